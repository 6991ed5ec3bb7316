abbrev cX4_init : ByteArray := prog_6_method_1_code
def yX4_init : MethodName := ⟨"ChainDesk$Natural", "<init>", "()V"⟩
def wX4_init : List Cond := .code yX4_init cX4_init 1 (Option.none : Option Jvm.ClassFile.FieldType) :: WG
theorem dX4_init_0 : decode cX4_init 0 = .ok (.aload_n 0, 1) := by decide +kernel
theorem dX4_init_1 : decode cX4_init 1 = .ok (.invokespecial 3, 3) := by decide +kernel
theorem dX4_init_4 : decode cX4_init 4 = .ok (.aload_n 0, 1) := by decide +kernel
theorem dX4_init_5 : decode cX4_init 5 = .ok (.bipush 16, 2) := by decide +kernel
theorem dX4_init_7 : decode cX4_init 7 = .ok (.newarray .int, 2) := by decide +kernel
theorem dX4_init_9 : decode cX4_init 9 = .ok (.putfield 9, 3) := by decide +kernel
theorem dX4_init_12 : decode cX4_init 12 = .ok (.return_, 1) := by decide +kernel
abbrev cX4_set : ByteArray := prog_6_method_2_code
def yX4_set : MethodName := ⟨"ChainDesk$Natural", "set", "(I)V"⟩
def wX4_set : List Cond := .code yX4_set cX4_set 3 (Option.none : Option Jvm.ClassFile.FieldType) :: WG
theorem dX4_set_0 : decode cX4_set 0 = .ok (.iconst 1, 1) := by decide +kernel
theorem dX4_set_1 : decode cX4_set 1 = .ok (.istore_n 2, 1) := by decide +kernel
theorem dX4_set_2 : decode cX4_set 2 = .ok (.iload_n 2, 1) := by decide +kernel
theorem dX4_set_3 : decode cX4_set 3 = .ok (.bipush 16, 2) := by decide +kernel
theorem dX4_set_5 : decode cX4_set 5 = .ok (.if_icmp .ge 16, 3) := by decide +kernel
theorem dX4_set_8 : decode cX4_set 8 = .ok (.aload_n 0, 1) := by decide +kernel
theorem dX4_set_9 : decode cX4_set 9 = .ok (.getfield 9, 3) := by decide +kernel
theorem dX4_set_12 : decode cX4_set 12 = .ok (.iload_n 2, 1) := by decide +kernel
theorem dX4_set_13 : decode cX4_set 13 = .ok (.iconst 0, 1) := by decide +kernel
theorem dX4_set_14 : decode cX4_set 14 = .ok (.iastore, 1) := by decide +kernel
theorem dX4_set_15 : decode cX4_set 15 = .ok (.iinc 2 1, 3) := by decide +kernel
theorem dX4_set_18 : decode cX4_set 18 = .ok (.goto (-16), 3) := by decide +kernel
theorem dX4_set_21 : decode cX4_set 21 = .ok (.aload_n 0, 1) := by decide +kernel
theorem dX4_set_22 : decode cX4_set 22 = .ok (.getfield 9, 3) := by decide +kernel
theorem dX4_set_25 : decode cX4_set 25 = .ok (.iconst 0, 1) := by decide +kernel
theorem dX4_set_26 : decode cX4_set 26 = .ok (.iload_n 1, 1) := by decide +kernel
theorem dX4_set_27 : decode cX4_set 27 = .ok (.iastore, 1) := by decide +kernel
theorem dX4_set_28 : decode cX4_set 28 = .ok (.return_, 1) := by decide +kernel
abbrev cX4_remainder : ByteArray := prog_6_method_14_code
def yX4_remainder : MethodName := ⟨"ChainDesk$Natural", "remainder", "(J)J"⟩
def wX4_remainder : List Cond := .code yX4_remainder cX4_remainder 6 (Option.some Jvm.ClassFile.FieldType.long) :: WG
theorem dX4_remainder_0 : decode cX4_remainder 0 = .ok (.lload_n 1, 1) := by decide +kernel
theorem dX4_remainder_1 : decode cX4_remainder 1 = .ok (.lconst 1, 1) := by decide +kernel
theorem dX4_remainder_2 : decode cX4_remainder 2 = .ok (.lcmp, 1) := by decide +kernel
theorem dX4_remainder_3 : decode cX4_remainder 3 = .ok (.ifCond .ge 5, 3) := by decide +kernel
theorem dX4_remainder_6 : decode cX4_remainder 6 = .ok (.lconst 0, 1) := by decide +kernel
theorem dX4_remainder_7 : decode cX4_remainder 7 = .ok (.lreturn, 1) := by decide +kernel
theorem dX4_remainder_8 : decode cX4_remainder 8 = .ok (.lconst 0, 1) := by decide +kernel
theorem dX4_remainder_9 : decode cX4_remainder 9 = .ok (.lstore_n 3, 1) := by decide +kernel
theorem dX4_remainder_10 : decode cX4_remainder 10 = .ok (.bipush 15, 2) := by decide +kernel
theorem dX4_remainder_12 : decode cX4_remainder 12 = .ok (.istore 5, 2) := by decide +kernel
theorem dX4_remainder_14 : decode cX4_remainder 14 = .ok (.iload 5, 2) := by decide +kernel
theorem dX4_remainder_16 : decode cX4_remainder 16 = .ok (.ifCond .lt 25, 3) := by decide +kernel
theorem dX4_remainder_19 : decode cX4_remainder 19 = .ok (.lload_n 3, 1) := by decide +kernel
theorem dX4_remainder_20 : decode cX4_remainder 20 = .ok (.bipush 31, 2) := by decide +kernel
theorem dX4_remainder_22 : decode cX4_remainder 22 = .ok (.lshl, 1) := by decide +kernel
theorem dX4_remainder_23 : decode cX4_remainder 23 = .ok (.aload_n 0, 1) := by decide +kernel
theorem dX4_remainder_24 : decode cX4_remainder 24 = .ok (.getfield 9, 3) := by decide +kernel
theorem dX4_remainder_27 : decode cX4_remainder 27 = .ok (.iload 5, 2) := by decide +kernel
theorem dX4_remainder_29 : decode cX4_remainder 29 = .ok (.iaload, 1) := by decide +kernel
theorem dX4_remainder_30 : decode cX4_remainder 30 = .ok (.i2l, 1) := by decide +kernel
theorem dX4_remainder_31 : decode cX4_remainder 31 = .ok (.ladd, 1) := by decide +kernel
theorem dX4_remainder_32 : decode cX4_remainder 32 = .ok (.lload_n 1, 1) := by decide +kernel
theorem dX4_remainder_33 : decode cX4_remainder 33 = .ok (.lrem, 1) := by decide +kernel
theorem dX4_remainder_34 : decode cX4_remainder 34 = .ok (.lstore_n 3, 1) := by decide +kernel
theorem dX4_remainder_35 : decode cX4_remainder 35 = .ok (.iinc 5 (-1), 3) := by decide +kernel
theorem dX4_remainder_38 : decode cX4_remainder 38 = .ok (.goto (-24), 3) := by decide +kernel
theorem dX4_remainder_41 : decode cX4_remainder 41 = .ok (.lload_n 3, 1) := by decide +kernel
theorem dX4_remainder_42 : decode cX4_remainder 42 = .ok (.lreturn, 1) := by decide +kernel
abbrev cX4_addMultiple : ByteArray := prog_6_method_11_code
def yX4_addMultiple : MethodName := ⟨"ChainDesk$Natural", "addMultiple", "(LChainDesk$Natural;J)V"⟩
def wX4_addMultiple : List Cond := .code yX4_addMultiple cX4_addMultiple 9 (Option.none : Option Jvm.ClassFile.FieldType) :: WG
theorem dX4_addMultiple_0 : decode cX4_addMultiple 0 = .ok (.lconst 0, 1) := by decide +kernel
theorem dX4_addMultiple_1 : decode cX4_addMultiple 1 = .ok (.lstore 4, 2) := by decide +kernel
theorem dX4_addMultiple_3 : decode cX4_addMultiple 3 = .ok (.iconst 0, 1) := by decide +kernel
theorem dX4_addMultiple_4 : decode cX4_addMultiple 4 = .ok (.istore 6, 2) := by decide +kernel
theorem dX4_addMultiple_6 : decode cX4_addMultiple 6 = .ok (.iload 6, 2) := by decide +kernel
theorem dX4_addMultiple_8 : decode cX4_addMultiple 8 = .ok (.bipush 16, 2) := by decide +kernel
theorem dX4_addMultiple_10 : decode cX4_addMultiple 10 = .ok (.if_icmp .ge 54, 3) := by decide +kernel
theorem dX4_addMultiple_13 : decode cX4_addMultiple 13 = .ok (.aload_n 0, 1) := by decide +kernel
theorem dX4_addMultiple_14 : decode cX4_addMultiple 14 = .ok (.getfield 9, 3) := by decide +kernel
theorem dX4_addMultiple_17 : decode cX4_addMultiple 17 = .ok (.iload 6, 2) := by decide +kernel
theorem dX4_addMultiple_19 : decode cX4_addMultiple 19 = .ok (.iaload, 1) := by decide +kernel
theorem dX4_addMultiple_20 : decode cX4_addMultiple 20 = .ok (.i2l, 1) := by decide +kernel
theorem dX4_addMultiple_21 : decode cX4_addMultiple 21 = .ok (.aload_n 1, 1) := by decide +kernel
theorem dX4_addMultiple_22 : decode cX4_addMultiple 22 = .ok (.getfield 9, 3) := by decide +kernel
theorem dX4_addMultiple_25 : decode cX4_addMultiple 25 = .ok (.iload 6, 2) := by decide +kernel
theorem dX4_addMultiple_27 : decode cX4_addMultiple 27 = .ok (.iaload, 1) := by decide +kernel
theorem dX4_addMultiple_28 : decode cX4_addMultiple 28 = .ok (.i2l, 1) := by decide +kernel
theorem dX4_addMultiple_29 : decode cX4_addMultiple 29 = .ok (.lload_n 2, 1) := by decide +kernel
theorem dX4_addMultiple_30 : decode cX4_addMultiple 30 = .ok (.lmul, 1) := by decide +kernel
theorem dX4_addMultiple_31 : decode cX4_addMultiple 31 = .ok (.ladd, 1) := by decide +kernel
theorem dX4_addMultiple_32 : decode cX4_addMultiple 32 = .ok (.lload 4, 2) := by decide +kernel
theorem dX4_addMultiple_34 : decode cX4_addMultiple 34 = .ok (.ladd, 1) := by decide +kernel
theorem dX4_addMultiple_35 : decode cX4_addMultiple 35 = .ok (.lstore 7, 2) := by decide +kernel
theorem dX4_addMultiple_37 : decode cX4_addMultiple 37 = .ok (.aload_n 0, 1) := by decide +kernel
theorem dX4_addMultiple_38 : decode cX4_addMultiple 38 = .ok (.getfield 9, 3) := by decide +kernel
theorem dX4_addMultiple_41 : decode cX4_addMultiple 41 = .ok (.iload 6, 2) := by decide +kernel
theorem dX4_addMultiple_43 : decode cX4_addMultiple 43 = .ok (.lload 7, 2) := by decide +kernel
theorem dX4_addMultiple_45 : decode cX4_addMultiple 45 = .ok (.ldc2_w 21, 3) := by decide +kernel
theorem dX4_addMultiple_48 : decode cX4_addMultiple 48 = .ok (.land, 1) := by decide +kernel
theorem dX4_addMultiple_49 : decode cX4_addMultiple 49 = .ok (.l2i, 1) := by decide +kernel
theorem dX4_addMultiple_50 : decode cX4_addMultiple 50 = .ok (.iastore, 1) := by decide +kernel
theorem dX4_addMultiple_51 : decode cX4_addMultiple 51 = .ok (.lload 7, 2) := by decide +kernel
theorem dX4_addMultiple_53 : decode cX4_addMultiple 53 = .ok (.bipush 31, 2) := by decide +kernel
theorem dX4_addMultiple_55 : decode cX4_addMultiple 55 = .ok (.lushr, 1) := by decide +kernel
theorem dX4_addMultiple_56 : decode cX4_addMultiple 56 = .ok (.lstore 4, 2) := by decide +kernel
theorem dX4_addMultiple_58 : decode cX4_addMultiple 58 = .ok (.iinc 6 1, 3) := by decide +kernel
theorem dX4_addMultiple_61 : decode cX4_addMultiple 61 = .ok (.goto (-55), 3) := by decide +kernel
theorem dX4_addMultiple_64 : decode cX4_addMultiple 64 = .ok (.return_, 1) := by decide +kernel
abbrev cX4_multiply : ByteArray := prog_6_method_12_code
def yX4_multiply : MethodName := ⟨"ChainDesk$Natural", "multiply", "(J)V"⟩
def wX4_multiply : List Cond := .code yX4_multiply cX4_multiply 8 (Option.none : Option Jvm.ClassFile.FieldType) :: WG
theorem dX4_multiply_0 : decode cX4_multiply 0 = .ok (.lconst 0, 1) := by decide +kernel
theorem dX4_multiply_1 : decode cX4_multiply 1 = .ok (.lstore_n 3, 1) := by decide +kernel
theorem dX4_multiply_2 : decode cX4_multiply 2 = .ok (.iconst 0, 1) := by decide +kernel
theorem dX4_multiply_3 : decode cX4_multiply 3 = .ok (.istore 5, 2) := by decide +kernel
theorem dX4_multiply_5 : decode cX4_multiply 5 = .ok (.iload 5, 2) := by decide +kernel
theorem dX4_multiply_7 : decode cX4_multiply 7 = .ok (.bipush 16, 2) := by decide +kernel
theorem dX4_multiply_9 : decode cX4_multiply 9 = .ok (.if_icmp .ge 43, 3) := by decide +kernel
theorem dX4_multiply_12 : decode cX4_multiply 12 = .ok (.aload_n 0, 1) := by decide +kernel
theorem dX4_multiply_13 : decode cX4_multiply 13 = .ok (.getfield 9, 3) := by decide +kernel
theorem dX4_multiply_16 : decode cX4_multiply 16 = .ok (.iload 5, 2) := by decide +kernel
theorem dX4_multiply_18 : decode cX4_multiply 18 = .ok (.iaload, 1) := by decide +kernel
theorem dX4_multiply_19 : decode cX4_multiply 19 = .ok (.i2l, 1) := by decide +kernel
theorem dX4_multiply_20 : decode cX4_multiply 20 = .ok (.lload_n 1, 1) := by decide +kernel
theorem dX4_multiply_21 : decode cX4_multiply 21 = .ok (.lmul, 1) := by decide +kernel
theorem dX4_multiply_22 : decode cX4_multiply 22 = .ok (.lload_n 3, 1) := by decide +kernel
theorem dX4_multiply_23 : decode cX4_multiply 23 = .ok (.ladd, 1) := by decide +kernel
theorem dX4_multiply_24 : decode cX4_multiply 24 = .ok (.lstore 6, 2) := by decide +kernel
theorem dX4_multiply_26 : decode cX4_multiply 26 = .ok (.aload_n 0, 1) := by decide +kernel
theorem dX4_multiply_27 : decode cX4_multiply 27 = .ok (.getfield 9, 3) := by decide +kernel
theorem dX4_multiply_30 : decode cX4_multiply 30 = .ok (.iload 5, 2) := by decide +kernel
theorem dX4_multiply_32 : decode cX4_multiply 32 = .ok (.lload 6, 2) := by decide +kernel
theorem dX4_multiply_34 : decode cX4_multiply 34 = .ok (.ldc2_w 21, 3) := by decide +kernel
theorem dX4_multiply_37 : decode cX4_multiply 37 = .ok (.land, 1) := by decide +kernel
theorem dX4_multiply_38 : decode cX4_multiply 38 = .ok (.l2i, 1) := by decide +kernel
theorem dX4_multiply_39 : decode cX4_multiply 39 = .ok (.iastore, 1) := by decide +kernel
theorem dX4_multiply_40 : decode cX4_multiply 40 = .ok (.lload 6, 2) := by decide +kernel
theorem dX4_multiply_42 : decode cX4_multiply 42 = .ok (.bipush 31, 2) := by decide +kernel
theorem dX4_multiply_44 : decode cX4_multiply 44 = .ok (.lushr, 1) := by decide +kernel
theorem dX4_multiply_45 : decode cX4_multiply 45 = .ok (.lstore_n 3, 1) := by decide +kernel
theorem dX4_multiply_46 : decode cX4_multiply 46 = .ok (.iinc 5 1, 3) := by decide +kernel
theorem dX4_multiply_49 : decode cX4_multiply 49 = .ok (.goto (-44), 3) := by decide +kernel
theorem dX4_multiply_52 : decode cX4_multiply 52 = .ok (.return_, 1) := by decide +kernel
abbrev cX4_copy : ByteArray := prog_6_method_3_code
def yX4_copy : MethodName := ⟨"ChainDesk$Natural", "copy", "(LChainDesk$Natural;)V"⟩
def wX4_copy : List Cond := .code yX4_copy cX4_copy 3 (Option.none : Option Jvm.ClassFile.FieldType) :: WG
theorem dX4_copy_0 : decode cX4_copy 0 = .ok (.iconst 0, 1) := by decide +kernel
theorem dX4_copy_1 : decode cX4_copy 1 = .ok (.istore_n 2, 1) := by decide +kernel
theorem dX4_copy_2 : decode cX4_copy 2 = .ok (.iload_n 2, 1) := by decide +kernel
theorem dX4_copy_3 : decode cX4_copy 3 = .ok (.bipush 16, 2) := by decide +kernel
theorem dX4_copy_5 : decode cX4_copy 5 = .ok (.if_icmp .ge 21, 3) := by decide +kernel
theorem dX4_copy_8 : decode cX4_copy 8 = .ok (.aload_n 0, 1) := by decide +kernel
theorem dX4_copy_9 : decode cX4_copy 9 = .ok (.getfield 9, 3) := by decide +kernel
theorem dX4_copy_12 : decode cX4_copy 12 = .ok (.iload_n 2, 1) := by decide +kernel
theorem dX4_copy_13 : decode cX4_copy 13 = .ok (.aload_n 1, 1) := by decide +kernel
theorem dX4_copy_14 : decode cX4_copy 14 = .ok (.getfield 9, 3) := by decide +kernel
theorem dX4_copy_17 : decode cX4_copy 17 = .ok (.iload_n 2, 1) := by decide +kernel
theorem dX4_copy_18 : decode cX4_copy 18 = .ok (.iaload, 1) := by decide +kernel
theorem dX4_copy_19 : decode cX4_copy 19 = .ok (.iastore, 1) := by decide +kernel
theorem dX4_copy_20 : decode cX4_copy 20 = .ok (.iinc 2 1, 3) := by decide +kernel
theorem dX4_copy_23 : decode cX4_copy 23 = .ok (.goto (-21), 3) := by decide +kernel
theorem dX4_copy_26 : decode cX4_copy 26 = .ok (.return_, 1) := by decide +kernel
abbrev cX4_isZero : ByteArray := prog_6_method_4_code
def yX4_isZero : MethodName := ⟨"ChainDesk$Natural", "isZero", "()Z"⟩
def wX4_isZero : List Cond := .code yX4_isZero cX4_isZero 1 (Option.some Jvm.ClassFile.FieldType.boolean) :: WG
theorem dX4_isZero_0 : decode cX4_isZero 0 = .ok (.aload_n 0, 1) := by decide +kernel
theorem dX4_isZero_1 : decode cX4_isZero 1 = .ok (.getfield 9, 3) := by decide +kernel
theorem dX4_isZero_4 : decode cX4_isZero 4 = .ok (.iconst 0, 1) := by decide +kernel
theorem dX4_isZero_5 : decode cX4_isZero 5 = .ok (.iaload, 1) := by decide +kernel
theorem dX4_isZero_6 : decode cX4_isZero 6 = .ok (.ifCond .ne 14, 3) := by decide +kernel
theorem dX4_isZero_9 : decode cX4_isZero 9 = .ok (.aload_n 0, 1) := by decide +kernel
theorem dX4_isZero_10 : decode cX4_isZero 10 = .ok (.invokevirtual 13, 3) := by decide +kernel
theorem dX4_isZero_13 : decode cX4_isZero 13 = .ok (.ifCond .eq 7, 3) := by decide +kernel
theorem dX4_isZero_16 : decode cX4_isZero 16 = .ok (.iconst 1, 1) := by decide +kernel
theorem dX4_isZero_17 : decode cX4_isZero 17 = .ok (.goto 4, 3) := by decide +kernel
theorem dX4_isZero_20 : decode cX4_isZero 20 = .ok (.iconst 0, 1) := by decide +kernel
theorem dX4_isZero_21 : decode cX4_isZero 21 = .ok (.ireturn, 1) := by decide +kernel
abbrev cX4_upperIsZero : ByteArray := prog_6_method_6_code
def yX4_upperIsZero : MethodName := ⟨"ChainDesk$Natural", "upperIsZero", "()Z"⟩
def wX4_upperIsZero : List Cond := .code yX4_upperIsZero cX4_upperIsZero 2 (Option.some Jvm.ClassFile.FieldType.boolean) :: WG
theorem dX4_upperIsZero_0 : decode cX4_upperIsZero 0 = .ok (.iconst 1, 1) := by decide +kernel
theorem dX4_upperIsZero_1 : decode cX4_upperIsZero 1 = .ok (.istore_n 1, 1) := by decide +kernel
theorem dX4_upperIsZero_2 : decode cX4_upperIsZero 2 = .ok (.iload_n 1, 1) := by decide +kernel
theorem dX4_upperIsZero_3 : decode cX4_upperIsZero 3 = .ok (.bipush 16, 2) := by decide +kernel
theorem dX4_upperIsZero_5 : decode cX4_upperIsZero 5 = .ok (.if_icmp .ge 20, 3) := by decide +kernel
theorem dX4_upperIsZero_8 : decode cX4_upperIsZero 8 = .ok (.aload_n 0, 1) := by decide +kernel
theorem dX4_upperIsZero_9 : decode cX4_upperIsZero 9 = .ok (.getfield 9, 3) := by decide +kernel
theorem dX4_upperIsZero_12 : decode cX4_upperIsZero 12 = .ok (.iload_n 1, 1) := by decide +kernel
theorem dX4_upperIsZero_13 : decode cX4_upperIsZero 13 = .ok (.iaload, 1) := by decide +kernel
theorem dX4_upperIsZero_14 : decode cX4_upperIsZero 14 = .ok (.ifCond .eq 5, 3) := by decide +kernel
theorem dX4_upperIsZero_17 : decode cX4_upperIsZero 17 = .ok (.iconst 0, 1) := by decide +kernel
theorem dX4_upperIsZero_18 : decode cX4_upperIsZero 18 = .ok (.ireturn, 1) := by decide +kernel
theorem dX4_upperIsZero_19 : decode cX4_upperIsZero 19 = .ok (.iinc 1 1, 3) := by decide +kernel
theorem dX4_upperIsZero_22 : decode cX4_upperIsZero 22 = .ok (.goto (-20), 3) := by decide +kernel
theorem dX4_upperIsZero_25 : decode cX4_upperIsZero 25 = .ok (.iconst 1, 1) := by decide +kernel
theorem dX4_upperIsZero_26 : decode cX4_upperIsZero 26 = .ok (.ireturn, 1) := by decide +kernel
abbrev cX4_isEven : ByteArray := prog_6_method_7_code
def yX4_isEven : MethodName := ⟨"ChainDesk$Natural", "isEven", "()Z"⟩
def wX4_isEven : List Cond := .code yX4_isEven cX4_isEven 1 (Option.some Jvm.ClassFile.FieldType.boolean) :: WG
theorem dX4_isEven_0 : decode cX4_isEven 0 = .ok (.aload_n 0, 1) := by decide +kernel
theorem dX4_isEven_1 : decode cX4_isEven 1 = .ok (.getfield 9, 3) := by decide +kernel
theorem dX4_isEven_4 : decode cX4_isEven 4 = .ok (.iconst 0, 1) := by decide +kernel
theorem dX4_isEven_5 : decode cX4_isEven 5 = .ok (.iaload, 1) := by decide +kernel
theorem dX4_isEven_6 : decode cX4_isEven 6 = .ok (.iconst 1, 1) := by decide +kernel
theorem dX4_isEven_7 : decode cX4_isEven 7 = .ok (.iand, 1) := by decide +kernel
theorem dX4_isEven_8 : decode cX4_isEven 8 = .ok (.ifCond .ne 7, 3) := by decide +kernel
theorem dX4_isEven_11 : decode cX4_isEven 11 = .ok (.iconst 1, 1) := by decide +kernel
theorem dX4_isEven_12 : decode cX4_isEven 12 = .ok (.goto 4, 3) := by decide +kernel
theorem dX4_isEven_15 : decode cX4_isEven 15 = .ok (.iconst 0, 1) := by decide +kernel
theorem dX4_isEven_16 : decode cX4_isEven 16 = .ok (.ireturn, 1) := by decide +kernel
abbrev cX4_lowTwos : ByteArray := prog_6_method_16_code
def yX4_lowTwos : MethodName := ⟨"ChainDesk$Natural", "lowTwos", "()I"⟩
def wX4_lowTwos : List Cond := .code yX4_lowTwos cX4_lowTwos 2 (Option.some Jvm.ClassFile.FieldType.int) :: WG
theorem dX4_lowTwos_0 : decode cX4_lowTwos 0 = .ok (.aload_n 0, 1) := by decide +kernel
theorem dX4_lowTwos_1 : decode cX4_lowTwos 1 = .ok (.getfield 9, 3) := by decide +kernel
theorem dX4_lowTwos_4 : decode cX4_lowTwos 4 = .ok (.iconst 0, 1) := by decide +kernel
theorem dX4_lowTwos_5 : decode cX4_lowTwos 5 = .ok (.iaload, 1) := by decide +kernel
theorem dX4_lowTwos_6 : decode cX4_lowTwos 6 = .ok (.istore_n 1, 1) := by decide +kernel
theorem dX4_lowTwos_7 : decode cX4_lowTwos 7 = .ok (.iload_n 1, 1) := by decide +kernel
theorem dX4_lowTwos_8 : decode cX4_lowTwos 8 = .ok (.ifCond .ne 8, 3) := by decide +kernel
theorem dX4_lowTwos_11 : decode cX4_lowTwos 11 = .ok (.bipush 31, 2) := by decide +kernel
theorem dX4_lowTwos_13 : decode cX4_lowTwos 13 = .ok (.goto 12, 3) := by decide +kernel
theorem dX4_lowTwos_16 : decode cX4_lowTwos 16 = .ok (.iload_n 1, 1) := by decide +kernel
theorem dX4_lowTwos_17 : decode cX4_lowTwos 17 = .ok (.iload_n 1, 1) := by decide +kernel
theorem dX4_lowTwos_18 : decode cX4_lowTwos 18 = .ok (.ineg, 1) := by decide +kernel
theorem dX4_lowTwos_19 : decode cX4_lowTwos 19 = .ok (.iand, 1) := by decide +kernel
theorem dX4_lowTwos_20 : decode cX4_lowTwos 20 = .ok (.iconst 1, 1) := by decide +kernel
theorem dX4_lowTwos_21 : decode cX4_lowTwos 21 = .ok (.isub, 1) := by decide +kernel
theorem dX4_lowTwos_22 : decode cX4_lowTwos 22 = .ok (.invokestatic 26, 3) := by decide +kernel
theorem dX4_lowTwos_25 : decode cX4_lowTwos 25 = .ok (.ireturn, 1) := by decide +kernel
abbrev cX4_shiftRight : ByteArray := prog_6_method_17_code
def yX4_shiftRight : MethodName := ⟨"ChainDesk$Natural", "shiftRight", "(I)V"⟩
def wX4_shiftRight : List Cond := .code yX4_shiftRight cX4_shiftRight 4 (Option.none : Option Jvm.ClassFile.FieldType) :: WG
theorem dX4_shiftRight_0 : decode cX4_shiftRight 0 = .ok (.iconst 0, 1) := by decide +kernel
theorem dX4_shiftRight_1 : decode cX4_shiftRight 1 = .ok (.istore_n 2, 1) := by decide +kernel
theorem dX4_shiftRight_2 : decode cX4_shiftRight 2 = .ok (.iload_n 2, 1) := by decide +kernel
theorem dX4_shiftRight_3 : decode cX4_shiftRight 3 = .ok (.bipush 16, 2) := by decide +kernel
theorem dX4_shiftRight_5 : decode cX4_shiftRight 5 = .ok (.if_icmp .ge 54, 3) := by decide +kernel
theorem dX4_shiftRight_8 : decode cX4_shiftRight 8 = .ok (.iload_n 2, 1) := by decide +kernel
theorem dX4_shiftRight_9 : decode cX4_shiftRight 9 = .ok (.iconst 1, 1) := by decide +kernel
theorem dX4_shiftRight_10 : decode cX4_shiftRight 10 = .ok (.iadd, 1) := by decide +kernel
theorem dX4_shiftRight_11 : decode cX4_shiftRight 11 = .ok (.bipush 16, 2) := by decide +kernel
theorem dX4_shiftRight_13 : decode cX4_shiftRight 13 = .ok (.if_icmp .ge 14, 3) := by decide +kernel
theorem dX4_shiftRight_16 : decode cX4_shiftRight 16 = .ok (.aload_n 0, 1) := by decide +kernel
theorem dX4_shiftRight_17 : decode cX4_shiftRight 17 = .ok (.getfield 9, 3) := by decide +kernel
theorem dX4_shiftRight_20 : decode cX4_shiftRight 20 = .ok (.iload_n 2, 1) := by decide +kernel
theorem dX4_shiftRight_21 : decode cX4_shiftRight 21 = .ok (.iconst 1, 1) := by decide +kernel
theorem dX4_shiftRight_22 : decode cX4_shiftRight 22 = .ok (.iadd, 1) := by decide +kernel
theorem dX4_shiftRight_23 : decode cX4_shiftRight 23 = .ok (.iaload, 1) := by decide +kernel
theorem dX4_shiftRight_24 : decode cX4_shiftRight 24 = .ok (.goto 4, 3) := by decide +kernel
theorem dX4_shiftRight_27 : decode cX4_shiftRight 27 = .ok (.iconst 0, 1) := by decide +kernel
theorem dX4_shiftRight_28 : decode cX4_shiftRight 28 = .ok (.istore_n 3, 1) := by decide +kernel
theorem dX4_shiftRight_29 : decode cX4_shiftRight 29 = .ok (.aload_n 0, 1) := by decide +kernel
theorem dX4_shiftRight_30 : decode cX4_shiftRight 30 = .ok (.getfield 9, 3) := by decide +kernel
theorem dX4_shiftRight_33 : decode cX4_shiftRight 33 = .ok (.iload_n 2, 1) := by decide +kernel
theorem dX4_shiftRight_34 : decode cX4_shiftRight 34 = .ok (.aload_n 0, 1) := by decide +kernel
theorem dX4_shiftRight_35 : decode cX4_shiftRight 35 = .ok (.getfield 9, 3) := by decide +kernel
theorem dX4_shiftRight_38 : decode cX4_shiftRight 38 = .ok (.iload_n 2, 1) := by decide +kernel
theorem dX4_shiftRight_39 : decode cX4_shiftRight 39 = .ok (.iaload, 1) := by decide +kernel
theorem dX4_shiftRight_40 : decode cX4_shiftRight 40 = .ok (.iload_n 1, 1) := by decide +kernel
theorem dX4_shiftRight_41 : decode cX4_shiftRight 41 = .ok (.iushr, 1) := by decide +kernel
theorem dX4_shiftRight_42 : decode cX4_shiftRight 42 = .ok (.iload_n 3, 1) := by decide +kernel
theorem dX4_shiftRight_43 : decode cX4_shiftRight 43 = .ok (.bipush 31, 2) := by decide +kernel
theorem dX4_shiftRight_45 : decode cX4_shiftRight 45 = .ok (.iload_n 1, 1) := by decide +kernel
theorem dX4_shiftRight_46 : decode cX4_shiftRight 46 = .ok (.isub, 1) := by decide +kernel
theorem dX4_shiftRight_47 : decode cX4_shiftRight 47 = .ok (.ishl, 1) := by decide +kernel
theorem dX4_shiftRight_48 : decode cX4_shiftRight 48 = .ok (.ldc 23, 2) := by decide +kernel
theorem dX4_shiftRight_50 : decode cX4_shiftRight 50 = .ok (.iand, 1) := by decide +kernel
theorem dX4_shiftRight_51 : decode cX4_shiftRight 51 = .ok (.ior, 1) := by decide +kernel
theorem dX4_shiftRight_52 : decode cX4_shiftRight 52 = .ok (.iastore, 1) := by decide +kernel
theorem dX4_shiftRight_53 : decode cX4_shiftRight 53 = .ok (.iinc 2 1, 3) := by decide +kernel
theorem dX4_shiftRight_56 : decode cX4_shiftRight 56 = .ok (.goto (-54), 3) := by decide +kernel
theorem dX4_shiftRight_59 : decode cX4_shiftRight 59 = .ok (.return_, 1) := by decide +kernel
abbrev cX4_dropTwos : ByteArray := prog_6_method_18_code
def yX4_dropTwos : MethodName := ⟨"ChainDesk$Natural", "dropTwos", "()V"⟩
def wX4_dropTwos : List Cond := .code yX4_dropTwos cX4_dropTwos 2 (Option.none : Option Jvm.ClassFile.FieldType) :: WG
theorem dX4_dropTwos_0 : decode cX4_dropTwos 0 = .ok (.iconst 0, 1) := by decide +kernel
theorem dX4_dropTwos_1 : decode cX4_dropTwos 1 = .ok (.istore_n 1, 1) := by decide +kernel
theorem dX4_dropTwos_2 : decode cX4_dropTwos 2 = .ok (.iload_n 1, 1) := by decide +kernel
theorem dX4_dropTwos_3 : decode cX4_dropTwos 3 = .ok (.bipush 16, 2) := by decide +kernel
theorem dX4_dropTwos_5 : decode cX4_dropTwos 5 = .ok (.if_icmp .gt 24, 3) := by decide +kernel
theorem dX4_dropTwos_8 : decode cX4_dropTwos 8 = .ok (.aload_n 0, 1) := by decide +kernel
theorem dX4_dropTwos_9 : decode cX4_dropTwos 9 = .ok (.invokevirtual 31, 3) := by decide +kernel
theorem dX4_dropTwos_12 : decode cX4_dropTwos 12 = .ok (.ifCond .eq 17, 3) := by decide +kernel
theorem dX4_dropTwos_15 : decode cX4_dropTwos 15 = .ok (.aload_n 0, 1) := by decide +kernel
theorem dX4_dropTwos_16 : decode cX4_dropTwos 16 = .ok (.aload_n 0, 1) := by decide +kernel
theorem dX4_dropTwos_17 : decode cX4_dropTwos 17 = .ok (.invokevirtual 34, 3) := by decide +kernel
theorem dX4_dropTwos_20 : decode cX4_dropTwos 20 = .ok (.invokevirtual 38, 3) := by decide +kernel
theorem dX4_dropTwos_23 : decode cX4_dropTwos 23 = .ok (.iinc 1 1, 3) := by decide +kernel
theorem dX4_dropTwos_26 : decode cX4_dropTwos 26 = .ok (.goto (-24), 3) := by decide +kernel
theorem dX4_dropTwos_29 : decode cX4_dropTwos 29 = .ok (.return_, 1) := by decide +kernel
abbrev cX4_order : ByteArray := prog_6_method_8_code
def yX4_order : MethodName := ⟨"ChainDesk$Natural", "order", "(LChainDesk$Natural;)I"⟩
def wX4_order : List Cond := .code yX4_order cX4_order 3 (Option.some Jvm.ClassFile.FieldType.int) :: WG
theorem dX4_order_0 : decode cX4_order 0 = .ok (.bipush 15, 2) := by decide +kernel
theorem dX4_order_2 : decode cX4_order 2 = .ok (.istore_n 2, 1) := by decide +kernel
theorem dX4_order_3 : decode cX4_order 3 = .ok (.iload_n 2, 1) := by decide +kernel
theorem dX4_order_4 : decode cX4_order 4 = .ok (.ifCond .lt 45, 3) := by decide +kernel
theorem dX4_order_7 : decode cX4_order 7 = .ok (.aload_n 0, 1) := by decide +kernel
theorem dX4_order_8 : decode cX4_order 8 = .ok (.getfield 9, 3) := by decide +kernel
theorem dX4_order_11 : decode cX4_order 11 = .ok (.iload_n 2, 1) := by decide +kernel
theorem dX4_order_12 : decode cX4_order 12 = .ok (.iaload, 1) := by decide +kernel
theorem dX4_order_13 : decode cX4_order 13 = .ok (.aload_n 1, 1) := by decide +kernel
theorem dX4_order_14 : decode cX4_order 14 = .ok (.getfield 9, 3) := by decide +kernel
theorem dX4_order_17 : decode cX4_order 17 = .ok (.iload_n 2, 1) := by decide +kernel
theorem dX4_order_18 : decode cX4_order 18 = .ok (.iaload, 1) := by decide +kernel
theorem dX4_order_19 : decode cX4_order 19 = .ok (.if_icmp .eq 24, 3) := by decide +kernel
theorem dX4_order_22 : decode cX4_order 22 = .ok (.aload_n 0, 1) := by decide +kernel
theorem dX4_order_23 : decode cX4_order 23 = .ok (.getfield 9, 3) := by decide +kernel
theorem dX4_order_26 : decode cX4_order 26 = .ok (.iload_n 2, 1) := by decide +kernel
theorem dX4_order_27 : decode cX4_order 27 = .ok (.iaload, 1) := by decide +kernel
theorem dX4_order_28 : decode cX4_order 28 = .ok (.aload_n 1, 1) := by decide +kernel
theorem dX4_order_29 : decode cX4_order 29 = .ok (.getfield 9, 3) := by decide +kernel
theorem dX4_order_32 : decode cX4_order 32 = .ok (.iload_n 2, 1) := by decide +kernel
theorem dX4_order_33 : decode cX4_order 33 = .ok (.iaload, 1) := by decide +kernel
theorem dX4_order_34 : decode cX4_order 34 = .ok (.if_icmp .ge 7, 3) := by decide +kernel
theorem dX4_order_37 : decode cX4_order 37 = .ok (.iconst (-1), 1) := by decide +kernel
theorem dX4_order_38 : decode cX4_order 38 = .ok (.goto 4, 3) := by decide +kernel
theorem dX4_order_41 : decode cX4_order 41 = .ok (.iconst 1, 1) := by decide +kernel
theorem dX4_order_42 : decode cX4_order 42 = .ok (.ireturn, 1) := by decide +kernel
theorem dX4_order_43 : decode cX4_order 43 = .ok (.iinc 2 (-1), 3) := by decide +kernel
theorem dX4_order_46 : decode cX4_order 46 = .ok (.goto (-43), 3) := by decide +kernel
theorem dX4_order_49 : decode cX4_order 49 = .ok (.iconst 0, 1) := by decide +kernel
theorem dX4_order_50 : decode cX4_order 50 = .ok (.ireturn, 1) := by decide +kernel
abbrev cX4_subtract : ByteArray := prog_6_method_13_code
def yX4_subtract : MethodName := ⟨"ChainDesk$Natural", "subtract", "(LChainDesk$Natural;)V"⟩
def wX4_subtract : List Cond := .code yX4_subtract cX4_subtract 5 (Option.none : Option Jvm.ClassFile.FieldType) :: WG
theorem dX4_subtract_0 : decode cX4_subtract 0 = .ok (.iconst 0, 1) := by decide +kernel
theorem dX4_subtract_1 : decode cX4_subtract 1 = .ok (.istore_n 2, 1) := by decide +kernel
theorem dX4_subtract_2 : decode cX4_subtract 2 = .ok (.iconst 0, 1) := by decide +kernel
theorem dX4_subtract_3 : decode cX4_subtract 3 = .ok (.istore_n 3, 1) := by decide +kernel
theorem dX4_subtract_4 : decode cX4_subtract 4 = .ok (.iload_n 3, 1) := by decide +kernel
theorem dX4_subtract_5 : decode cX4_subtract 5 = .ok (.bipush 16, 2) := by decide +kernel
theorem dX4_subtract_7 : decode cX4_subtract 7 = .ok (.if_icmp .ge 43, 3) := by decide +kernel
theorem dX4_subtract_10 : decode cX4_subtract 10 = .ok (.aload_n 0, 1) := by decide +kernel
theorem dX4_subtract_11 : decode cX4_subtract 11 = .ok (.getfield 9, 3) := by decide +kernel
theorem dX4_subtract_14 : decode cX4_subtract 14 = .ok (.iload_n 3, 1) := by decide +kernel
theorem dX4_subtract_15 : decode cX4_subtract 15 = .ok (.iaload, 1) := by decide +kernel
theorem dX4_subtract_16 : decode cX4_subtract 16 = .ok (.aload_n 1, 1) := by decide +kernel
theorem dX4_subtract_17 : decode cX4_subtract 17 = .ok (.getfield 9, 3) := by decide +kernel
theorem dX4_subtract_20 : decode cX4_subtract 20 = .ok (.iload_n 3, 1) := by decide +kernel
theorem dX4_subtract_21 : decode cX4_subtract 21 = .ok (.iaload, 1) := by decide +kernel
theorem dX4_subtract_22 : decode cX4_subtract 22 = .ok (.isub, 1) := by decide +kernel
theorem dX4_subtract_23 : decode cX4_subtract 23 = .ok (.iload_n 2, 1) := by decide +kernel
theorem dX4_subtract_24 : decode cX4_subtract 24 = .ok (.isub, 1) := by decide +kernel
theorem dX4_subtract_25 : decode cX4_subtract 25 = .ok (.istore 4, 2) := by decide +kernel
theorem dX4_subtract_27 : decode cX4_subtract 27 = .ok (.aload_n 0, 1) := by decide +kernel
theorem dX4_subtract_28 : decode cX4_subtract 28 = .ok (.getfield 9, 3) := by decide +kernel
theorem dX4_subtract_31 : decode cX4_subtract 31 = .ok (.iload_n 3, 1) := by decide +kernel
theorem dX4_subtract_32 : decode cX4_subtract 32 = .ok (.iload 4, 2) := by decide +kernel
theorem dX4_subtract_34 : decode cX4_subtract 34 = .ok (.ldc 23, 2) := by decide +kernel
theorem dX4_subtract_36 : decode cX4_subtract 36 = .ok (.iand, 1) := by decide +kernel
theorem dX4_subtract_37 : decode cX4_subtract 37 = .ok (.iastore, 1) := by decide +kernel
theorem dX4_subtract_38 : decode cX4_subtract 38 = .ok (.iload 4, 2) := by decide +kernel
theorem dX4_subtract_40 : decode cX4_subtract 40 = .ok (.bipush 31, 2) := by decide +kernel
theorem dX4_subtract_42 : decode cX4_subtract 42 = .ok (.iushr, 1) := by decide +kernel
theorem dX4_subtract_43 : decode cX4_subtract 43 = .ok (.istore_n 2, 1) := by decide +kernel
theorem dX4_subtract_44 : decode cX4_subtract 44 = .ok (.iinc 3 1, 3) := by decide +kernel
theorem dX4_subtract_47 : decode cX4_subtract 47 = .ok (.goto (-43), 3) := by decide +kernel
theorem dX4_subtract_50 : decode cX4_subtract 50 = .ok (.return_, 1) := by decide +kernel
abbrev cX4_divideByOddDivisor : ByteArray := prog_6_method_19_code
def yX4_divideByOddDivisor : MethodName := ⟨"ChainDesk$Natural", "divideByOddDivisor", "(LChainDesk$Natural;)V"⟩
def wX4_divideByOddDivisor : List Cond := .code yX4_divideByOddDivisor cX4_divideByOddDivisor 5 (Option.none : Option Jvm.ClassFile.FieldType) :: WG
theorem dX4_divideByOddDivisor_0 : decode cX4_divideByOddDivisor 0 = .ok (.aload_n 1, 1) := by decide +kernel
theorem dX4_divideByOddDivisor_1 : decode cX4_divideByOddDivisor 1 = .ok (.getfield 9, 3) := by decide +kernel
theorem dX4_divideByOddDivisor_4 : decode cX4_divideByOddDivisor 4 = .ok (.iconst 0, 1) := by decide +kernel
theorem dX4_divideByOddDivisor_5 : decode cX4_divideByOddDivisor 5 = .ok (.iaload, 1) := by decide +kernel
theorem dX4_divideByOddDivisor_6 : decode cX4_divideByOddDivisor 6 = .ok (.invokestatic 42, 3) := by decide +kernel
theorem dX4_divideByOddDivisor_9 : decode cX4_divideByOddDivisor 9 = .ok (.istore_n 2, 1) := by decide +kernel
theorem dX4_divideByOddDivisor_10 : decode cX4_divideByOddDivisor 10 = .ok (.iconst 0, 1) := by decide +kernel
theorem dX4_divideByOddDivisor_11 : decode cX4_divideByOddDivisor 11 = .ok (.istore_n 3, 1) := by decide +kernel
theorem dX4_divideByOddDivisor_12 : decode cX4_divideByOddDivisor 12 = .ok (.iload_n 3, 1) := by decide +kernel
theorem dX4_divideByOddDivisor_13 : decode cX4_divideByOddDivisor 13 = .ok (.bipush 16, 2) := by decide +kernel
theorem dX4_divideByOddDivisor_15 : decode cX4_divideByOddDivisor 15 = .ok (.if_icmp .ge 39, 3) := by decide +kernel
theorem dX4_divideByOddDivisor_18 : decode cX4_divideByOddDivisor 18 = .ok (.aload_n 0, 1) := by decide +kernel
theorem dX4_divideByOddDivisor_19 : decode cX4_divideByOddDivisor 19 = .ok (.getfield 9, 3) := by decide +kernel
theorem dX4_divideByOddDivisor_22 : decode cX4_divideByOddDivisor 22 = .ok (.iload_n 3, 1) := by decide +kernel
theorem dX4_divideByOddDivisor_23 : decode cX4_divideByOddDivisor 23 = .ok (.iaload, 1) := by decide +kernel
theorem dX4_divideByOddDivisor_24 : decode cX4_divideByOddDivisor 24 = .ok (.iload_n 2, 1) := by decide +kernel
theorem dX4_divideByOddDivisor_25 : decode cX4_divideByOddDivisor 25 = .ok (.imul, 1) := by decide +kernel
theorem dX4_divideByOddDivisor_26 : decode cX4_divideByOddDivisor 26 = .ok (.ldc 23, 2) := by decide +kernel
theorem dX4_divideByOddDivisor_28 : decode cX4_divideByOddDivisor 28 = .ok (.iand, 1) := by decide +kernel
theorem dX4_divideByOddDivisor_29 : decode cX4_divideByOddDivisor 29 = .ok (.istore 4, 2) := by decide +kernel
theorem dX4_divideByOddDivisor_31 : decode cX4_divideByOddDivisor 31 = .ok (.aload_n 0, 1) := by decide +kernel
theorem dX4_divideByOddDivisor_32 : decode cX4_divideByOddDivisor 32 = .ok (.aload_n 1, 1) := by decide +kernel
theorem dX4_divideByOddDivisor_33 : decode cX4_divideByOddDivisor 33 = .ok (.iload 4, 2) := by decide +kernel
theorem dX4_divideByOddDivisor_35 : decode cX4_divideByOddDivisor 35 = .ok (.i2l, 1) := by decide +kernel
theorem dX4_divideByOddDivisor_36 : decode cX4_divideByOddDivisor 36 = .ok (.iload_n 3, 1) := by decide +kernel
theorem dX4_divideByOddDivisor_37 : decode cX4_divideByOddDivisor 37 = .ok (.invokevirtual 45, 3) := by decide +kernel
theorem dX4_divideByOddDivisor_40 : decode cX4_divideByOddDivisor 40 = .ok (.aload_n 0, 1) := by decide +kernel
theorem dX4_divideByOddDivisor_41 : decode cX4_divideByOddDivisor 41 = .ok (.getfield 9, 3) := by decide +kernel
theorem dX4_divideByOddDivisor_44 : decode cX4_divideByOddDivisor 44 = .ok (.iload_n 3, 1) := by decide +kernel
theorem dX4_divideByOddDivisor_45 : decode cX4_divideByOddDivisor 45 = .ok (.iload 4, 2) := by decide +kernel
theorem dX4_divideByOddDivisor_47 : decode cX4_divideByOddDivisor 47 = .ok (.iastore, 1) := by decide +kernel
theorem dX4_divideByOddDivisor_48 : decode cX4_divideByOddDivisor 48 = .ok (.iinc 3 1, 3) := by decide +kernel
theorem dX4_divideByOddDivisor_51 : decode cX4_divideByOddDivisor 51 = .ok (.goto (-39), 3) := by decide +kernel
theorem dX4_divideByOddDivisor_54 : decode cX4_divideByOddDivisor 54 = .ok (.return_, 1) := by decide +kernel
abbrev cX4_inverseOfOdd : ByteArray := prog_6_method_21_code
def yX4_inverseOfOdd : MethodName := ⟨"ChainDesk$Natural", "inverseOfOdd", "(I)I"⟩
def wX4_inverseOfOdd : List Cond := .code yX4_inverseOfOdd cX4_inverseOfOdd 3 (Option.some Jvm.ClassFile.FieldType.int) :: WG
theorem dX4_inverseOfOdd_0 : decode cX4_inverseOfOdd 0 = .ok (.iload_n 0, 1) := by decide +kernel
theorem dX4_inverseOfOdd_1 : decode cX4_inverseOfOdd 1 = .ok (.istore_n 1, 1) := by decide +kernel
theorem dX4_inverseOfOdd_2 : decode cX4_inverseOfOdd 2 = .ok (.iconst 0, 1) := by decide +kernel
theorem dX4_inverseOfOdd_3 : decode cX4_inverseOfOdd 3 = .ok (.istore_n 2, 1) := by decide +kernel
theorem dX4_inverseOfOdd_4 : decode cX4_inverseOfOdd 4 = .ok (.iload_n 2, 1) := by decide +kernel
theorem dX4_inverseOfOdd_5 : decode cX4_inverseOfOdd 5 = .ok (.iconst 4, 1) := by decide +kernel
theorem dX4_inverseOfOdd_6 : decode cX4_inverseOfOdd 6 = .ok (.if_icmp .ge 17, 3) := by decide +kernel
theorem dX4_inverseOfOdd_9 : decode cX4_inverseOfOdd 9 = .ok (.iload_n 1, 1) := by decide +kernel
theorem dX4_inverseOfOdd_10 : decode cX4_inverseOfOdd 10 = .ok (.iconst 2, 1) := by decide +kernel
theorem dX4_inverseOfOdd_11 : decode cX4_inverseOfOdd 11 = .ok (.iload_n 0, 1) := by decide +kernel
theorem dX4_inverseOfOdd_12 : decode cX4_inverseOfOdd 12 = .ok (.iload_n 1, 1) := by decide +kernel
theorem dX4_inverseOfOdd_13 : decode cX4_inverseOfOdd 13 = .ok (.imul, 1) := by decide +kernel
theorem dX4_inverseOfOdd_14 : decode cX4_inverseOfOdd 14 = .ok (.isub, 1) := by decide +kernel
theorem dX4_inverseOfOdd_15 : decode cX4_inverseOfOdd 15 = .ok (.imul, 1) := by decide +kernel
theorem dX4_inverseOfOdd_16 : decode cX4_inverseOfOdd 16 = .ok (.istore_n 1, 1) := by decide +kernel
theorem dX4_inverseOfOdd_17 : decode cX4_inverseOfOdd 17 = .ok (.iinc 2 1, 3) := by decide +kernel
theorem dX4_inverseOfOdd_20 : decode cX4_inverseOfOdd 20 = .ok (.goto (-16), 3) := by decide +kernel
theorem dX4_inverseOfOdd_23 : decode cX4_inverseOfOdd 23 = .ok (.iload_n 1, 1) := by decide +kernel
theorem dX4_inverseOfOdd_24 : decode cX4_inverseOfOdd 24 = .ok (.ireturn, 1) := by decide +kernel
abbrev cX4_subtractMultiple : ByteArray := prog_6_method_20_code
def yX4_subtractMultiple : MethodName := ⟨"ChainDesk$Natural", "subtractMultiple", "(LChainDesk$Natural;JI)V"⟩
def wX4_subtractMultiple : List Cond := .code yX4_subtractMultiple cX4_subtractMultiple 11 (Option.none : Option Jvm.ClassFile.FieldType) :: WG
theorem dX4_subtractMultiple_0 : decode cX4_subtractMultiple 0 = .ok (.lconst 0, 1) := by decide +kernel
theorem dX4_subtractMultiple_1 : decode cX4_subtractMultiple 1 = .ok (.lstore 5, 2) := by decide +kernel
theorem dX4_subtractMultiple_3 : decode cX4_subtractMultiple 3 = .ok (.iload 4, 2) := by decide +kernel
theorem dX4_subtractMultiple_5 : decode cX4_subtractMultiple 5 = .ok (.istore 7, 2) := by decide +kernel
theorem dX4_subtractMultiple_7 : decode cX4_subtractMultiple 7 = .ok (.iload 7, 2) := by decide +kernel
theorem dX4_subtractMultiple_9 : decode cX4_subtractMultiple 9 = .ok (.bipush 16, 2) := by decide +kernel
theorem dX4_subtractMultiple_11 : decode cX4_subtractMultiple 11 = .ok (.if_icmp .ge 70, 3) := by decide +kernel
theorem dX4_subtractMultiple_14 : decode cX4_subtractMultiple 14 = .ok (.aload_n 1, 1) := by decide +kernel
theorem dX4_subtractMultiple_15 : decode cX4_subtractMultiple 15 = .ok (.getfield 9, 3) := by decide +kernel
theorem dX4_subtractMultiple_18 : decode cX4_subtractMultiple 18 = .ok (.iload 7, 2) := by decide +kernel
theorem dX4_subtractMultiple_20 : decode cX4_subtractMultiple 20 = .ok (.iload 4, 2) := by decide +kernel
theorem dX4_subtractMultiple_22 : decode cX4_subtractMultiple 22 = .ok (.isub, 1) := by decide +kernel
theorem dX4_subtractMultiple_23 : decode cX4_subtractMultiple 23 = .ok (.iaload, 1) := by decide +kernel
theorem dX4_subtractMultiple_24 : decode cX4_subtractMultiple 24 = .ok (.i2l, 1) := by decide +kernel
theorem dX4_subtractMultiple_25 : decode cX4_subtractMultiple 25 = .ok (.lload_n 2, 1) := by decide +kernel
theorem dX4_subtractMultiple_26 : decode cX4_subtractMultiple 26 = .ok (.lmul, 1) := by decide +kernel
theorem dX4_subtractMultiple_27 : decode cX4_subtractMultiple 27 = .ok (.lload 5, 2) := by decide +kernel
theorem dX4_subtractMultiple_29 : decode cX4_subtractMultiple 29 = .ok (.ladd, 1) := by decide +kernel
theorem dX4_subtractMultiple_30 : decode cX4_subtractMultiple 30 = .ok (.lstore 8, 2) := by decide +kernel
theorem dX4_subtractMultiple_32 : decode cX4_subtractMultiple 32 = .ok (.aload_n 0, 1) := by decide +kernel
theorem dX4_subtractMultiple_33 : decode cX4_subtractMultiple 33 = .ok (.getfield 9, 3) := by decide +kernel
theorem dX4_subtractMultiple_36 : decode cX4_subtractMultiple 36 = .ok (.iload 7, 2) := by decide +kernel
theorem dX4_subtractMultiple_38 : decode cX4_subtractMultiple 38 = .ok (.iaload, 1) := by decide +kernel
theorem dX4_subtractMultiple_39 : decode cX4_subtractMultiple 39 = .ok (.lload 8, 2) := by decide +kernel
theorem dX4_subtractMultiple_41 : decode cX4_subtractMultiple 41 = .ok (.ldc2_w 21, 3) := by decide +kernel
theorem dX4_subtractMultiple_44 : decode cX4_subtractMultiple 44 = .ok (.land, 1) := by decide +kernel
theorem dX4_subtractMultiple_45 : decode cX4_subtractMultiple 45 = .ok (.l2i, 1) := by decide +kernel
theorem dX4_subtractMultiple_46 : decode cX4_subtractMultiple 46 = .ok (.isub, 1) := by decide +kernel
theorem dX4_subtractMultiple_47 : decode cX4_subtractMultiple 47 = .ok (.istore 10, 2) := by decide +kernel
theorem dX4_subtractMultiple_49 : decode cX4_subtractMultiple 49 = .ok (.aload_n 0, 1) := by decide +kernel
theorem dX4_subtractMultiple_50 : decode cX4_subtractMultiple 50 = .ok (.getfield 9, 3) := by decide +kernel
theorem dX4_subtractMultiple_53 : decode cX4_subtractMultiple 53 = .ok (.iload 7, 2) := by decide +kernel
theorem dX4_subtractMultiple_55 : decode cX4_subtractMultiple 55 = .ok (.iload 10, 2) := by decide +kernel
theorem dX4_subtractMultiple_57 : decode cX4_subtractMultiple 57 = .ok (.ldc 23, 2) := by decide +kernel
theorem dX4_subtractMultiple_59 : decode cX4_subtractMultiple 59 = .ok (.iand, 1) := by decide +kernel
theorem dX4_subtractMultiple_60 : decode cX4_subtractMultiple 60 = .ok (.iastore, 1) := by decide +kernel
theorem dX4_subtractMultiple_61 : decode cX4_subtractMultiple 61 = .ok (.lload 8, 2) := by decide +kernel
theorem dX4_subtractMultiple_63 : decode cX4_subtractMultiple 63 = .ok (.bipush 31, 2) := by decide +kernel
theorem dX4_subtractMultiple_65 : decode cX4_subtractMultiple 65 = .ok (.lushr, 1) := by decide +kernel
theorem dX4_subtractMultiple_66 : decode cX4_subtractMultiple 66 = .ok (.iload 10, 2) := by decide +kernel
theorem dX4_subtractMultiple_68 : decode cX4_subtractMultiple 68 = .ok (.bipush 31, 2) := by decide +kernel
theorem dX4_subtractMultiple_70 : decode cX4_subtractMultiple 70 = .ok (.iushr, 1) := by decide +kernel
theorem dX4_subtractMultiple_71 : decode cX4_subtractMultiple 71 = .ok (.i2l, 1) := by decide +kernel
theorem dX4_subtractMultiple_72 : decode cX4_subtractMultiple 72 = .ok (.ladd, 1) := by decide +kernel
theorem dX4_subtractMultiple_73 : decode cX4_subtractMultiple 73 = .ok (.lstore 5, 2) := by decide +kernel
theorem dX4_subtractMultiple_75 : decode cX4_subtractMultiple 75 = .ok (.iinc 7 1, 3) := by decide +kernel
theorem dX4_subtractMultiple_78 : decode cX4_subtractMultiple 78 = .ok (.goto (-71), 3) := by decide +kernel
theorem dX4_subtractMultiple_81 : decode cX4_subtractMultiple 81 = .ok (.return_, 1) := by decide +kernel
abbrev cX4_takeDigit : ByteArray := prog_6_method_15_code
def yX4_takeDigit : MethodName := ⟨"ChainDesk$Natural", "takeDigit", "()I"⟩
def wX4_takeDigit : List Cond := .code yX4_takeDigit cX4_takeDigit 6 (Option.some Jvm.ClassFile.FieldType.int) :: WG
theorem dX4_takeDigit_0 : decode cX4_takeDigit 0 = .ok (.lconst 0, 1) := by decide +kernel
theorem dX4_takeDigit_1 : decode cX4_takeDigit 1 = .ok (.lstore_n 1, 1) := by decide +kernel
theorem dX4_takeDigit_2 : decode cX4_takeDigit 2 = .ok (.bipush 15, 2) := by decide +kernel
theorem dX4_takeDigit_4 : decode cX4_takeDigit 4 = .ok (.istore_n 3, 1) := by decide +kernel
theorem dX4_takeDigit_5 : decode cX4_takeDigit 5 = .ok (.iload_n 3, 1) := by decide +kernel
theorem dX4_takeDigit_6 : decode cX4_takeDigit 6 = .ok (.ifCond .lt 43, 3) := by decide +kernel
theorem dX4_takeDigit_9 : decode cX4_takeDigit 9 = .ok (.lload_n 1, 1) := by decide +kernel
theorem dX4_takeDigit_10 : decode cX4_takeDigit 10 = .ok (.bipush 31, 2) := by decide +kernel
theorem dX4_takeDigit_12 : decode cX4_takeDigit 12 = .ok (.lshl, 1) := by decide +kernel
theorem dX4_takeDigit_13 : decode cX4_takeDigit 13 = .ok (.aload_n 0, 1) := by decide +kernel
theorem dX4_takeDigit_14 : decode cX4_takeDigit 14 = .ok (.getfield 9, 3) := by decide +kernel
theorem dX4_takeDigit_17 : decode cX4_takeDigit 17 = .ok (.iload_n 3, 1) := by decide +kernel
theorem dX4_takeDigit_18 : decode cX4_takeDigit 18 = .ok (.iaload, 1) := by decide +kernel
theorem dX4_takeDigit_19 : decode cX4_takeDigit 19 = .ok (.i2l, 1) := by decide +kernel
theorem dX4_takeDigit_20 : decode cX4_takeDigit 20 = .ok (.ladd, 1) := by decide +kernel
theorem dX4_takeDigit_21 : decode cX4_takeDigit 21 = .ok (.lstore 4, 2) := by decide +kernel
theorem dX4_takeDigit_23 : decode cX4_takeDigit 23 = .ok (.aload_n 0, 1) := by decide +kernel
theorem dX4_takeDigit_24 : decode cX4_takeDigit 24 = .ok (.getfield 9, 3) := by decide +kernel
theorem dX4_takeDigit_27 : decode cX4_takeDigit 27 = .ok (.iload_n 3, 1) := by decide +kernel
theorem dX4_takeDigit_28 : decode cX4_takeDigit 28 = .ok (.lload 4, 2) := by decide +kernel
theorem dX4_takeDigit_30 : decode cX4_takeDigit 30 = .ok (.ldc2_w 24, 3) := by decide +kernel
theorem dX4_takeDigit_33 : decode cX4_takeDigit 33 = .ok (.ldiv, 1) := by decide +kernel
theorem dX4_takeDigit_34 : decode cX4_takeDigit 34 = .ok (.l2i, 1) := by decide +kernel
theorem dX4_takeDigit_35 : decode cX4_takeDigit 35 = .ok (.iastore, 1) := by decide +kernel
theorem dX4_takeDigit_36 : decode cX4_takeDigit 36 = .ok (.lload 4, 2) := by decide +kernel
theorem dX4_takeDigit_38 : decode cX4_takeDigit 38 = .ok (.ldc2_w 24, 3) := by decide +kernel
theorem dX4_takeDigit_41 : decode cX4_takeDigit 41 = .ok (.lrem, 1) := by decide +kernel
theorem dX4_takeDigit_42 : decode cX4_takeDigit 42 = .ok (.lstore_n 1, 1) := by decide +kernel
theorem dX4_takeDigit_43 : decode cX4_takeDigit 43 = .ok (.iinc 3 (-1), 3) := by decide +kernel
theorem dX4_takeDigit_46 : decode cX4_takeDigit 46 = .ok (.goto (-41), 3) := by decide +kernel
theorem dX4_takeDigit_49 : decode cX4_takeDigit 49 = .ok (.lload_n 1, 1) := by decide +kernel
theorem dX4_takeDigit_50 : decode cX4_takeDigit 50 = .ok (.l2i, 1) := by decide +kernel
theorem dX4_takeDigit_51 : decode cX4_takeDigit 51 = .ok (.ireturn, 1) := by decide +kernel
abbrev cX4_isOne : ByteArray := prog_6_method_5_code
def yX4_isOne : MethodName := ⟨"ChainDesk$Natural", "isOne", "()Z"⟩
def wX4_isOne : List Cond := .code yX4_isOne cX4_isOne 1 (Option.some Jvm.ClassFile.FieldType.boolean) :: WG
theorem dX4_isOne_0 : decode cX4_isOne 0 = .ok (.aload_n 0, 1) := by decide +kernel
theorem dX4_isOne_1 : decode cX4_isOne 1 = .ok (.getfield 9, 3) := by decide +kernel
theorem dX4_isOne_4 : decode cX4_isOne 4 = .ok (.iconst 0, 1) := by decide +kernel
theorem dX4_isOne_5 : decode cX4_isOne 5 = .ok (.iaload, 1) := by decide +kernel
theorem dX4_isOne_6 : decode cX4_isOne 6 = .ok (.iconst 1, 1) := by decide +kernel
theorem dX4_isOne_7 : decode cX4_isOne 7 = .ok (.if_icmp .ne 14, 3) := by decide +kernel
theorem dX4_isOne_10 : decode cX4_isOne 10 = .ok (.aload_n 0, 1) := by decide +kernel
theorem dX4_isOne_11 : decode cX4_isOne 11 = .ok (.invokevirtual 13, 3) := by decide +kernel
theorem dX4_isOne_14 : decode cX4_isOne 14 = .ok (.ifCond .eq 7, 3) := by decide +kernel
theorem dX4_isOne_17 : decode cX4_isOne 17 = .ok (.iconst 1, 1) := by decide +kernel
theorem dX4_isOne_18 : decode cX4_isOne 18 = .ok (.goto 4, 3) := by decide +kernel
theorem dX4_isOne_21 : decode cX4_isOne 21 = .ok (.iconst 0, 1) := by decide +kernel
theorem dX4_isOne_22 : decode cX4_isOne 22 = .ok (.ireturn, 1) := by decide +kernel
abbrev cX4_bits : ByteArray := prog_6_method_9_code
def yX4_bits : MethodName := ⟨"ChainDesk$Natural", "bits", "()I"⟩
def wX4_bits : List Cond := .code yX4_bits cX4_bits 2 (Option.some Jvm.ClassFile.FieldType.int) :: WG
theorem dX4_bits_0 : decode cX4_bits 0 = .ok (.bipush 15, 2) := by decide +kernel
theorem dX4_bits_2 : decode cX4_bits 2 = .ok (.istore_n 1, 1) := by decide +kernel
theorem dX4_bits_3 : decode cX4_bits 3 = .ok (.iload_n 1, 1) := by decide +kernel
theorem dX4_bits_4 : decode cX4_bits 4 = .ok (.ifCond .lt 33, 3) := by decide +kernel
theorem dX4_bits_7 : decode cX4_bits 7 = .ok (.aload_n 0, 1) := by decide +kernel
theorem dX4_bits_8 : decode cX4_bits 8 = .ok (.getfield 9, 3) := by decide +kernel
theorem dX4_bits_11 : decode cX4_bits 11 = .ok (.iload_n 1, 1) := by decide +kernel
theorem dX4_bits_12 : decode cX4_bits 12 = .ok (.iaload, 1) := by decide +kernel
theorem dX4_bits_13 : decode cX4_bits 13 = .ok (.ifCond .eq 18, 3) := by decide +kernel
theorem dX4_bits_16 : decode cX4_bits 16 = .ok (.iload_n 1, 1) := by decide +kernel
theorem dX4_bits_17 : decode cX4_bits 17 = .ok (.bipush 31, 2) := by decide +kernel
theorem dX4_bits_19 : decode cX4_bits 19 = .ok (.imul, 1) := by decide +kernel
theorem dX4_bits_20 : decode cX4_bits 20 = .ok (.aload_n 0, 1) := by decide +kernel
theorem dX4_bits_21 : decode cX4_bits 21 = .ok (.getfield 9, 3) := by decide +kernel
theorem dX4_bits_24 : decode cX4_bits 24 = .ok (.iload_n 1, 1) := by decide +kernel
theorem dX4_bits_25 : decode cX4_bits 25 = .ok (.iaload, 1) := by decide +kernel
theorem dX4_bits_26 : decode cX4_bits 26 = .ok (.invokestatic 17, 3) := by decide +kernel
theorem dX4_bits_29 : decode cX4_bits 29 = .ok (.iadd, 1) := by decide +kernel
theorem dX4_bits_30 : decode cX4_bits 30 = .ok (.ireturn, 1) := by decide +kernel
theorem dX4_bits_31 : decode cX4_bits 31 = .ok (.iinc 1 (-1), 3) := by decide +kernel
theorem dX4_bits_34 : decode cX4_bits 34 = .ok (.goto (-31), 3) := by decide +kernel
theorem dX4_bits_37 : decode cX4_bits 37 = .ok (.iconst 0, 1) := by decide +kernel
theorem dX4_bits_38 : decode cX4_bits 38 = .ok (.ireturn, 1) := by decide +kernel
abbrev cX4_bitsOf : ByteArray := prog_6_method_10_code
def yX4_bitsOf : MethodName := ⟨"ChainDesk$Natural", "bitsOf", "(I)I"⟩
def wX4_bitsOf : List Cond := .code yX4_bitsOf cX4_bitsOf 3 (Option.some Jvm.ClassFile.FieldType.int) :: WG
theorem dX4_bitsOf_0 : decode cX4_bitsOf 0 = .ok (.iconst 0, 1) := by decide +kernel
theorem dX4_bitsOf_1 : decode cX4_bitsOf 1 = .ok (.istore_n 1, 1) := by decide +kernel
theorem dX4_bitsOf_2 : decode cX4_bitsOf 2 = .ok (.iload_n 0, 1) := by decide +kernel
theorem dX4_bitsOf_3 : decode cX4_bitsOf 3 = .ok (.istore_n 2, 1) := by decide +kernel
theorem dX4_bitsOf_4 : decode cX4_bitsOf 4 = .ok (.iload_n 2, 1) := by decide +kernel
theorem dX4_bitsOf_5 : decode cX4_bitsOf 5 = .ok (.ifCond .le 13, 3) := by decide +kernel
theorem dX4_bitsOf_8 : decode cX4_bitsOf 8 = .ok (.iinc 1 1, 3) := by decide +kernel
theorem dX4_bitsOf_11 : decode cX4_bitsOf 11 = .ok (.iload_n 2, 1) := by decide +kernel
theorem dX4_bitsOf_12 : decode cX4_bitsOf 12 = .ok (.iconst 1, 1) := by decide +kernel
theorem dX4_bitsOf_13 : decode cX4_bitsOf 13 = .ok (.ishr, 1) := by decide +kernel
theorem dX4_bitsOf_14 : decode cX4_bitsOf 14 = .ok (.istore_n 2, 1) := by decide +kernel
theorem dX4_bitsOf_15 : decode cX4_bitsOf 15 = .ok (.goto (-11), 3) := by decide +kernel
theorem dX4_bitsOf_18 : decode cX4_bitsOf 18 = .ok (.iload_n 1, 1) := by decide +kernel
theorem dX4_bitsOf_19 : decode cX4_bitsOf 19 = .ok (.ireturn, 1) := by decide +kernel
