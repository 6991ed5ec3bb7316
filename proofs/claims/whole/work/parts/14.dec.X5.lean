abbrev cX5_init : ByteArray := prog_7_method_1_code
def yX5_init : MethodName := ⟨"ChainDesk$Paper", "<init>", "()V"⟩
def wX5_init : List Cond := .code yX5_init cX5_init 1 (Option.none : Option Jvm.ClassFile.FieldType) :: WG
theorem dX5_init_0 : decode cX5_init 0 = .ok (.aload_n 0, 1) := by decide +kernel
theorem dX5_init_1 : decode cX5_init 1 = .ok (.invokespecial 3, 3) := by decide +kernel
theorem dX5_init_4 : decode cX5_init 4 = .ok (.aload_n 0, 1) := by decide +kernel
theorem dX5_init_5 : decode cX5_init 5 = .ok (.sipush 301, 3) := by decide +kernel
theorem dX5_init_8 : decode cX5_init 8 = .ok (.newarray .char, 2) := by decide +kernel
theorem dX5_init_10 : decode cX5_init 10 = .ok (.putfield 9, 3) := by decide +kernel
theorem dX5_init_13 : decode cX5_init 13 = .ok (.return_, 1) := by decide +kernel
abbrev cX5_clear : ByteArray := prog_7_method_2_code
def yX5_clear : MethodName := ⟨"ChainDesk$Paper", "clear", "()V"⟩
def wX5_clear : List Cond := .code yX5_clear cX5_clear 1 (Option.none : Option Jvm.ClassFile.FieldType) :: WG
theorem dX5_clear_0 : decode cX5_clear 0 = .ok (.aload_n 0, 1) := by decide +kernel
theorem dX5_clear_1 : decode cX5_clear 1 = .ok (.iconst 0, 1) := by decide +kernel
theorem dX5_clear_2 : decode cX5_clear 2 = .ok (.putfield 13, 3) := by decide +kernel
theorem dX5_clear_5 : decode cX5_clear 5 = .ok (.return_, 1) := by decide +kernel
abbrev cX5_writeDecimal : ByteArray := prog_7_method_4_code
def yX5_writeDecimal : MethodName := ⟨"ChainDesk$Paper", "writeDecimal", "(LChainDesk$Natural;)V"⟩
def wX5_writeDecimal : List Cond := .code yX5_writeDecimal cX5_writeDecimal 4 (Option.none : Option Jvm.ClassFile.FieldType) :: WG
theorem dX5_writeDecimal_0 : decode cX5_writeDecimal 0 = .ok (.aload_n 0, 1) := by decide +kernel
theorem dX5_writeDecimal_1 : decode cX5_writeDecimal 1 = .ok (.getfield 13, 3) := by decide +kernel
theorem dX5_writeDecimal_4 : decode cX5_writeDecimal 4 = .ok (.istore_n 2, 1) := by decide +kernel
theorem dX5_writeDecimal_5 : decode cX5_writeDecimal 5 = .ok (.iconst 0, 1) := by decide +kernel
theorem dX5_writeDecimal_6 : decode cX5_writeDecimal 6 = .ok (.istore_n 3, 1) := by decide +kernel
theorem dX5_writeDecimal_7 : decode cX5_writeDecimal 7 = .ok (.iload_n 3, 1) := by decide +kernel
theorem dX5_writeDecimal_8 : decode cX5_writeDecimal 8 = .ok (.sipush 150, 3) := by decide +kernel
theorem dX5_writeDecimal_11 : decode cX5_writeDecimal 11 = .ok (.if_icmp .ge 31, 3) := by decide +kernel
theorem dX5_writeDecimal_14 : decode cX5_writeDecimal 14 = .ok (.aload_n 0, 1) := by decide +kernel
theorem dX5_writeDecimal_15 : decode cX5_writeDecimal 15 = .ok (.bipush 48, 2) := by decide +kernel
theorem dX5_writeDecimal_17 : decode cX5_writeDecimal 17 = .ok (.aload_n 1, 1) := by decide +kernel
theorem dX5_writeDecimal_18 : decode cX5_writeDecimal 18 = .ok (.invokevirtual 17, 3) := by decide +kernel
theorem dX5_writeDecimal_21 : decode cX5_writeDecimal 21 = .ok (.iadd, 1) := by decide +kernel
theorem dX5_writeDecimal_22 : decode cX5_writeDecimal 22 = .ok (.i2c, 1) := by decide +kernel
theorem dX5_writeDecimal_23 : decode cX5_writeDecimal 23 = .ok (.invokevirtual 23, 3) := by decide +kernel
theorem dX5_writeDecimal_26 : decode cX5_writeDecimal 26 = .ok (.aload_n 1, 1) := by decide +kernel
theorem dX5_writeDecimal_27 : decode cX5_writeDecimal 27 = .ok (.invokevirtual 27, 3) := by decide +kernel
theorem dX5_writeDecimal_30 : decode cX5_writeDecimal 30 = .ok (.ifCond .eq 6, 3) := by decide +kernel
theorem dX5_writeDecimal_33 : decode cX5_writeDecimal 33 = .ok (.goto 9, 3) := by decide +kernel
theorem dX5_writeDecimal_36 : decode cX5_writeDecimal 36 = .ok (.iinc 3 1, 3) := by decide +kernel
theorem dX5_writeDecimal_39 : decode cX5_writeDecimal 39 = .ok (.goto (-32), 3) := by decide +kernel
theorem dX5_writeDecimal_42 : decode cX5_writeDecimal 42 = .ok (.aload_n 0, 1) := by decide +kernel
theorem dX5_writeDecimal_43 : decode cX5_writeDecimal 43 = .ok (.iload_n 2, 1) := by decide +kernel
theorem dX5_writeDecimal_44 : decode cX5_writeDecimal 44 = .ok (.invokevirtual 31, 3) := by decide +kernel
theorem dX5_writeDecimal_47 : decode cX5_writeDecimal 47 = .ok (.return_, 1) := by decide +kernel
abbrev cX5_write : ByteArray := prog_7_method_3_code
def yX5_write : MethodName := ⟨"ChainDesk$Paper", "write", "(C)V"⟩
def wX5_write : List Cond := .code yX5_write cX5_write 2 (Option.none : Option Jvm.ClassFile.FieldType) :: WG
theorem dX5_write_0 : decode cX5_write 0 = .ok (.aload_n 0, 1) := by decide +kernel
theorem dX5_write_1 : decode cX5_write 1 = .ok (.getfield 13, 3) := by decide +kernel
theorem dX5_write_4 : decode cX5_write 4 = .ok (.sipush 301, 3) := by decide +kernel
theorem dX5_write_7 : decode cX5_write 7 = .ok (.if_icmp .ge 23, 3) := by decide +kernel
theorem dX5_write_10 : decode cX5_write 10 = .ok (.aload_n 0, 1) := by decide +kernel
theorem dX5_write_11 : decode cX5_write 11 = .ok (.getfield 9, 3) := by decide +kernel
theorem dX5_write_14 : decode cX5_write 14 = .ok (.aload_n 0, 1) := by decide +kernel
theorem dX5_write_15 : decode cX5_write 15 = .ok (.getfield 13, 3) := by decide +kernel
theorem dX5_write_18 : decode cX5_write 18 = .ok (.iload_n 1, 1) := by decide +kernel
theorem dX5_write_19 : decode cX5_write 19 = .ok (.castore, 1) := by decide +kernel
theorem dX5_write_20 : decode cX5_write 20 = .ok (.aload_n 0, 1) := by decide +kernel
theorem dX5_write_21 : decode cX5_write 21 = .ok (.dup, 1) := by decide +kernel
theorem dX5_write_22 : decode cX5_write 22 = .ok (.getfield 13, 3) := by decide +kernel
theorem dX5_write_25 : decode cX5_write 25 = .ok (.iconst 1, 1) := by decide +kernel
theorem dX5_write_26 : decode cX5_write 26 = .ok (.iadd, 1) := by decide +kernel
theorem dX5_write_27 : decode cX5_write 27 = .ok (.putfield 13, 3) := by decide +kernel
theorem dX5_write_30 : decode cX5_write 30 = .ok (.return_, 1) := by decide +kernel
abbrev cX5_reverseFrom : ByteArray := prog_7_method_5_code
def yX5_reverseFrom : MethodName := ⟨"ChainDesk$Paper", "reverseFrom", "(I)V"⟩
def wX5_reverseFrom : List Cond := .code yX5_reverseFrom cX5_reverseFrom 5 (Option.none : Option Jvm.ClassFile.FieldType) :: WG
theorem dX5_reverseFrom_0 : decode cX5_reverseFrom 0 = .ok (.iload_n 1, 1) := by decide +kernel
theorem dX5_reverseFrom_1 : decode cX5_reverseFrom 1 = .ok (.istore_n 2, 1) := by decide +kernel
theorem dX5_reverseFrom_2 : decode cX5_reverseFrom 2 = .ok (.aload_n 0, 1) := by decide +kernel
theorem dX5_reverseFrom_3 : decode cX5_reverseFrom 3 = .ok (.getfield 13, 3) := by decide +kernel
theorem dX5_reverseFrom_6 : decode cX5_reverseFrom 6 = .ok (.iconst 1, 1) := by decide +kernel
theorem dX5_reverseFrom_7 : decode cX5_reverseFrom 7 = .ok (.isub, 1) := by decide +kernel
theorem dX5_reverseFrom_8 : decode cX5_reverseFrom 8 = .ok (.istore_n 3, 1) := by decide +kernel
theorem dX5_reverseFrom_9 : decode cX5_reverseFrom 9 = .ok (.iload_n 2, 1) := by decide +kernel
theorem dX5_reverseFrom_10 : decode cX5_reverseFrom 10 = .ok (.iload_n 3, 1) := by decide +kernel
theorem dX5_reverseFrom_11 : decode cX5_reverseFrom 11 = .ok (.if_icmp .ge 40, 3) := by decide +kernel
theorem dX5_reverseFrom_14 : decode cX5_reverseFrom 14 = .ok (.aload_n 0, 1) := by decide +kernel
theorem dX5_reverseFrom_15 : decode cX5_reverseFrom 15 = .ok (.getfield 9, 3) := by decide +kernel
theorem dX5_reverseFrom_18 : decode cX5_reverseFrom 18 = .ok (.iload_n 2, 1) := by decide +kernel
theorem dX5_reverseFrom_19 : decode cX5_reverseFrom 19 = .ok (.caload, 1) := by decide +kernel
theorem dX5_reverseFrom_20 : decode cX5_reverseFrom 20 = .ok (.istore 4, 2) := by decide +kernel
theorem dX5_reverseFrom_22 : decode cX5_reverseFrom 22 = .ok (.aload_n 0, 1) := by decide +kernel
theorem dX5_reverseFrom_23 : decode cX5_reverseFrom 23 = .ok (.getfield 9, 3) := by decide +kernel
theorem dX5_reverseFrom_26 : decode cX5_reverseFrom 26 = .ok (.iload_n 2, 1) := by decide +kernel
theorem dX5_reverseFrom_27 : decode cX5_reverseFrom 27 = .ok (.aload_n 0, 1) := by decide +kernel
theorem dX5_reverseFrom_28 : decode cX5_reverseFrom 28 = .ok (.getfield 9, 3) := by decide +kernel
theorem dX5_reverseFrom_31 : decode cX5_reverseFrom 31 = .ok (.iload_n 3, 1) := by decide +kernel
theorem dX5_reverseFrom_32 : decode cX5_reverseFrom 32 = .ok (.caload, 1) := by decide +kernel
theorem dX5_reverseFrom_33 : decode cX5_reverseFrom 33 = .ok (.castore, 1) := by decide +kernel
theorem dX5_reverseFrom_34 : decode cX5_reverseFrom 34 = .ok (.aload_n 0, 1) := by decide +kernel
theorem dX5_reverseFrom_35 : decode cX5_reverseFrom 35 = .ok (.getfield 9, 3) := by decide +kernel
theorem dX5_reverseFrom_38 : decode cX5_reverseFrom 38 = .ok (.iload_n 3, 1) := by decide +kernel
theorem dX5_reverseFrom_39 : decode cX5_reverseFrom 39 = .ok (.iload 4, 2) := by decide +kernel
theorem dX5_reverseFrom_41 : decode cX5_reverseFrom 41 = .ok (.castore, 1) := by decide +kernel
theorem dX5_reverseFrom_42 : decode cX5_reverseFrom 42 = .ok (.iinc 2 1, 3) := by decide +kernel
theorem dX5_reverseFrom_45 : decode cX5_reverseFrom 45 = .ok (.iinc 3 (-1), 3) := by decide +kernel
theorem dX5_reverseFrom_48 : decode cX5_reverseFrom 48 = .ok (.goto (-39), 3) := by decide +kernel
theorem dX5_reverseFrom_51 : decode cX5_reverseFrom 51 = .ok (.return_, 1) := by decide +kernel
