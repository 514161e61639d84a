/-! methods and their code, normalised, by program (gen_tables.py) -/
def xm_names : List MethodName := [⟨"BitSolverModel", "<init>", "()V"⟩, ⟨"BitSolverModel", "act", "(III)I"⟩, ⟨"BitSolverModel", "add", "(IZ)I"⟩, ⟨"BitSolverModel", "all", "()I"⟩, ⟨"BitSolverModel", "assume", "(I)I"⟩, ⟨"BitSolverModel", "bits", "(I)I"⟩, ⟨"BitSolverModel", "bound", "(IZ)I"⟩, ⟨"BitSolverModel", "by", "(II)I"⟩, ⟨"BitSolverModel", "certain", "(I)I"⟩, ⟨"BitSolverModel", "choose", "(III)I"⟩, ⟨"BitSolverModel", "claim", "(I)I"⟩, ⟨"BitSolverModel", "clear", "()I"⟩, ⟨"BitSolverModel", "constant", "(II)I"⟩, ⟨"BitSolverModel", "core", "(I)I"⟩, ⟨"BitSolverModel", "cores", "()I"⟩, ⟨"BitSolverModel", "count", "(I)I"⟩, ⟨"BitSolverModel", "cut", "(III)I"⟩, ⟨"BitSolverModel", "done", "(IIIII)I"⟩, ⟨"BitSolverModel", "great", "()I"⟩, ⟨"BitSolverModel", "has", "(I)Z"⟩, ⟨"BitSolverModel", "isIn", "(III)Z"⟩, ⟨"BitSolverModel", "isModel", "(I)Z"⟩, ⟨"BitSolverModel", "leave", "()Z"⟩, ⟨"BitSolverModel", "leaveNone", "()V"⟩, ⟨"BitSolverModel", "mask", "(I)I"⟩, ⟨"BitSolverModel", "models", "()I"⟩, ⟨"BitSolverModel", "pop", "()I"⟩, ⟨"BitSolverModel", "push", "()I"⟩, ⟨"BitSolverModel", "release", "()I"⟩, ⟨"BitSolverModel", "same", "(II)I"⟩, ⟨"BitSolverModel", "shrink", "()I"⟩, ⟨"BitSolverModel", "signed", "(II)I"⟩, ⟨"BitSolverModel", "size", "(II)I"⟩, ⟨"BitSolverModel", "value", "(II)I"⟩, ⟨"BitSolverModel", "values", "(I)I"⟩, ⟨"BitSolverModel", "where", "(II)I"⟩, ⟨"BitSolverModel", "widen", "(IIZ)I"⟩, ⟨"BitSolverModel", "without", "(IZ)I"⟩, ⟨"BitSolverModel", "word", "(I)I"⟩, ⟨"BitSolverLaw", "law", "([I)Z"⟩, ⟨"java/lang/Integer", "bitCount", "(I)I"⟩, ⟨"java/util/Arrays", "fill", "([IIII)V"⟩, ⟨"java/util/Arrays", "rangeCheck", "(III)V"⟩, ⟨"BitSolver$Acts", "answer", "(IIIII)I"⟩, ⟨"BitSolver$Acts", "around", "(III)I"⟩, ⟨"BitSolver$Acts", "hasOne", "(I)Z"⟩, ⟨"BitSolver$Acts", "signed", "(II)I"⟩, ⟨"BitSolver$Acts", "signedLeftOver", "(II)I"⟩, ⟨"BitSolver$Acts", "signedQuotient", "(II)I"⟩, ⟨"BitSolver$Acts", "widthOf", "(III)I"⟩, ⟨"BitSolver$Diagram", "<init>", "()V"⟩, ⟨"BitSolver$Diagram", "begin", "(I)V"⟩, ⟨"BitSolver$Diagram", "fold", "(I)I"⟩, ⟨"BitSolver$Diagram", "nameOf", "(III)I"⟩, ⟨"BitSolver$Row", "<init>", "(I)V"⟩, ⟨"BitSolver$Row", "add", "(I)V"⟩, ⟨"BitSolver$Row", "at", "(I)I"⟩, ⟨"BitSolver$Row", "put", "(II)V"⟩, ⟨"BitSolver$Row", "shorten", "(I)V"⟩, ⟨"BitSolver$Row", "take", "(LBitSolver$Row;)V"⟩, ⟨"BitSolver$Row", "zeros", "(I)V"⟩, ⟨"BitSolver$Term", "<init>", "()V"⟩, ⟨"BitSolver$Term", "by", "(II)I"⟩, ⟨"BitSolver", "<init>", "()V"⟩, ⟨"BitSolver", "act", "(III)I"⟩, ⟨"BitSolver", "assume", "(I)I"⟩, ⟨"BitSolver", "bits", "(I)I"⟩, ⟨"BitSolver", "bound", "(IZ)I"⟩, ⟨"BitSolver", "certain", "(I)I"⟩, ⟨"BitSolver", "choose", "(III)I"⟩, ⟨"BitSolver", "claim", "(I)I"⟩, ⟨"BitSolver", "clear", "()I"⟩, ⟨"BitSolver", "constant", "(II)I"⟩, ⟨"BitSolver", "core", "(I)I"⟩, ⟨"BitSolver", "coreSet", "()I"⟩, ⟨"BitSolver", "cores", "()I"⟩, ⟨"BitSolver", "count", "(I)I"⟩, ⟨"BitSolver", "cut", "(III)I"⟩, ⟨"BitSolver", "failing", "(I)I"⟩, ⟨"BitSolver", "fits", "(II)Z"⟩, ⟨"BitSolver", "found", "()LBitSolver$Row;"⟩, ⟨"BitSolver", "great", "()I"⟩, ⟨"BitSolver", "isOneBit", "(I)Z"⟩, ⟨"BitSolver", "isWidth", "(I)Z"⟩, ⟨"BitSolver", "lowest", "(I)I"⟩, ⟨"BitSolver", "markFailings", "()V"⟩, ⟨"BitSolver", "models", "()I"⟩, ⟨"BitSolver", "nextTerm", "(II)LBitSolver$Term;"⟩, ⟨"BitSolver", "pop", "()I"⟩, ⟨"BitSolver", "push", "()I"⟩, ⟨"BitSolver", "refutes", "(I)Z"⟩, ⟨"BitSolver", "release", "()I"⟩, ⟨"BitSolver", "same", "(II)I"⟩, ⟨"BitSolver", "sift", "(LBitSolver$Row;I)V"⟩, ⟨"BitSolver", "size", "(II)I"⟩, ⟨"BitSolver", "termOf", "(I)LBitSolver$Term;"⟩, ⟨"BitSolver", "value", "(II)I"⟩, ⟨"BitSolver", "values", "(I)I"⟩, ⟨"BitSolver", "where", "(II)I"⟩, ⟨"BitSolver", "widen", "(IIZ)I"⟩, ⟨"BitSolver", "without", "(IZ)I"⟩, ⟨"BitSolver", "word", "(I)I"⟩]
def xm_byteses : List ByteArray := [prog_7_method_1_code, prog_7_method_13_code, prog_7_method_8_code, prog_7_method_5_code, prog_7_method_19_code, prog_7_method_17_code, prog_7_method_28_code, prog_7_method_6_code, prog_7_method_30_code, prog_7_method_14_code, prog_7_method_18_code, prog_7_method_2_code, prog_7_method_10_code, prog_7_method_34_code, prog_7_method_33_code, prog_7_method_39_code, prog_7_method_15_code, prog_7_method_12_code, prog_7_method_37_code, prog_7_method_4_code, prog_7_method_3_code, prog_7_method_23_code, prog_7_method_32_code, prog_7_method_24_code, prog_7_method_7_code, prog_7_method_25_code, prog_7_method_22_code, prog_7_method_21_code, prog_7_method_20_code, prog_7_method_31_code, prog_7_method_35_code, prog_7_method_11_code, prog_7_method_36_code, prog_7_method_26_code, prog_7_method_29_code, prog_7_method_27_code, prog_7_method_16_code, prog_7_method_38_code, prog_7_method_9_code, code, prog_8_method_49_code, prog_11_method_104_code, prog_11_method_30_code, prog_2_method_4_code, prog_2_method_8_code, prog_2_method_2_code, prog_2_method_5_code, prog_2_method_7_code, prog_2_method_6_code, prog_2_method_3_code, prog_3_method_1_code, prog_3_method_2_code, prog_3_method_3_code, prog_3_method_4_code, prog_4_method_1_code, prog_4_method_4_code, prog_4_method_2_code, prog_4_method_3_code, prog_4_method_5_code, prog_4_method_7_code, prog_4_method_6_code, prog_5_method_1_code, prog_5_method_2_code, prog_1_method_1_code, prog_1_method_5_code, prog_1_method_11_code, prog_1_method_9_code, prog_1_method_18_code, prog_1_method_20_code, prog_1_method_6_code, prog_1_method_10_code, prog_1_method_2_code, prog_1_method_4_code, prog_1_method_23_code, prog_1_method_36_code, prog_1_method_22_code, prog_1_method_27_code, prog_1_method_7_code, prog_1_method_38_code, prog_1_method_29_code, prog_1_method_34_code, prog_1_method_25_code, prog_1_method_31_code, prog_1_method_28_code, prog_1_method_30_code, prog_1_method_37_code, prog_1_method_15_code, prog_1_method_33_code, prog_1_method_14_code, prog_1_method_13_code, prog_1_method_39_code, prog_1_method_12_code, prog_1_method_21_code, prog_1_method_35_code, prog_1_method_24_code, prog_1_method_32_code, prog_1_method_16_code, prog_1_method_19_code, prog_1_method_17_code, prog_1_method_8_code, prog_1_method_26_code, prog_1_method_3_code]
def xm_maxLs : List Nat := [1, 9, 3, 1, 2, 2, 6, 3, 5, 6, 2, 2, 5, 6, 4, 2, 6, 7, 2, 2, 3, 4, 2, 2, 1, 3, 2, 1, 2, 5, 7, 2, 4, 5, 4, 5, 6, 8, 4, 4, 1, 5, 3, 6, 4, 1, 2, 2, 2, 3, 1, 2, 4, 7, 2, 2, 2, 3, 2, 2, 2, 1, 3, 2, 10, 2, 3, 8, 7, 10, 2, 2, 4, 5, 4, 1, 2, 7, 5, 2, 2, 3, 3, 1, 1, 2, 1, 4, 3, 1, 3, 2, 8, 7, 5, 2, 5, 7, 6, 8, 10, 4]
def xm_rets : List (Option FieldType) := [none, (Option.some FieldType.int), (Option.some FieldType.int), (Option.some FieldType.int), (Option.some FieldType.int), (Option.some FieldType.int), (Option.some FieldType.int), (Option.some FieldType.int), (Option.some FieldType.int), (Option.some FieldType.int), (Option.some FieldType.int), (Option.some FieldType.int), (Option.some FieldType.int), (Option.some FieldType.int), (Option.some FieldType.int), (Option.some FieldType.int), (Option.some FieldType.int), (Option.some FieldType.int), (Option.some FieldType.int), (Option.some FieldType.boolean), (Option.some FieldType.boolean), (Option.some FieldType.boolean), (Option.some FieldType.boolean), none, (Option.some FieldType.int), (Option.some FieldType.int), (Option.some FieldType.int), (Option.some FieldType.int), (Option.some FieldType.int), (Option.some FieldType.int), (Option.some FieldType.int), (Option.some FieldType.int), (Option.some FieldType.int), (Option.some FieldType.int), (Option.some FieldType.int), (Option.some FieldType.int), (Option.some FieldType.int), (Option.some FieldType.int), (Option.some FieldType.int), (Option.some FieldType.boolean), (Option.some FieldType.int), none, none, (Option.some FieldType.int), (Option.some FieldType.int), (Option.some FieldType.boolean), (Option.some FieldType.int), (Option.some FieldType.int), (Option.some FieldType.int), (Option.some FieldType.int), none, none, (Option.some FieldType.int), (Option.some FieldType.int), none, none, (Option.some FieldType.int), none, none, none, none, none, (Option.some FieldType.int), none, (Option.some FieldType.int), (Option.some FieldType.int), (Option.some FieldType.int), (Option.some FieldType.int), (Option.some FieldType.int), (Option.some FieldType.int), (Option.some FieldType.int), (Option.some FieldType.int), (Option.some FieldType.int), (Option.some FieldType.int), (Option.some FieldType.int), (Option.some FieldType.int), (Option.some FieldType.int), (Option.some FieldType.int), (Option.some FieldType.int), (Option.some FieldType.boolean), (Option.some (FieldType.object "BitSolver$Row")), (Option.some FieldType.int), (Option.some FieldType.boolean), (Option.some FieldType.boolean), (Option.some FieldType.int), none, (Option.some FieldType.int), (Option.some (FieldType.object "BitSolver$Term")), (Option.some FieldType.int), (Option.some FieldType.int), (Option.some FieldType.boolean), (Option.some FieldType.int), (Option.some FieldType.int), none, (Option.some FieldType.int), (Option.some (FieldType.object "BitSolver$Term")), (Option.some FieldType.int), (Option.some FieldType.int), (Option.some FieldType.int), (Option.some FieldType.int), (Option.some FieldType.int), (Option.some FieldType.int)]
def xm_arities : List Nat := [1, 4, 3, 1, 2, 2, 3, 3, 2, 4, 2, 1, 3, 2, 1, 2, 4, 5, 1, 2, 3, 2, 1, 1, 1, 1, 1, 1, 1, 3, 1, 2, 3, 3, 2, 3, 4, 3, 2, 1, 1, 4, 3, 5, 3, 1, 2, 2, 2, 3, 1, 2, 2, 4, 2, 2, 2, 3, 2, 2, 2, 1, 3, 1, 4, 2, 2, 3, 2, 4, 2, 1, 3, 2, 1, 1, 2, 4, 2, 2, 1, 1, 2, 1, 1, 1, 1, 3, 1, 1, 2, 1, 3, 3, 3, 2, 3, 2, 3, 4, 3, 2]
/-- the receiver's class, where a receiver is looked at -/
def xm_recvs : List (Option Nat) := [some 0, some 0, some 0, some 0, some 0, some 0, some 0, some 0, some 0, some 0, some 0, some 0, some 0, some 0, some 0, some 0, some 0, none, some 0, some 0, none, some 0, some 0, some 0, none, some 0, some 0, some 0, some 0, some 0, some 0, none, some 0, some 0, some 0, some 0, some 0, some 0, some 0, none, none, none, none, none, none, none, none, none, none, none, some 2, some 2, some 2, some 2, some 3, some 3, some 3, some 3, some 3, some 3, some 3, some 4, some 4, some 1, some 1, some 1, some 1, some 1, some 1, some 1, some 1, some 1, some 1, some 1, some 1, some 1, some 1, some 1, some 1, none, some 1, some 1, some 1, none, none, some 1, some 1, some 1, some 1, some 1, some 1, some 1, some 1, some 1, some 1, some 1, some 1, some 1, some 1, some 1, some 1, some 1]
/-- BitSolverModel.<init>()V -/
def xk_0 : List Instr := [.aload 0, .invokespecial 1000, .aload 0, .iconst (24), .newarray .int, .putfield 1, .aload 0, .iconst (24), .newarray .boolean, .putfield 2, .aload 0, .iconst (98304), .newarray .int, .putfield 3, .aload 0, .iconst (16), .newarray .int, .putfield 6, .aload 0, .iconst (8), .newarray .int, .putfield 8, .aload 0, .iconst (8), .newarray .int, .putfield 10, .aload 0, .iconst (8), .newarray .boolean, .putfield 11, .aload 0, .iconst (4096), .newarray .boolean, .putfield 12, .aload 0, .iconst (4096), .newarray .int, .putfield 13, .aload 0, .iconst (4100), .newarray .int, .putfield 14, .aload 0, .iconst (4100), .newarray .int, .putfield 15, .return_]
def xb_0 : List Nat := [0, 1, 4, 5, 7, 9, 12, 13, 15, 17, 20, 21, 23, 25, 28, 29, 31, 33, 36, 37, 39, 41, 44, 45, 47, 49, 52, 53, 55, 57, 60, 61, 64, 66, 69, 70, 73, 75, 78, 79, 82, 84, 87, 88, 91, 93, 96]
/-- BitSolverModel.act(III)I -/
def xk_1 : List Instr := [.iload 1, .ifCond .eq 5, .iload 1, .iconst (1), .if_icmp .ne 7, .iconst (1), .goto 8, .iconst (0), .istore 4, .iload 1, .iconst (0), .iconst (19), .invokestatic 20, .ifCond .eq 52, .aload 0, .iload 2, .invokevirtual 19, .ifCond .eq 52, .iload 4, .ifCond .ne 24, .aload 0, .iload 3, .invokevirtual 19, .ifCond .eq 52, .iload 4, .ifCond .ne 38, .iload 1, .iconst (18), .if_icmp .eq 38, .aload 0, .getfield 1, .iload 2, .iaload, .aload 0, .getfield 1, .iload 3, .iaload, .if_icmp .ne 52, .iload 1, .iconst (18), .if_icmp .ne 54, .aload 0, .getfield 1, .iload 2, .iaload, .aload 0, .getfield 1, .iload 3, .iaload, .iadd, .iconst (12), .if_icmp .le 54, .iconst (-2), .ireturn, .aload 0, .getfield 0, .iconst (24), .if_icmp .ne 60, .iconst (-3), .ireturn, .aload 0, .getfield 1, .iload 2, .iaload, .istore 5, .iload 4, .ifCond .eq 69, .iload 5, .goto 73, .aload 0, .getfield 1, .iload 3, .iaload, .istore 6, .aload 0, .iload 1, .iconst (18), .if_icmp .ne 82, .iload 5, .iload 6, .iadd, .goto 90, .iload 1, .iconst (15), .iconst (17), .invokestatic 20, .ifCond .eq 89, .iconst (1), .goto 90, .iload 5, .iconst (0), .invokevirtual 2, .istore 7, .iconst (0), .istore 8, .iload 8, .aload 0, .invokevirtual 3, .if_icmp .ge 131, .aload 0, .getfield 3, .iconst (4096), .iload 7, .imul, .iload 8, .iadd, .iload 1, .aload 0, .iload 2, .iload 8, .invokevirtual 7, .iload 4, .ifCond .eq 115, .iconst (0), .goto 119, .aload 0, .iload 3, .iload 8, .invokevirtual 7, .iload 5, .iload 6, .invokestatic 17, .aload 0, .getfield 1, .iload 7, .iaload, .invokestatic 24, .iand, .iastore, .iinc 8 (1), .goto 95, .iload 7, .ireturn]
def xb_1 : List Nat := [0, 1, 4, 5, 6, 9, 10, 13, 14, 16, 17, 18, 20, 23, 26, 27, 28, 31, 34, 36, 39, 40, 41, 44, 47, 49, 52, 53, 55, 58, 59, 62, 63, 64, 65, 68, 69, 70, 73, 74, 76, 79, 80, 83, 84, 85, 86, 89, 90, 91, 92, 94, 97, 99, 100, 101, 104, 106, 109, 111, 112, 113, 116, 117, 118, 120, 122, 125, 127, 130, 131, 134, 135, 136, 138, 139, 140, 142, 145, 147, 149, 150, 153, 154, 156, 158, 161, 164, 165, 168, 170, 171, 174, 176, 177, 179, 181, 182, 185, 188, 189, 192, 195, 197, 198, 200, 201, 202, 203, 204, 206, 209, 211, 214, 215, 218, 219, 220, 222, 225, 227, 229, 232, 233, 236, 238, 239, 242, 243, 244, 247, 250, 252]
/-- BitSolverModel.add(IZ)I -/
def xk_2 : List Instr := [.aload 0, .getfield 1, .aload 0, .getfield 0, .iload 1, .iastore, .aload 0, .getfield 2, .aload 0, .getfield 0, .iload 2, .bastore, .aload 0, .dup, .getfield 0, .iconst (1), .iadd, .putfield 0, .aload 0, .getfield 0, .iconst (1), .isub, .ireturn]
def xb_2 : List Nat := [0, 1, 4, 5, 8, 9, 10, 11, 14, 15, 18, 19, 20, 21, 22, 25, 26, 27, 30, 31, 34, 35, 36]
/-- BitSolverModel.all()I -/
def xk_3 : List Instr := [.iconst (1), .aload 0, .getfield 4, .ishl, .ireturn]
def xb_3 : List Nat := [0, 1, 2, 5, 6]
/-- BitSolverModel.assume(I)I -/
def xk_4 : List Instr := [.aload 0, .iload 1, .invokevirtual 19, .ifCond .eq 10, .aload 0, .getfield 1, .iload 1, .iaload, .iconst (1), .if_icmp .eq 12, .iconst (-2), .ireturn, .aload 0, .getfield 7, .iconst (8), .if_icmp .ne 18, .iconst (-3), .ireturn, .aload 0, .getfield 8, .aload 0, .getfield 7, .iload 1, .iastore, .aload 0, .dup, .getfield 7, .iconst (1), .iadd, .putfield 7, .aload 0, .getfield 7, .ireturn]
def xb_4 : List Nat := [0, 1, 2, 5, 8, 9, 12, 13, 14, 15, 18, 20, 21, 22, 25, 27, 30, 32, 33, 34, 37, 38, 41, 42, 43, 44, 45, 48, 49, 50, 53, 54, 57]
/-- BitSolverModel.bits(I)I -/
def xk_5 : List Instr := [.aload 0, .iload 1, .invokevirtual 19, .ifCond .eq 9, .aload 0, .getfield 1, .iload 1, .iaload, .goto 10, .iconst (-2), .ireturn]
def xb_5 : List Nat := [0, 1, 2, 5, 8, 9, 12, 13, 14, 17, 19]
/-- BitSolverModel.bound(IZ)I -/
def xk_6 : List Instr := [.aload 0, .iload 1, .invokevirtual 19, .ifCond .ne 6, .iconst (-2), .ireturn, .iconst (-1), .istore 3, .iconst (0), .istore 4, .iload 4, .aload 0, .invokevirtual 3, .if_icmp .ge 41, .aload 0, .iload 4, .invokevirtual 21, .ifCond .eq 39, .aload 0, .iload 1, .iload 4, .invokevirtual 7, .istore 5, .iload 3, .iconst (-1), .if_icmp .eq 35, .iload 2, .ifCond .eq 32, .iload 5, .iload 3, .if_icmp .le 37, .goto 35, .iload 5, .iload 3, .if_icmp .ge 37, .iload 5, .goto 38, .iload 3, .istore 3, .iinc 4 (1), .goto 10, .iload 3, .ireturn]
def xb_6 : List Nat := [0, 1, 2, 5, 8, 10, 11, 12, 13, 14, 16, 18, 19, 22, 25, 26, 28, 31, 34, 35, 36, 38, 41, 43, 44, 45, 48, 49, 52, 54, 55, 58, 61, 63, 64, 67, 69, 72, 73, 74, 77, 80, 81]
/-- BitSolverModel.by(II)I -/
def xk_7 : List Instr := [.aload 0, .getfield 3, .iconst (4096), .iload 1, .imul, .iload 2, .iadd, .iaload, .ireturn]
def xb_7 : List Nat := [0, 1, 4, 7, 8, 9, 10, 11, 12]
/-- BitSolverModel.certain(I)I -/
def xk_8 : List Instr := [.aload 0, .iload 1, .invokevirtual 19, .ifCond .ne 6, .iconst (-2), .ireturn, .iconst (-1), .istore 2, .aload 0, .getfield 1, .iload 1, .iaload, .invokestatic 24, .istore 3, .iconst (0), .istore 4, .iload 4, .aload 0, .invokevirtual 3, .if_icmp .ge 47, .aload 0, .iload 4, .invokevirtual 21, .ifCond .eq 45, .iload 2, .iconst (-1), .if_icmp .ne 32, .aload 0, .iload 1, .iload 4, .invokevirtual 7, .goto 33, .iload 2, .istore 2, .iload 3, .iload 2, .aload 0, .iload 1, .iload 4, .invokevirtual 7, .ixor, .iconst (-1), .ixor, .iand, .istore 3, .iinc 4 (1), .goto 16, .iload 2, .iconst (-1), .if_icmp .ne 52, .iconst (-1), .goto 53, .iload 3, .ireturn]
def xb_8 : List Nat := [0, 1, 2, 5, 8, 10, 11, 12, 13, 14, 17, 18, 19, 22, 23, 24, 26, 28, 29, 32, 35, 36, 38, 41, 44, 45, 46, 49, 50, 51, 53, 56, 59, 60, 61, 62, 63, 64, 65, 67, 70, 71, 72, 73, 74, 75, 78, 81, 82, 83, 86, 87, 90, 91]
/-- BitSolverModel.choose(III)I -/
def xk_9 : List Instr := [.aload 0, .iload 1, .invokevirtual 19, .ifCond .eq 27, .aload 0, .iload 2, .invokevirtual 19, .ifCond .eq 27, .aload 0, .iload 3, .invokevirtual 19, .ifCond .eq 27, .aload 0, .getfield 1, .iload 1, .iaload, .iconst (1), .if_icmp .ne 27, .aload 0, .getfield 1, .iload 2, .iaload, .aload 0, .getfield 1, .iload 3, .iaload, .if_icmp .eq 29, .iconst (-2), .ireturn, .aload 0, .getfield 0, .iconst (24), .if_icmp .ne 35, .iconst (-3), .ireturn, .aload 0, .aload 0, .getfield 1, .iload 2, .iaload, .iconst (0), .invokevirtual 2, .istore 4, .iconst (0), .istore 5, .iload 5, .aload 0, .invokevirtual 3, .if_icmp .ge 74, .aload 0, .getfield 3, .iconst (4096), .iload 4, .imul, .iload 5, .iadd, .aload 0, .iload 1, .iload 5, .invokevirtual 7, .iconst (1), .if_icmp .ne 67, .aload 0, .iload 2, .iload 5, .invokevirtual 7, .goto 71, .aload 0, .iload 3, .iload 5, .invokevirtual 7, .iastore, .iinc 5 (1), .goto 45, .iload 4, .ireturn]
def xb_9 : List Nat := [0, 1, 2, 5, 8, 9, 10, 13, 16, 17, 18, 21, 24, 25, 28, 29, 30, 31, 34, 35, 38, 39, 40, 41, 44, 45, 46, 49, 51, 52, 53, 56, 58, 61, 63, 64, 65, 66, 69, 70, 71, 72, 75, 77, 78, 80, 82, 83, 86, 89, 90, 93, 96, 98, 99, 101, 102, 103, 104, 106, 109, 110, 113, 114, 115, 117, 120, 123, 124, 125, 127, 130, 131, 134, 137, 139]
/-- BitSolverModel.claim(I)I -/
def xk_10 : List Instr := [.aload 0, .iload 1, .invokevirtual 19, .ifCond .eq 10, .aload 0, .getfield 1, .iload 1, .iaload, .iconst (1), .if_icmp .eq 12, .iconst (-2), .ireturn, .aload 0, .getfield 5, .iconst (16), .if_icmp .ne 18, .iconst (-3), .ireturn, .aload 0, .getfield 6, .aload 0, .getfield 5, .iload 1, .iastore, .aload 0, .dup, .getfield 5, .iconst (1), .iadd, .putfield 5, .aload 0, .getfield 5, .ireturn]
def xb_10 : List Nat := [0, 1, 2, 5, 8, 9, 12, 13, 14, 15, 18, 20, 21, 22, 25, 27, 30, 32, 33, 34, 37, 38, 41, 42, 43, 44, 45, 48, 49, 50, 53, 54, 57]
/-- BitSolverModel.clear()I -/
def xk_11 : List Instr := [.aload 0, .getfield 0, .istore 1, .aload 0, .iconst (0), .putfield 0, .aload 0, .iconst (0), .putfield 4, .aload 0, .iconst (0), .putfield 5, .aload 0, .iconst (0), .putfield 7, .aload 0, .iconst (0), .putfield 9, .iload 1, .ireturn]
def xb_11 : List Nat := [0, 1, 4, 5, 6, 7, 10, 11, 12, 15, 16, 17, 20, 21, 22, 25, 26, 27, 30, 31]
/-- BitSolverModel.constant(II)I -/
def xk_12 : List Instr := [.iload 1, .iconst (1), .iconst (12), .invokestatic 20, .ifCond .eq 11, .iload 2, .iconst (0), .iload 1, .invokestatic 24, .invokestatic 20, .ifCond .ne 13, .iconst (-2), .ireturn, .aload 0, .getfield 0, .iconst (24), .if_icmp .ne 19, .iconst (-3), .ireturn, .aload 0, .iload 1, .iconst (0), .invokevirtual 2, .istore 3, .iconst (0), .istore 4, .iload 4, .aload 0, .invokevirtual 3, .if_icmp .ge 41, .aload 0, .getfield 3, .iconst (4096), .iload 3, .imul, .iload 4, .iadd, .iload 2, .iastore, .iinc 4 (1), .goto 26, .iload 3, .ireturn]
def xb_12 : List Nat := [0, 1, 2, 4, 7, 10, 11, 12, 13, 16, 19, 22, 24, 25, 26, 29, 31, 34, 36, 37, 38, 39, 40, 43, 44, 45, 47, 49, 50, 53, 56, 57, 60, 63, 64, 65, 67, 68, 69, 70, 73, 76, 77]
/-- BitSolverModel.core(I)I -/
def xk_13 : List Instr := [.aload 0, .invokevirtual 22, .istore 2, .iconst (0), .istore 3, .iconst (-1), .istore 4, .iconst (0), .istore 5, .iload 5, .aload 0, .getfield 7, .if_icmp .ge 33, .iload 2, .ifCond .eq 33, .aload 0, .getfield 11, .iload 5, .baload, .ifCond .ne 31, .iload 3, .iload 1, .if_icmp .ne 28, .aload 0, .getfield 8, .iload 5, .iaload, .goto 29, .iload 4, .istore 4, .iinc 3 (1), .iinc 5 (1), .goto 9, .aload 0, .invokevirtual 23, .iload 4, .ireturn]
def xb_13 : List Nat := [0, 1, 4, 5, 6, 7, 8, 10, 11, 13, 15, 16, 19, 22, 23, 26, 27, 30, 32, 33, 36, 37, 38, 41, 42, 45, 47, 48, 51, 53, 55, 58, 61, 64, 65, 68, 70]
/-- BitSolverModel.cores()I -/
def xk_14 : List Instr := [.aload 0, .invokevirtual 22, .istore 1, .iconst (0), .istore 2, .iconst (0), .istore 3, .iload 3, .aload 0, .getfield 7, .if_icmp .ge 24, .iload 2, .aload 0, .getfield 11, .iload 3, .baload, .ifCond .eq 19, .iconst (0), .goto 20, .iconst (1), .iadd, .istore 2, .iinc 3 (1), .goto 7, .aload 0, .invokevirtual 23, .iload 1, .ifCond .eq 30, .iload 2, .goto 31, .iconst (-1), .ireturn]
def xb_14 : List Nat := [0, 1, 4, 5, 6, 7, 8, 9, 10, 11, 14, 17, 18, 19, 22, 23, 24, 27, 28, 31, 32, 33, 34, 37, 40, 41, 44, 45, 48, 49, 52, 53]
/-- BitSolverModel.count(I)I -/
def xk_15 : List Instr := [.iload 1, .tableswitch 17 (0) (4) #[2, 5, 8, 11, 14], .aload 0, .getfield 0, .ireturn, .aload 0, .getfield 4, .ireturn, .aload 0, .getfield 5, .ireturn, .aload 0, .getfield 7, .ireturn, .aload 0, .getfield 9, .ireturn, .iconst (-2), .ireturn]
def xb_15 : List Nat := [0, 1, 36, 37, 40, 41, 42, 45, 46, 47, 50, 51, 52, 55, 56, 57, 60, 61, 63]
/-- BitSolverModel.cut(III)I -/
def xk_16 : List Instr := [.aload 0, .iload 1, .invokevirtual 19, .ifCond .eq 23, .iload 2, .ifCond .lt 23, .iload 3, .iconst (1), .if_icmp .lt 23, .iload 3, .aload 0, .getfield 1, .iload 1, .iaload, .if_icmp .gt 23, .iload 2, .aload 0, .getfield 1, .iload 1, .iaload, .iload 3, .isub, .if_icmp .le 25, .iconst (-2), .ireturn, .aload 0, .getfield 0, .iconst (24), .if_icmp .ne 31, .iconst (-3), .ireturn, .aload 0, .iload 3, .iconst (0), .invokevirtual 2, .istore 4, .iconst (0), .istore 5, .iload 5, .aload 0, .invokevirtual 3, .if_icmp .ge 61, .aload 0, .getfield 3, .iconst (4096), .iload 4, .imul, .iload 5, .iadd, .aload 0, .iload 1, .iload 5, .invokevirtual 7, .iload 2, .ishr, .iload 3, .invokestatic 24, .iand, .iastore, .iinc 5 (1), .goto 38, .iload 4, .ireturn]
def xb_16 : List Nat := [0, 1, 2, 5, 8, 9, 12, 13, 14, 17, 18, 19, 22, 23, 24, 27, 28, 29, 32, 33, 34, 35, 36, 39, 41, 42, 43, 46, 48, 51, 53, 54, 55, 56, 57, 60, 62, 63, 65, 67, 68, 71, 74, 75, 78, 81, 83, 84, 86, 87, 88, 89, 91, 94, 95, 96, 97, 100, 101, 102, 105, 108, 110]
/-- BitSolverModel.done(IIIII)I -/
def xk_17 : List Instr := [.iload 1, .iload 3, .invokestatic 31, .istore 5, .iload 2, .iload 3, .invokestatic 31, .istore 6, .iload 0, .tableswitch 131 (0) (18) #[10, 14, 17, 21, 25, 29, 33, 37, 41, 49, 57, 69, 77, 86, 95, 104, 111, 118, 125], .iload 1, .iconst (-1), .ixor, .ireturn, .iload 1, .ineg, .ireturn, .iload 1, .iload 2, .iand, .ireturn, .iload 1, .iload 2, .ior, .ireturn, .iload 1, .iload 2, .ixor, .ireturn, .iload 1, .iload 2, .iadd, .ireturn, .iload 1, .iload 2, .isub, .ireturn, .iload 1, .iload 2, .imul, .ireturn, .iload 2, .ifCond .ne 45, .iconst (-1), .goto 48, .iload 1, .iload 2, .idiv, .ireturn, .iload 2, .ifCond .ne 53, .iload 1, .goto 56, .iload 1, .iload 2, .irem, .ireturn, .iload 2, .ifCond .ne 65, .iload 5, .ifCond .ge 63, .iconst (1), .goto 68, .iconst (-1), .goto 68, .iload 5, .iload 6, .idiv, .ireturn, .iload 2, .ifCond .ne 73, .iload 1, .goto 76, .iload 5, .iload 6, .irem, .ireturn, .iload 2, .iload 3, .if_icmp .lt 82, .iconst (0), .goto 85, .iload 1, .iload 2, .ishl, .ireturn, .iload 2, .iload 3, .if_icmp .lt 91, .iconst (0), .goto 94, .iload 1, .iload 2, .ishr, .ireturn, .iload 5, .iload 2, .iload 3, .if_icmp .lt 101, .iconst (31), .goto 102, .iload 2, .ishr, .ireturn, .iload 1, .iload 2, .if_icmp .ne 109, .iconst (1), .goto 110, .iconst (0), .ireturn, .iload 1, .iload 2, .if_icmp .ge 116, .iconst (1), .goto 117, .iconst (0), .ireturn, .iload 5, .iload 6, .if_icmp .ge 123, .iconst (1), .goto 124, .iconst (0), .ireturn, .iload 1, .iload 4, .ishl, .iload 2, .ior, .ireturn, .iload 1, .iload 2, .iload 3, .irem, .ishl, .iload 1, .iload 3, .iload 2, .iload 3, .irem, .isub, .ishr, .ior, .ireturn]
def xb_17 : List Nat := [0, 1, 2, 5, 7, 8, 9, 12, 14, 15, 104, 105, 106, 107, 108, 109, 110, 111, 112, 113, 114, 115, 116, 117, 118, 119, 120, 121, 122, 123, 124, 125, 126, 127, 128, 129, 130, 131, 132, 133, 134, 135, 136, 139, 140, 143, 144, 145, 146, 147, 148, 151, 152, 155, 156, 157, 158, 159, 160, 163, 165, 168, 169, 172, 173, 176, 178, 180, 181, 182, 183, 186, 187, 190, 192, 194, 195, 196, 197, 198, 201, 202, 205, 206, 207, 208, 209, 210, 211, 214, 215, 218, 219, 220, 221, 222, 224, 225, 226, 229, 231, 234, 235, 236, 237, 238, 239, 242, 243, 246, 247, 248, 249, 250, 253, 254, 257, 258, 259, 261, 263, 266, 267, 270, 271, 272, 273, 275, 276, 277, 278, 279, 280, 281, 282, 283, 284, 285, 286, 287, 288, 289, 290, 291, 292]
/-- BitSolverModel.great()I -/
def xk_18 : List Instr := [.iconst (0), .istore 1, .iload 1, .aload 0, .invokevirtual 3, .if_icmp .ge 19, .aload 0, .getfield 13, .iload 1, .aload 0, .iload 1, .invokevirtual 21, .ifCond .eq 15, .iconst (1), .goto 16, .iconst (0), .iastore, .iinc 1 (1), .goto 2, .aload 0, .invokevirtual 30, .ireturn]
def xb_18 : List Nat := [0, 1, 2, 3, 4, 7, 10, 11, 14, 15, 16, 17, 20, 23, 24, 27, 28, 29, 32, 35, 36, 39]
/-- BitSolverModel.has(I)Z -/
def xk_19 : List Instr := [.iload 1, .iconst (0), .aload 0, .getfield 0, .iconst (1), .isub, .invokestatic 20, .ireturn]
def xb_19 : List Nat := [0, 1, 2, 3, 6, 7, 8, 11]
/-- BitSolverModel.isIn(III)Z -/
def xk_20 : List Instr := [.iload 0, .iload 1, .if_icmp .lt 8, .iload 0, .iload 2, .if_icmp .gt 8, .iconst (1), .goto 9, .iconst (0), .ireturn]
def xb_20 : List Nat := [0, 1, 2, 5, 6, 7, 10, 11, 14, 15]
/-- BitSolverModel.isModel(I)Z -/
def xk_21 : List Instr := [.iconst (1), .istore 2, .iconst (0), .istore 3, .iload 3, .aload 0, .getfield 5, .if_icmp .ge 25, .iload 2, .ifCond .eq 21, .aload 0, .aload 0, .getfield 6, .iload 3, .iaload, .iload 1, .invokevirtual 7, .iconst (1), .if_icmp .ne 21, .iconst (1), .goto 22, .iconst (0), .istore 2, .iinc 3 (1), .goto 4, .iconst (0), .istore 3, .iload 3, .aload 0, .getfield 7, .if_icmp .ge 53, .iload 2, .ifCond .eq 49, .aload 0, .getfield 11, .iload 3, .baload, .ifCond .ne 47, .aload 0, .aload 0, .getfield 8, .iload 3, .iaload, .iload 1, .invokevirtual 7, .iconst (1), .if_icmp .ne 49, .iconst (1), .goto 50, .iconst (0), .istore 2, .iinc 3 (1), .goto 27, .iload 2, .ireturn]
def xb_21 : List Nat := [0, 1, 2, 3, 4, 5, 6, 9, 12, 13, 16, 17, 18, 21, 22, 23, 24, 27, 28, 31, 32, 35, 36, 37, 40, 43, 44, 45, 46, 47, 50, 53, 54, 57, 58, 61, 62, 63, 66, 67, 68, 71, 72, 73, 74, 77, 78, 81, 82, 85, 86, 87, 90, 93, 94]
/-- BitSolverModel.leave()Z -/
def xk_22 : List Instr := [.aload 0, .invokevirtual 23, .aload 0, .invokevirtual 25, .ifCond .le 7, .iconst (0), .ireturn, .iconst (0), .istore 1, .iload 1, .aload 0, .getfield 7, .if_icmp .ge 30, .aload 0, .getfield 11, .iload 1, .iconst (1), .bastore, .aload 0, .getfield 11, .iload 1, .aload 0, .invokevirtual 25, .ifCond .ne 26, .iconst (1), .goto 27, .iconst (0), .bastore, .iinc 1 (1), .goto 9, .iconst (1), .ireturn]
def xb_22 : List Nat := [0, 1, 4, 5, 8, 11, 12, 13, 14, 15, 16, 17, 20, 23, 24, 27, 28, 29, 30, 31, 34, 35, 36, 39, 42, 43, 46, 47, 48, 51, 54, 55]
/-- BitSolverModel.leaveNone()V -/
def xk_23 : List Instr := [.iconst (0), .istore 1, .iload 1, .iconst (8), .if_icmp .ge 12, .aload 0, .getfield 11, .iload 1, .iconst (0), .bastore, .iinc 1 (1), .goto 2, .return_]
def xb_23 : List Nat := [0, 1, 2, 3, 5, 8, 9, 12, 13, 14, 15, 18, 21]
/-- BitSolverModel.mask(I)I -/
def xk_24 : List Instr := [.iconst (1), .iload 0, .ishl, .iconst (1), .isub, .ireturn]
def xb_24 : List Nat := [0, 1, 2, 3, 4, 5]
/-- BitSolverModel.models()I -/
def xk_25 : List Instr := [.iconst (0), .istore 1, .iconst (0), .istore 2, .iload 2, .aload 0, .invokevirtual 3, .if_icmp .ge 20, .iload 1, .aload 0, .iload 2, .invokevirtual 21, .ifCond .eq 15, .iconst (1), .goto 16, .iconst (0), .iadd, .istore 1, .iinc 2 (1), .goto 4, .iload 1, .ireturn]
def xb_25 : List Nat := [0, 1, 2, 3, 4, 5, 6, 9, 12, 13, 14, 15, 18, 21, 22, 25, 26, 27, 28, 31, 34, 35]
/-- BitSolverModel.pop()I -/
def xk_26 : List Instr := [.aload 0, .getfield 9, .ifCond .ne 5, .iconst (-2), .ireturn, .aload 0, .dup, .getfield 9, .iconst (1), .isub, .putfield 9, .aload 0, .getfield 5, .aload 0, .getfield 10, .aload 0, .getfield 9, .iaload, .isub, .istore 1, .aload 0, .aload 0, .getfield 10, .aload 0, .getfield 9, .iaload, .putfield 5, .iload 1, .ireturn]
def xb_26 : List Nat := [0, 1, 4, 7, 9, 10, 11, 12, 15, 16, 17, 20, 21, 24, 25, 28, 29, 32, 33, 34, 35, 36, 37, 40, 41, 44, 45, 48, 49]
/-- BitSolverModel.push()I -/
def xk_27 : List Instr := [.aload 0, .getfield 9, .iconst (8), .if_icmp .ne 6, .iconst (-3), .ireturn, .aload 0, .getfield 10, .aload 0, .getfield 9, .aload 0, .getfield 5, .iastore, .aload 0, .dup, .getfield 9, .iconst (1), .iadd, .putfield 9, .aload 0, .getfield 9, .ireturn]
def xb_27 : List Nat := [0, 1, 4, 6, 9, 11, 12, 13, 16, 17, 20, 21, 24, 25, 26, 27, 30, 31, 32, 35, 36, 39]
/-- BitSolverModel.release()I -/
def xk_28 : List Instr := [.aload 0, .getfield 7, .istore 1, .aload 0, .iconst (0), .putfield 7, .iload 1, .ireturn]
def xb_28 : List Nat := [0, 1, 4, 5, 6, 7, 10, 11]
/-- BitSolverModel.same(II)I -/
def xk_29 : List Instr := [.aload 0, .iload 1, .invokevirtual 19, .ifCond .eq 17, .aload 0, .iload 2, .invokevirtual 19, .ifCond .eq 17, .aload 0, .getfield 1, .iload 1, .iaload, .aload 0, .getfield 1, .iload 2, .iaload, .if_icmp .eq 19, .iconst (-2), .ireturn, .iconst (1), .istore 3, .iconst (0), .istore 4, .iload 4, .aload 0, .invokevirtual 3, .if_icmp .ge 48, .iload 3, .ifCond .eq 44, .aload 0, .iload 4, .invokevirtual 21, .ifCond .eq 42, .aload 0, .iload 1, .iload 4, .invokevirtual 7, .aload 0, .iload 2, .iload 4, .invokevirtual 7, .if_icmp .ne 44, .iconst (1), .goto 45, .iconst (0), .istore 3, .iinc 4 (1), .goto 23, .iload 3, .ifCond .eq 52, .iconst (1), .goto 53, .iconst (0), .ireturn]
def xb_29 : List Nat := [0, 1, 2, 5, 8, 9, 10, 13, 16, 17, 20, 21, 22, 23, 26, 27, 28, 31, 33, 34, 35, 36, 37, 39, 41, 42, 45, 48, 49, 52, 53, 55, 58, 61, 62, 63, 65, 68, 69, 70, 72, 75, 78, 79, 82, 83, 84, 87, 90, 91, 94, 95, 98, 99]
/-- BitSolverModel.shrink()I -/
def xk_30 : List Instr := [.aload 0, .iconst (2), .putfield 16, .aload 0, .invokevirtual 3, .istore 1, .iload 1, .iconst (1), .if_icmp .le 90, .iload 1, .iconst (2), .idiv, .istore 1, .aload 0, .getfield 16, .istore 2, .iconst (0), .istore 3, .iload 3, .iload 1, .if_icmp .ge 89, .aload 0, .getfield 13, .iconst (2), .iload 3, .imul, .iaload, .istore 4, .aload 0, .getfield 13, .iconst (2), .iload 3, .imul, .iconst (1), .iadd, .iaload, .istore 5, .iload 4, .iload 5, .if_icmp .eq 82, .iload 2, .istore 6, .iload 6, .aload 0, .getfield 16, .if_icmp .ge 60, .aload 0, .getfield 14, .iload 6, .iaload, .iload 4, .if_icmp .ne 58, .aload 0, .getfield 15, .iload 6, .iaload, .iload 5, .if_icmp .eq 60, .iinc 6 (1), .goto 42, .iload 6, .aload 0, .getfield 16, .if_icmp .ne 80, .aload 0, .getfield 14, .iload 6, .iload 4, .iastore, .aload 0, .getfield 15, .iload 6, .iload 5, .iastore, .aload 0, .dup, .getfield 16, .iconst (1), .iadd, .putfield 16, .iload 6, .istore 4, .aload 0, .getfield 13, .iload 3, .iload 4, .iastore, .iinc 3 (1), .goto 18, .goto 6, .aload 0, .getfield 16, .iconst (2), .isub, .ireturn]
def xb_30 : List Nat := [0, 1, 2, 5, 6, 9, 10, 11, 12, 15, 16, 17, 18, 19, 20, 23, 24, 25, 26, 27, 28, 31, 32, 35, 36, 37, 38, 39, 41, 42, 45, 46, 47, 48, 49, 50, 51, 53, 55, 57, 60, 61, 63, 65, 66, 69, 72, 73, 76, 78, 79, 81, 84, 85, 88, 90, 91, 93, 96, 99, 102, 104, 105, 108, 111, 112, 115, 117, 119, 120, 121, 124, 126, 128, 129, 130, 131, 134, 135, 136, 139, 141, 143, 144, 147, 148, 150, 151, 154, 157, 160, 161, 164, 165, 166]
/-- BitSolverModel.signed(II)I -/
def xk_31 : List Instr := [.iload 0, .iconst (32), .iload 1, .isub, .ishl, .iconst (32), .iload 1, .isub, .ishr, .ireturn]
def xb_31 : List Nat := [0, 1, 3, 4, 5, 6, 8, 9, 10, 11]
/-- BitSolverModel.size(II)I -/
def xk_32 : List Instr := [.aload 0, .iload 1, .invokevirtual 19, .ifCond .eq 14, .iload 2, .iconst (0), .aload 0, .getfield 1, .iload 1, .iaload, .iconst (1), .isub, .invokestatic 20, .ifCond .ne 16, .iconst (-2), .ireturn, .iconst (0), .istore 3, .iload 3, .aload 0, .invokevirtual 3, .if_icmp .ge 36, .aload 0, .getfield 13, .iload 3, .aload 0, .iload 1, .iload 3, .invokevirtual 7, .iload 2, .ishr, .iconst (1), .iand, .iastore, .iinc 3 (1), .goto 18, .aload 0, .invokevirtual 30, .ireturn]
def xb_32 : List Nat := [0, 1, 2, 5, 8, 9, 10, 11, 14, 15, 16, 17, 18, 21, 24, 26, 27, 28, 29, 30, 31, 34, 37, 38, 41, 42, 43, 44, 45, 48, 49, 50, 51, 52, 53, 56, 59, 60, 63]
/-- BitSolverModel.value(II)I -/
def xk_33 : List Instr := [.aload 0, .iload 1, .invokevirtual 19, .ifCond .ne 6, .iconst (-2), .ireturn, .iconst (0), .istore 3, .iconst (0), .istore 4, .iload 4, .aload 0, .invokevirtual 3, .if_icmp .ge 29, .aload 0, .iload 4, .invokevirtual 21, .ifCond .eq 27, .iload 3, .iload 2, .if_icmp .ne 26, .aload 0, .iload 1, .iload 4, .invokevirtual 7, .ireturn, .iinc 3 (1), .iinc 4 (1), .goto 10, .iconst (-1), .ireturn]
def xb_33 : List Nat := [0, 1, 2, 5, 8, 10, 11, 12, 13, 14, 16, 18, 19, 22, 25, 26, 28, 31, 34, 35, 36, 39, 40, 41, 43, 46, 47, 50, 53, 56, 57]
/-- BitSolverModel.values(I)I -/
def xk_34 : List Instr := [.aload 0, .iload 1, .invokevirtual 19, .ifCond .ne 6, .iconst (-2), .ireturn, .iconst (0), .istore 2, .iload 2, .iconst (4096), .if_icmp .ge 18, .aload 0, .getfield 12, .iload 2, .iconst (0), .bastore, .iinc 2 (1), .goto 8, .iconst (0), .istore 2, .iconst (0), .istore 3, .iload 3, .aload 0, .invokevirtual 3, .if_icmp .ge 49, .aload 0, .iload 3, .invokevirtual 21, .ifCond .eq 47, .aload 0, .getfield 12, .aload 0, .iload 1, .iload 3, .invokevirtual 7, .baload, .ifCond .ne 47, .aload 0, .getfield 12, .aload 0, .iload 1, .iload 3, .invokevirtual 7, .iconst (1), .bastore, .iinc 2 (1), .iinc 3 (1), .goto 22, .iload 2, .ireturn]
def xb_34 : List Nat := [0, 1, 2, 5, 8, 10, 11, 12, 13, 14, 17, 20, 21, 24, 25, 26, 27, 30, 33, 34, 35, 36, 37, 38, 39, 42, 45, 46, 47, 50, 53, 54, 57, 58, 59, 60, 63, 64, 67, 68, 71, 72, 73, 74, 77, 78, 79, 82, 85, 88, 89]
/-- BitSolverModel.where(II)I -/
def xk_35 : List Instr := [.aload 0, .iload 1, .invokevirtual 19, .ifCond .eq 13, .iload 2, .iconst (0), .aload 0, .getfield 1, .iload 1, .iaload, .invokestatic 24, .invokestatic 20, .ifCond .ne 15, .iconst (-2), .ireturn, .iconst (0), .istore 3, .iconst (0), .istore 4, .iload 4, .aload 0, .invokevirtual 3, .if_icmp .ge 38, .aload 0, .iload 4, .invokevirtual 21, .ifCond .eq 36, .aload 0, .iload 1, .iload 4, .invokevirtual 7, .iload 2, .if_icmp .ne 35, .iload 3, .ireturn, .iinc 3 (1), .iinc 4 (1), .goto 19, .iconst (-1), .ireturn]
def xb_35 : List Nat := [0, 1, 2, 5, 8, 9, 10, 11, 14, 15, 16, 19, 22, 25, 27, 28, 29, 30, 31, 33, 35, 36, 39, 42, 43, 45, 48, 51, 52, 53, 55, 58, 59, 62, 63, 64, 67, 70, 73, 74]
/-- BitSolverModel.widen(IIZ)I -/
def xk_36 : List Instr := [.aload 0, .iload 1, .invokevirtual 19, .ifCond .eq 12, .iload 2, .aload 0, .getfield 1, .iload 1, .iaload, .iconst (12), .invokestatic 20, .ifCond .ne 14, .iconst (-2), .ireturn, .aload 0, .getfield 0, .iconst (24), .if_icmp .ne 20, .iconst (-3), .ireturn, .aload 0, .iload 2, .iconst (0), .invokevirtual 2, .istore 4, .iconst (0), .istore 5, .iload 5, .aload 0, .invokevirtual 3, .if_icmp .ge 60, .aload 0, .getfield 3, .iconst (4096), .iload 4, .imul, .iload 5, .iadd, .iload 3, .ifCond .eq 50, .aload 0, .iload 1, .iload 5, .invokevirtual 7, .aload 0, .getfield 1, .iload 1, .iaload, .invokestatic 31, .goto 54, .aload 0, .iload 1, .iload 5, .invokevirtual 7, .iload 2, .invokestatic 24, .iand, .iastore, .iinc 5 (1), .goto 27, .iload 4, .ireturn]
def xb_36 : List Nat := [0, 1, 2, 5, 8, 9, 10, 13, 14, 15, 17, 20, 23, 25, 26, 27, 30, 32, 35, 37, 38, 39, 40, 41, 44, 46, 47, 49, 51, 52, 55, 58, 59, 62, 65, 67, 68, 70, 71, 72, 75, 76, 77, 79, 82, 83, 86, 87, 88, 91, 94, 95, 96, 98, 101, 102, 105, 106, 107, 110, 113, 115]
/-- BitSolverModel.without(IZ)I -/
def xk_37 : List Instr := [.aload 0, .iload 1, .invokevirtual 19, .ifCond .eq 9, .aload 0, .getfield 2, .iload 1, .baload, .ifCond .ne 11, .iconst (-2), .ireturn, .iconst (0), .istore 3, .iload 1, .iconst (1), .iadd, .istore 4, .iload 4, .aload 0, .getfield 0, .if_icmp .ge 37, .iload 3, .aload 0, .getfield 2, .iload 4, .baload, .ifCond .eq 32, .aload 0, .getfield 1, .iload 4, .iaload, .goto 33, .iconst (0), .iadd, .istore 3, .iinc 4 (1), .goto 17, .iconst (0), .istore 4, .iconst (0), .istore 5, .iload 5, .aload 0, .invokevirtual 3, .if_icmp .ge 107, .iload 5, .iload 3, .ishr, .aload 0, .getfield 1, .iload 1, .iaload, .invokestatic 24, .iand, .ifCond .ne 105, .iconst (0), .istore 6, .iconst (0), .istore 7, .iload 7, .aload 0, .getfield 1, .iload 1, .iaload, .invokestatic 24, .if_icmp .gt 82, .iload 6, .aload 0, .iload 5, .iload 7, .iload 3, .ishl, .ior, .invokevirtual 21, .ifCond .eq 77, .iconst (1), .goto 78, .iconst (0), .iadd, .istore 6, .iinc 7 (1), .goto 59, .iload 4, .iload 2, .ifCond .eq 98, .iload 6, .aload 0, .getfield 1, .iload 1, .iaload, .invokestatic 24, .iconst (1), .iadd, .if_icmp .ne 96, .iconst (1), .goto 103, .iconst (0), .goto 103, .iload 6, .ifCond .le 102, .iconst (1), .goto 103, .iconst (0), .iadd, .istore 4, .iinc 5 (1), .goto 41, .iload 4, .ireturn]
def xb_37 : List Nat := [0, 1, 2, 5, 8, 9, 12, 13, 14, 17, 19, 20, 21, 22, 23, 24, 25, 27, 29, 30, 33, 36, 37, 38, 41, 43, 44, 47, 48, 51, 53, 54, 57, 58, 59, 60, 63, 66, 67, 69, 70, 72, 74, 75, 78, 81, 83, 84, 85, 86, 89, 90, 91, 94, 95, 98, 99, 101, 102, 104, 106, 107, 110, 111, 112, 115, 118, 120, 121, 123, 125, 126, 127, 128, 131, 134, 135, 138, 139, 140, 142, 145, 148, 150, 151, 154, 156, 157, 160, 161, 162, 165, 166, 167, 170, 171, 174, 175, 178, 180, 183, 184, 187, 188, 189, 191, 194, 197, 199]
/-- BitSolverModel.word(I)I -/
def xk_38 : List Instr := [.iload 1, .iconst (1), .iconst (12), .invokestatic 20, .ifCond .ne 7, .iconst (-2), .ireturn, .aload 0, .getfield 0, .iconst (24), .if_icmp .eq 17, .aload 0, .getfield 4, .iload 1, .iadd, .iconst (12), .if_icmp .le 19, .iconst (-3), .ireturn, .aload 0, .dup, .getfield 4, .iload 1, .iadd, .putfield 4, .iconst (0), .istore 2, .iload 2, .aload 0, .getfield 0, .if_icmp .ge 60, .aload 0, .invokevirtual 3, .iconst (1), .isub, .istore 3, .iload 3, .ifCond .lt 58, .aload 0, .getfield 3, .iconst (4096), .iload 2, .imul, .iload 3, .iadd, .aload 0, .getfield 3, .iconst (4096), .iload 2, .imul, .iload 3, .iload 1, .ishr, .iadd, .iaload, .iastore, .iinc 3 (-1), .goto 36, .iinc 2 (1), .goto 27, .aload 0, .iload 1, .iconst (1), .invokevirtual 2, .istore 2, .iconst (0), .istore 3, .iload 3, .aload 0, .invokevirtual 3, .if_icmp .ge 85, .aload 0, .getfield 3, .iconst (4096), .iload 2, .imul, .iload 3, .iadd, .iload 3, .iload 1, .invokestatic 24, .iand, .iastore, .iinc 3 (1), .goto 67, .iload 2, .ireturn]
def xb_38 : List Nat := [0, 1, 2, 4, 7, 10, 12, 13, 14, 17, 19, 22, 23, 26, 27, 28, 30, 33, 35, 36, 37, 38, 41, 42, 43, 46, 47, 48, 49, 50, 53, 56, 57, 60, 61, 62, 63, 64, 67, 68, 71, 74, 75, 76, 77, 78, 79, 82, 85, 86, 87, 88, 89, 90, 91, 92, 93, 96, 99, 102, 105, 106, 107, 108, 111, 112, 113, 114, 115, 116, 119, 122, 123, 126, 129, 130, 131, 132, 133, 134, 135, 138, 139, 140, 143, 146, 147]
/-- BitSolverLaw.law([I)Z -/
def xk_39 : List Instr := [.new 1, .dup, .invokespecial 63, .astore 1, .new 0, .dup, .invokespecial 0, .astore 2, .iconst (0), .istore 3, .iload 3, .aload 0, .arraylength, .iconst (4), .isub, .if_icmp .gt 570, .aload 0, .iload 3, .iaload, .iconst (31), .iand, .tableswitch 568 (0) (25) #[22, 29, 46, 73, 110, 147, 184, 229, 246, 263, 280, 287, 294, 301, 308, 335, 362, 397, 414, 431, 458, 465, 482, 509, 516, 551], .aload 1, .invokevirtual 71, .aload 2, .invokevirtual 11, .if_icmp .eq 568, .iconst (0), .ireturn, .aload 1, .aload 0, .iload 3, .iconst (1), .iadd, .iaload, .invokevirtual 101, .aload 2, .aload 0, .iload 3, .iconst (1), .iadd, .iaload, .invokevirtual 38, .if_icmp .eq 568, .iconst (0), .ireturn, .aload 1, .aload 0, .iload 3, .iconst (1), .iadd, .iaload, .aload 0, .iload 3, .iconst (2), .iadd, .iaload, .invokevirtual 72, .aload 2, .aload 0, .iload 3, .iconst (1), .iadd, .iaload, .aload 0, .iload 3, .iconst (2), .iadd, .iaload, .invokevirtual 12, .if_icmp .eq 568, .iconst (0), .ireturn, .aload 1, .aload 0, .iload 3, .iconst (1), .iadd, .iaload, .aload 0, .iload 3, .iconst (2), .iadd, .iaload, .aload 0, .iload 3, .iconst (3), .iadd, .iaload, .invokevirtual 64, .aload 2, .aload 0, .iload 3, .iconst (1), .iadd, .iaload, .aload 0, .iload 3, .iconst (2), .iadd, .iaload, .aload 0, .iload 3, .iconst (3), .iadd, .iaload, .invokevirtual 1, .if_icmp .eq 568, .iconst (0), .ireturn, .aload 1, .aload 0, .iload 3, .iconst (1), .iadd, .iaload, .aload 0, .iload 3, .iconst (2), .iadd, .iaload, .aload 0, .iload 3, .iconst (3), .iadd, .iaload, .invokevirtual 69, .aload 2, .aload 0, .iload 3, .iconst (1), .iadd, .iaload, .aload 0, .iload 3, .iconst (2), .iadd, .iaload, .aload 0, .iload 3, .iconst (3), .iadd, .iaload, .invokevirtual 9, .if_icmp .eq 568, .iconst (0), .ireturn, .aload 1, .aload 0, .iload 3, .iconst (1), .iadd, .iaload, .aload 0, .iload 3, .iconst (2), .iadd, .iaload, .aload 0, .iload 3, .iconst (3), .iadd, .iaload, .invokevirtual 77, .aload 2, .aload 0, .iload 3, .iconst (1), .iadd, .iaload, .aload 0, .iload 3, .iconst (2), .iadd, .iaload, .aload 0, .iload 3, .iconst (3), .iadd, .iaload, .invokevirtual 16, .if_icmp .eq 568, .iconst (0), .ireturn, .aload 1, .aload 0, .iload 3, .iconst (1), .iadd, .iaload, .aload 0, .iload 3, .iconst (2), .iadd, .iaload, .aload 0, .iload 3, .iconst (3), .iadd, .iaload, .ifCond .eq 203, .iconst (1), .goto 204, .iconst (0), .invokevirtual 99, .aload 2, .aload 0, .iload 3, .iconst (1), .iadd, .iaload, .aload 0, .iload 3, .iconst (2), .iadd, .iaload, .aload 0, .iload 3, .iconst (3), .iadd, .iaload, .ifCond .eq 224, .iconst (1), .goto 225, .iconst (0), .invokevirtual 36, .if_icmp .eq 568, .iconst (0), .ireturn, .aload 1, .aload 0, .iload 3, .iconst (1), .iadd, .iaload, .invokevirtual 66, .aload 2, .aload 0, .iload 3, .iconst (1), .iadd, .iaload, .invokevirtual 5, .if_icmp .eq 568, .iconst (0), .ireturn, .aload 1, .aload 0, .iload 3, .iconst (1), .iadd, .iaload, .invokevirtual 70, .aload 2, .aload 0, .iload 3, .iconst (1), .iadd, .iaload, .invokevirtual 10, .if_icmp .eq 568, .iconst (0), .ireturn, .aload 1, .aload 0, .iload 3, .iconst (1), .iadd, .iaload, .invokevirtual 65, .aload 2, .aload 0, .iload 3, .iconst (1), .iadd, .iaload, .invokevirtual 4, .if_icmp .eq 568, .iconst (0), .ireturn, .aload 1, .invokevirtual 91, .aload 2, .invokevirtual 28, .if_icmp .eq 568, .iconst (0), .ireturn, .aload 1, .invokevirtual 89, .aload 2, .invokevirtual 27, .if_icmp .eq 568, .iconst (0), .ireturn, .aload 1, .invokevirtual 88, .aload 2, .invokevirtual 26, .if_icmp .eq 568, .iconst (0), .ireturn, .aload 1, .invokevirtual 86, .aload 2, .invokevirtual 25, .if_icmp .eq 568, .iconst (0), .ireturn, .aload 1, .aload 0, .iload 3, .iconst (1), .iadd, .iaload, .aload 0, .iload 3, .iconst (2), .iadd, .iaload, .invokevirtual 96, .aload 2, .aload 0, .iload 3, .iconst (1), .iadd, .iaload, .aload 0, .iload 3, .iconst (2), .iadd, .iaload, .invokevirtual 33, .if_icmp .eq 568, .iconst (0), .ireturn, .aload 1, .aload 0, .iload 3, .iconst (1), .iadd, .iaload, .aload 0, .iload 3, .iconst (2), .iadd, .iaload, .invokevirtual 98, .aload 2, .aload 0, .iload 3, .iconst (1), .iadd, .iaload, .aload 0, .iload 3, .iconst (2), .iadd, .iaload, .invokevirtual 35, .if_icmp .eq 568, .iconst (0), .ireturn, .aload 1, .aload 0, .iload 3, .iconst (1), .iadd, .iaload, .aload 0, .iload 3, .iconst (2), .iadd, .iaload, .ifCond .eq 376, .iconst (1), .goto 377, .iconst (0), .invokevirtual 67, .aload 2, .aload 0, .iload 3, .iconst (1), .iadd, .iaload, .aload 0, .iload 3, .iconst (2), .iadd, .iaload, .ifCond .eq 392, .iconst (1), .goto 393, .iconst (0), .invokevirtual 6, .if_icmp .eq 568, .iconst (0), .ireturn, .aload 1, .aload 0, .iload 3, .iconst (1), .iadd, .iaload, .invokevirtual 97, .aload 2, .aload 0, .iload 3, .iconst (1), .iadd, .iaload, .invokevirtual 34, .if_icmp .eq 568, .iconst (0), .ireturn, .aload 1, .aload 0, .iload 3, .iconst (1), .iadd, .iaload, .invokevirtual 68, .aload 2, .aload 0, .iload 3, .iconst (1), .iadd, .iaload, .invokevirtual 8, .if_icmp .eq 568, .iconst (0), .ireturn, .aload 1, .aload 0, .iload 3, .iconst (1), .iadd, .iaload, .aload 0, .iload 3, .iconst (2), .iadd, .iaload, .invokevirtual 92, .aload 2, .aload 0, .iload 3, .iconst (1), .iadd, .iaload, .aload 0, .iload 3, .iconst (2), .iadd, .iaload, .invokevirtual 29, .if_icmp .eq 568, .iconst (0), .ireturn, .aload 1, .invokevirtual 75, .aload 2, .invokevirtual 14, .if_icmp .eq 568, .iconst (0), .ireturn, .aload 1, .aload 0, .iload 3, .iconst (1), .iadd, .iaload, .invokevirtual 73, .aload 2, .aload 0, .iload 3, .iconst (1), .iadd, .iaload, .invokevirtual 13, .if_icmp .eq 568, .iconst (0), .ireturn, .aload 1, .aload 0, .iload 3, .iconst (1), .iadd, .iaload, .aload 0, .iload 3, .iconst (2), .iadd, .iaload, .invokevirtual 94, .aload 2, .aload 0, .iload 3, .iconst (1), .iadd, .iaload, .aload 0, .iload 3, .iconst (2), .iadd, .iaload, .invokevirtual 32, .if_icmp .eq 568, .iconst (0), .ireturn, .aload 1, .invokevirtual 81, .aload 2, .invokevirtual 18, .if_icmp .eq 568, .iconst (0), .ireturn, .aload 1, .aload 0, .iload 3, .iconst (1), .iadd, .iaload, .aload 0, .iload 3, .iconst (2), .iadd, .iaload, .ifCond .eq 530, .iconst (1), .goto 531, .iconst (0), .invokevirtual 100, .aload 2, .aload 0, .iload 3, .iconst (1), .iadd, .iaload, .aload 0, .iload 3, .iconst (2), .iadd, .iaload, .ifCond .eq 546, .iconst (1), .goto 547, .iconst (0), .invokevirtual 37, .if_icmp .eq 568, .iconst (0), .ireturn, .aload 1, .aload 0, .iload 3, .iconst (1), .iadd, .iaload, .invokevirtual 76, .aload 2, .aload 0, .iload 3, .iconst (1), .iadd, .iaload, .invokevirtual 15, .if_icmp .eq 568, .iconst (0), .ireturn, .iinc 3 (4), .goto 10, .iconst (1), .ireturn]
def xb_39 : List Nat := [0, 3, 4, 7, 8, 11, 12, 15, 16, 17, 18, 19, 20, 21, 22, 23, 26, 27, 28, 29, 31, 32, 152, 153, 156, 157, 160, 163, 164, 165, 166, 167, 168, 169, 170, 171, 174, 175, 176, 177, 178, 179, 180, 183, 186, 187, 188, 189, 190, 191, 192, 193, 194, 195, 196, 197, 198, 199, 202, 203, 204, 205, 206, 207, 208, 209, 210, 211, 212, 213, 216, 219, 220, 221, 222, 223, 224, 225, 226, 227, 228, 229, 230, 231, 232, 233, 234, 235, 236, 237, 240, 241, 242, 243, 244, 245, 246, 247, 248, 249, 250, 251, 252, 253, 254, 255, 256, 259, 262, 263, 264, 265, 266, 267, 268, 269, 270, 271, 272, 273, 274, 275, 276, 277, 278, 279, 280, 283, 284, 285, 286, 287, 288, 289, 290, 291, 292, 293, 294, 295, 296, 297, 298, 299, 302, 305, 306, 307, 308, 309, 310, 311, 312, 313, 314, 315, 316, 317, 318, 319, 320, 321, 322, 323, 326, 327, 328, 329, 330, 331, 332, 333, 334, 335, 336, 337, 338, 339, 340, 341, 342, 345, 348, 349, 350, 351, 352, 353, 354, 355, 356, 357, 358, 359, 360, 361, 362, 363, 364, 365, 366, 369, 370, 373, 374, 377, 378, 379, 380, 381, 382, 383, 384, 385, 386, 387, 388, 389, 390, 391, 392, 393, 396, 397, 400, 401, 404, 407, 408, 409, 410, 411, 412, 413, 414, 415, 418, 419, 420, 421, 422, 423, 424, 427, 430, 431, 432, 433, 434, 435, 436, 437, 438, 441, 442, 443, 444, 445, 446, 447, 450, 453, 454, 455, 456, 457, 458, 459, 460, 461, 464, 465, 466, 467, 468, 469, 470, 473, 476, 477, 478, 479, 482, 483, 486, 489, 490, 491, 492, 495, 496, 499, 502, 503, 504, 505, 508, 509, 512, 515, 516, 517, 518, 521, 522, 525, 528, 529, 530, 531, 532, 533, 534, 535, 536, 537, 538, 539, 540, 541, 544, 545, 546, 547, 548, 549, 550, 551, 552, 553, 554, 555, 558, 561, 562, 563, 564, 565, 566, 567, 568, 569, 570, 571, 572, 573, 574, 577, 578, 579, 580, 581, 582, 583, 584, 585, 586, 587, 588, 591, 594, 595, 596, 597, 598, 599, 600, 601, 602, 603, 604, 605, 606, 607, 610, 611, 614, 615, 618, 619, 620, 621, 622, 623, 624, 625, 626, 627, 628, 629, 632, 633, 636, 637, 640, 643, 644, 645, 646, 647, 648, 649, 650, 651, 654, 655, 656, 657, 658, 659, 660, 663, 666, 667, 668, 669, 670, 671, 672, 673, 674, 677, 678, 679, 680, 681, 682, 683, 686, 689, 690, 691, 692, 693, 694, 695, 696, 697, 698, 699, 700, 701, 702, 705, 706, 707, 708, 709, 710, 711, 712, 713, 714, 715, 716, 719, 722, 723, 724, 725, 728, 729, 732, 735, 736, 737, 738, 739, 740, 741, 742, 743, 746, 747, 748, 749, 750, 751, 752, 755, 758, 759, 760, 761, 762, 763, 764, 765, 766, 767, 768, 769, 770, 771, 774, 775, 776, 777, 778, 779, 780, 781, 782, 783, 784, 785, 788, 791, 792, 793, 794, 797, 798, 801, 804, 805, 806, 807, 808, 809, 810, 811, 812, 813, 814, 815, 816, 817, 820, 821, 824, 825, 828, 829, 830, 831, 832, 833, 834, 835, 836, 837, 838, 839, 842, 843, 846, 847, 850, 853, 854, 855, 856, 857, 858, 859, 860, 861, 864, 865, 866, 867, 868, 869, 870, 873, 876, 877, 878, 881, 884, 885]
/-- java/lang/Integer.bitCount(I)I -/
def xk_40 : List Instr := [.iload 0, .iload 0, .iconst (1), .iushr, .iconst (1431655765), .iand, .isub, .istore 0, .iload 0, .iconst (858993459), .iand, .iload 0, .iconst (2), .iushr, .iconst (858993459), .iand, .iadd, .istore 0, .iload 0, .iload 0, .iconst (4), .iushr, .iadd, .iconst (252645135), .iand, .istore 0, .iload 0, .iload 0, .iconst (8), .iushr, .iadd, .istore 0, .iload 0, .iload 0, .iconst (16), .iushr, .iadd, .istore 0, .iload 0, .iconst (63), .iand, .ireturn]
def xb_40 : List Nat := [0, 1, 2, 3, 4, 7, 8, 9, 10, 11, 14, 15, 16, 17, 18, 21, 22, 23, 24, 25, 26, 27, 28, 29, 32, 33, 34, 35, 36, 38, 39, 40, 41, 42, 43, 45, 46, 47, 48, 49, 51, 52]
/-- java/util/Arrays.fill([IIII)V -/
def xk_41 : List Instr := [.aload 0, .arraylength, .iload 1, .iload 2, .invokestatic 42, .iload 1, .istore 4, .iload 4, .iload 2, .if_icmp .ge 16, .aload 0, .iload 4, .iload 3, .iastore, .iinc 4 (1), .goto 7, .return_]
def xb_41 : List Nat := [0, 1, 2, 3, 4, 7, 8, 10, 12, 13, 16, 17, 19, 20, 21, 24, 27]
/-- java/util/Arrays.rangeCheck(III)V -/
def xk_42 : List Instr := [.iload 1, .iload 2, .if_icmp .le 21, .nop, .dup, .nop, .dup, .nop, .nop, .nop, .iload 1, .nop, .nop, .nop, .iload 2, .nop, .nop, .nop, .nop, .nop, .nop, .iload 1, .ifCond .ge 28, .nop, .dup, .iload 1, .nop, .nop, .iload 2, .iload 0, .if_icmp .le 36, .nop, .dup, .iload 2, .nop, .nop, .return_]
def xb_42 : List Nat := [0, 1, 2, 5, 8, 9, 12, 13, 16, 18, 21, 22, 25, 27, 30, 31, 34, 36, 39, 42, 45, 46, 47, 50, 53, 54, 55, 58, 59, 60, 61, 64, 67, 68, 69, 72, 73]
/-- BitSolver$Acts.answer(IIIII)I -/
def xk_43 : List Instr := [.iload 1, .invokestatic 84, .istore 5, .iload 0, .tableswitch 148 (0) (19) #[5, 11, 16, 20, 24, 28, 34, 40, 46, 54, 62, 72, 82, 93, 102, 112, 119, 126, 137, 143], .iload 2, .iconst (-1), .ixor, .iload 5, .iand, .ireturn, .iload 2, .ineg, .iload 5, .iand, .ireturn, .iload 2, .iload 3, .iand, .ireturn, .iload 2, .iload 3, .ior, .ireturn, .iload 2, .iload 3, .ixor, .ireturn, .iload 2, .iload 3, .iadd, .iload 5, .iand, .ireturn, .iload 2, .iload 3, .isub, .iload 5, .iand, .ireturn, .iload 2, .iload 3, .imul, .iload 5, .iand, .ireturn, .iload 3, .ifCond .ne 50, .iload 5, .goto 53, .iload 2, .iload 3, .idiv, .ireturn, .iload 3, .ifCond .ne 58, .iload 2, .goto 61, .iload 2, .iload 3, .irem, .ireturn, .iload 2, .iload 1, .invokestatic 46, .iload 3, .iload 1, .invokestatic 46, .invokestatic 48, .iload 5, .iand, .ireturn, .iload 2, .iload 1, .invokestatic 46, .iload 3, .iload 1, .invokestatic 46, .invokestatic 47, .iload 5, .iand, .ireturn, .iload 3, .iload 1, .if_icmp .lt 87, .iconst (0), .goto 92, .iload 2, .iload 3, .ishl, .iload 5, .iand, .ireturn, .iload 3, .iload 1, .if_icmp .lt 98, .iconst (0), .goto 101, .iload 2, .iload 3, .ishr, .ireturn, .iload 2, .iload 1, .invokestatic 46, .iload 3, .iload 1, .invokestatic 2002, .ishr, .iload 5, .iand, .ireturn, .iload 2, .iload 3, .if_icmp .ne 117, .iconst (1), .goto 118, .iconst (0), .ireturn, .iload 2, .iload 3, .if_icmp .ge 124, .iconst (1), .goto 125, .iconst (0), .ireturn, .iload 2, .iload 1, .invokestatic 46, .iload 3, .iload 1, .invokestatic 46, .if_icmp .ge 135, .iconst (1), .goto 136, .iconst (0), .ireturn, .iload 2, .iload 4, .ishl, .iload 3, .ior, .ireturn, .iload 2, .iload 3, .iload 1, .invokestatic 44, .ireturn, .iconst (0), .ireturn]
def xb_43 : List Nat := [0, 1, 4, 6, 7, 100, 101, 102, 103, 105, 106, 107, 108, 109, 111, 112, 113, 114, 115, 116, 117, 118, 119, 120, 121, 122, 123, 124, 125, 126, 127, 128, 130, 131, 132, 133, 134, 135, 137, 138, 139, 140, 141, 142, 144, 145, 146, 147, 150, 152, 155, 156, 157, 158, 159, 160, 163, 164, 167, 168, 169, 170, 171, 172, 173, 176, 177, 178, 181, 184, 186, 187, 188, 189, 190, 193, 194, 195, 198, 201, 203, 204, 205, 206, 207, 210, 211, 214, 215, 216, 217, 219, 220, 221, 222, 223, 226, 227, 230, 231, 232, 233, 234, 235, 236, 239, 240, 241, 244, 245, 247, 248, 249, 250, 251, 254, 255, 258, 259, 260, 261, 262, 265, 266, 269, 270, 271, 272, 273, 276, 277, 278, 281, 284, 285, 288, 289, 290, 291, 293, 294, 295, 296, 297, 298, 299, 300, 303, 304, 305]
/-- BitSolver$Acts.around(III)I -/
def xk_44 : List Instr := [.iload 2, .iconst (1), .if_icmp .ge 5, .iload 0, .ireturn, .iload 1, .iload 2, .irem, .istore 3, .iload 0, .iload 3, .ishl, .iload 0, .iload 2, .iload 3, .isub, .ishr, .ior, .iload 2, .invokestatic 84, .iand, .ireturn]
def xb_44 : List Nat := [0, 1, 2, 5, 6, 7, 8, 9, 10, 11, 12, 13, 14, 15, 16, 17, 18, 19, 20, 21, 24, 25]
/-- BitSolver$Acts.hasOne(I)Z -/
def xk_45 : List Instr := [.iload 0, .ifCond .eq 5, .iload 0, .iconst (1), .if_icmp .ne 7, .iconst (1), .goto 8, .iconst (0), .ireturn]
def xb_45 : List Nat := [0, 1, 4, 5, 6, 9, 10, 13, 14]
/-- BitSolver$Acts.signed(II)I -/
def xk_46 : List Instr := [.iload 0, .iconst (32), .iload 1, .isub, .ishl, .iconst (32), .iload 1, .isub, .ishr, .ireturn]
def xb_46 : List Nat := [0, 1, 3, 4, 5, 6, 8, 9, 10, 11]
/-- BitSolver$Acts.signedLeftOver(II)I -/
def xk_47 : List Instr := [.iload 1, .ifCond .ne 4, .iload 0, .goto 7, .iload 0, .iload 1, .irem, .ireturn]
def xb_47 : List Nat := [0, 1, 4, 5, 8, 9, 10, 11]
/-- BitSolver$Acts.signedQuotient(II)I -/
def xk_48 : List Instr := [.iload 1, .ifCond .ne 8, .iload 0, .ifCond .ge 6, .iconst (1), .goto 7, .iconst (-1), .ireturn, .iload 0, .iload 1, .idiv, .ireturn]
def xb_48 : List Nat := [0, 1, 4, 5, 8, 9, 12, 13, 14, 15, 16, 17]
/-- BitSolver$Acts.widthOf(III)I -/
def xk_49 : List Instr := [.iload 0, .ifCond .lt 5, .iload 0, .iconst (19), .if_icmp .le 7, .iconst (-2), .ireturn, .iload 0, .iconst (18), .if_icmp .ne 14, .iload 1, .iload 2, .iadd, .ireturn, .iload 1, .iload 2, .if_icmp .eq 19, .iconst (-2), .ireturn, .iload 0, .iconst (15), .if_icmp .lt 27, .iload 0, .iconst (17), .if_icmp .gt 27, .iconst (1), .goto 28, .iload 1, .ireturn]
def xb_49 : List Nat := [0, 1, 4, 5, 7, 10, 12, 13, 14, 16, 19, 20, 21, 22, 23, 24, 25, 28, 30, 31, 32, 34, 37, 38, 40, 43, 44, 47, 48]
/-- BitSolver$Diagram.<init>()V -/
def xk_50 : List Instr := [.aload 0, .invokespecial 1000, .aload 0, .new 3, .dup, .iconst (4096), .invokespecial 54, .putfield 64, .aload 0, .new 3, .dup, .iconst (2048), .invokespecial 54, .putfield 65, .aload 0, .new 3, .dup, .iconst (2048), .invokespecial 54, .putfield 66, .aload 0, .iconst (2), .putfield 67, .return_]
def xb_50 : List Nat := [0, 1, 4, 5, 8, 9, 12, 15, 18, 19, 22, 23, 26, 29, 32, 33, 36, 37, 40, 43, 46, 47, 48, 51]
/-- BitSolver$Diagram.begin(I)V -/
def xk_51 : List Instr := [.aload 0, .getfield 64, .iconst (1), .iload 1, .ishl, .invokevirtual 60, .aload 0, .getfield 65, .iconst (2048), .invokevirtual 60, .aload 0, .getfield 66, .iconst (2048), .invokevirtual 60, .aload 0, .iconst (2), .putfield 67, .return_]
def xb_51 : List Nat := [0, 1, 4, 5, 6, 7, 10, 11, 14, 17, 20, 21, 24, 27, 30, 31, 32, 35]
/-- BitSolver$Diagram.fold(I)I -/
def xk_52 : List Instr := [.iload 1, .iconst (1), .isub, .istore 2, .iload 2, .ifCond .lt 38, .iconst (0), .istore 3, .iload 3, .iconst (1), .iload 2, .ishl, .if_icmp .ge 36, .aload 0, .getfield 64, .iload 3, .aload 0, .iload 2, .aload 0, .getfield 64, .iconst (2), .iload 3, .imul, .invokevirtual 56, .aload 0, .getfield 64, .iconst (2), .iload 3, .imul, .iconst (1), .iadd, .invokevirtual 56, .invokevirtual 53, .invokevirtual 57, .iinc 3 (1), .goto 8, .iinc 2 (-1), .goto 4, .aload 0, .getfield 67, .iconst (2), .isub, .ireturn]
def xb_52 : List Nat := [0, 1, 2, 3, 4, 5, 8, 9, 10, 11, 12, 13, 14, 17, 18, 21, 22, 23, 24, 25, 28, 29, 30, 31, 34, 35, 38, 39, 40, 41, 42, 43, 46, 49, 52, 55, 58, 61, 64, 65, 68, 69, 70]
/-- BitSolver$Diagram.nameOf(III)I -/
def xk_53 : List Instr := [.iload 2, .iload 3, .if_icmp .ne 5, .iload 2, .ireturn, .iload 1, .iconst (10), .ishl, .iload 2, .ior, .iconst (10), .ishl, .iload 3, .ior, .istore 4, .iload 4, .iconst (-1640531535), .imul, .iconst (21), .iushr, .istore 5, .iconst (0), .istore 6, .iload 6, .iconst (2048), .if_icmp .ge 72, .aload 0, .getfield 65, .iload 5, .invokevirtual 56, .iload 4, .if_icmp .ne 37, .aload 0, .getfield 66, .iload 5, .invokevirtual 56, .ireturn, .aload 0, .getfield 65, .iload 5, .invokevirtual 56, .ifCond .ne 64, .aload 0, .getfield 65, .iload 5, .iload 4, .invokevirtual 57, .aload 0, .getfield 66, .iload 5, .aload 0, .getfield 67, .invokevirtual 57, .aload 0, .dup, .getfield 67, .iconst (1), .iadd, .putfield 67, .aload 0, .getfield 67, .iconst (1), .isub, .ireturn, .iload 5, .iconst (1), .iadd, .iconst (2047), .iand, .istore 5, .iinc 6 (1), .goto 23, .iload 2, .ireturn]
def xb_53 : List Nat := [0, 1, 2, 5, 6, 7, 8, 10, 11, 12, 13, 15, 16, 17, 18, 20, 22, 24, 25, 27, 28, 30, 31, 33, 35, 38, 41, 42, 45, 47, 50, 52, 55, 56, 59, 61, 64, 65, 66, 69, 71, 74, 77, 78, 81, 83, 85, 88, 89, 92, 94, 95, 98, 101, 102, 103, 106, 107, 108, 111, 112, 115, 116, 117, 118, 120, 121, 122, 125, 126, 128, 131, 134, 135]
/-- BitSolver$Row.<init>(I)V -/
def xk_54 : List Instr := [.aload 0, .invokespecial 1000, .aload 0, .iconst (0), .putfield 97, .aload 0, .iconst (0), .iload 1, .invokestatic 2001, .newarray .int, .putfield 96, .return_]
def xb_54 : List Nat := [0, 1, 4, 5, 6, 9, 10, 11, 12, 15, 17, 20]
/-- BitSolver$Row.add(I)V -/
def xk_55 : List Instr := [.aload 0, .getfield 97, .aload 0, .getfield 96, .arraylength, .if_icmp .ge 18, .aload 0, .getfield 96, .aload 0, .getfield 97, .iload 1, .iastore, .aload 0, .dup, .getfield 97, .iconst (1), .iadd, .putfield 97, .return_]
def xb_55 : List Nat := [0, 1, 4, 5, 8, 9, 12, 13, 16, 17, 20, 21, 22, 23, 24, 27, 28, 29, 32]
/-- BitSolver$Row.at(I)I -/
def xk_56 : List Instr := [.iload 1, .ifCond .lt 11, .iload 1, .aload 0, .getfield 97, .if_icmp .ge 11, .aload 0, .getfield 96, .iload 1, .iaload, .goto 12, .iconst (0), .ireturn]
def xb_56 : List Nat := [0, 1, 4, 5, 6, 9, 12, 13, 16, 17, 18, 21, 22]
/-- BitSolver$Row.put(II)V -/
def xk_57 : List Instr := [.iload 1, .ifCond .lt 11, .iload 1, .aload 0, .getfield 97, .if_icmp .ge 11, .aload 0, .getfield 96, .iload 1, .iload 2, .iastore, .return_]
def xb_57 : List Nat := [0, 1, 4, 5, 6, 9, 12, 13, 16, 17, 18, 19]
/-- BitSolver$Row.shorten(I)V -/
def xk_58 : List Instr := [.iload 1, .ifCond .lt 9, .iload 1, .aload 0, .getfield 97, .if_icmp .ge 9, .aload 0, .iload 1, .putfield 97, .return_]
def xb_58 : List Nat := [0, 1, 4, 5, 6, 9, 12, 13, 14, 17]
/-- BitSolver$Row.take(LBitSolver$Row;)V -/
def xk_59 : List Instr := [.aload 0, .aload 1, .getfield 97, .aload 0, .getfield 96, .arraylength, .invokestatic 2002, .putfield 97, .aload 1, .getfield 96, .iconst (0), .aload 0, .getfield 96, .iconst (0), .aload 0, .getfield 97, .invokestatic 2003, .return_]
def xb_59 : List Nat := [0, 1, 2, 5, 6, 9, 10, 13, 16, 17, 20, 21, 22, 25, 26, 27, 30, 33]
/-- BitSolver$Row.zeros(I)V -/
def xk_60 : List Instr := [.aload 0, .iconst (0), .iload 1, .aload 0, .getfield 96, .arraylength, .invokestatic 2002, .invokestatic 2001, .putfield 97, .aload 0, .getfield 96, .iconst (0), .aload 0, .getfield 97, .iconst (0), .invokestatic 41, .return_]
def xb_60 : List Nat := [0, 1, 2, 3, 4, 7, 8, 11, 14, 17, 18, 21, 22, 23, 26, 27, 30]
/-- BitSolver$Term.<init>()V -/
def xk_61 : List Instr := [.aload 0, .invokespecial 1000, .aload 0, .iconst (1), .putfield 128, .aload 0, .iconst (0), .putfield 129, .aload 0, .iconst (0), .putfield 130, .aload 0, .new 3, .dup, .iconst (4096), .invokespecial 54, .putfield 131, .return_]
def xb_61 : List Nat := [0, 1, 4, 5, 6, 9, 10, 11, 14, 15, 16, 19, 20, 23, 24, 27, 30, 33]
/-- BitSolver$Term.by(II)I -/
def xk_62 : List Instr := [.aload 0, .getfield 131, .iload 1, .iload 2, .aload 0, .getfield 129, .isub, .ishr, .invokevirtual 56, .ireturn]
def xb_62 : List Nat := [0, 1, 4, 5, 6, 7, 10, 11, 12, 15]
/-- BitSolver.<init>()V -/
def xk_63 : List Instr := [.aload 0, .invokespecial 1000, .aload 0, .iconst (24), .anewarray 2, .putfield 32, .aload 0, .iconst (0), .putfield 33, .aload 0, .iconst (0), .putfield 34, .aload 0, .new 3, .dup, .iconst (16), .invokespecial 54, .putfield 35, .aload 0, .new 3, .dup, .iconst (8), .invokespecial 54, .putfield 36, .aload 0, .new 3, .dup, .iconst (8), .invokespecial 54, .putfield 37, .aload 0, .new 3, .dup, .iconst (4096), .invokespecial 54, .putfield 38, .aload 0, .new 3, .dup, .iconst (4096), .invokespecial 54, .putfield 39, .aload 0, .iconst (1), .putfield 40, .aload 0, .new 3, .dup, .iconst (4096), .invokespecial 54, .putfield 41, .aload 0, .new 2, .dup, .invokespecial 50, .putfield 42, .iconst (0), .istore 1, .iload 1, .aload 0, .getfield 32, .arraylength, .if_icmp .ge 72, .aload 0, .getfield 32, .iload 1, .new 4, .dup, .invokespecial 61, .aastore, .iinc 1 (1), .goto 58, .return_]
def xb_63 : List Nat := [0, 1, 4, 5, 7, 10, 13, 14, 15, 18, 19, 20, 23, 24, 27, 28, 30, 33, 36, 37, 40, 41, 43, 46, 49, 50, 53, 54, 56, 59, 62, 63, 66, 67, 70, 73, 76, 77, 80, 81, 84, 87, 90, 91, 92, 95, 96, 99, 100, 103, 106, 109, 110, 113, 114, 117, 120, 121, 122, 123, 124, 127, 128, 131, 132, 135, 136, 139, 140, 143, 144, 147, 150]
/-- BitSolver.act(III)I -/
def xk_64 : List Instr := [.aload 0, .iload 2, .invokevirtual 95, .astore 4, .iload 1, .invokestatic 45, .ifCond .eq 9, .aload 4, .goto 12, .aload 0, .iload 3, .invokevirtual 95, .astore 5, .aload 4, .ifnull 17, .aload 5, .ifnonnull 19, .iconst (-2), .ireturn, .iload 1, .aload 4, .getfield 128, .aload 5, .getfield 128, .invokestatic 49, .istore 6, .iload 6, .invokestatic 83, .ifCond .ne 31, .iconst (-2), .ireturn, .aload 4, .getfield 129, .aload 5, .getfield 129, .invokestatic 2001, .istore 7, .aload 0, .iload 6, .iload 7, .invokevirtual 87, .astore 8, .aload 8, .ifnonnull 46, .iconst (-3), .ireturn, .iconst (0), .istore 9, .iload 9, .iconst (1), .iload 7, .ishl, .if_icmp .ge 72, .aload 8, .getfield 131, .iload 1, .aload 4, .getfield 128, .aload 4, .iload 9, .iload 7, .invokevirtual 62, .aload 5, .iload 9, .iload 7, .invokevirtual 62, .aload 5, .getfield 128, .invokestatic 43, .invokevirtual 55, .iinc 9 (1), .goto 48, .aload 0, .getfield 33, .iconst (1), .isub, .ireturn]
def xb_64 : List Nat := [0, 1, 2, 5, 7, 8, 11, 14, 16, 19, 20, 21, 24, 26, 28, 31, 33, 36, 38, 39, 40, 42, 45, 47, 50, 53, 55, 57, 60, 63, 65, 66, 68, 71, 73, 76, 79, 81, 82, 84, 86, 89, 91, 93, 96, 98, 99, 100, 102, 104, 105, 107, 108, 111, 113, 116, 117, 119, 122, 124, 126, 128, 131, 133, 135, 137, 140, 142, 145, 148, 151, 154, 157, 158, 161, 162, 163]
/-- BitSolver.assume(I)I -/
def xk_65 : List Instr := [.aload 0, .iload 1, .invokevirtual 82, .ifCond .ne 6, .iconst (-2), .ireturn, .aload 0, .getfield 36, .getfield 97, .iconst (8), .if_icmp .lt 13, .iconst (-3), .ireturn, .aload 0, .getfield 36, .iload 1, .invokevirtual 55, .aload 0, .getfield 40, .ifCond .ne 25, .aload 0, .aload 0, .getfield 39, .iload 1, .invokevirtual 93, .aload 0, .getfield 36, .getfield 97, .ireturn]
def xb_65 : List Nat := [0, 1, 2, 5, 8, 10, 11, 12, 15, 18, 20, 23, 25, 26, 27, 30, 31, 34, 35, 38, 41, 42, 43, 46, 47, 50, 51, 54, 57]
/-- BitSolver.bits(I)I -/
def xk_66 : List Instr := [.aload 0, .iload 1, .invokevirtual 95, .astore 2, .aload 2, .ifnonnull 8, .iconst (-2), .goto 10, .aload 2, .getfield 128, .ireturn]
def xb_66 : List Nat := [0, 1, 2, 5, 6, 7, 10, 12, 15, 16, 19]
/-- BitSolver.bound(IZ)I -/
def xk_67 : List Instr := [.aload 0, .iload 1, .invokevirtual 95, .astore 3, .aload 3, .ifnonnull 8, .iconst (-2), .ireturn, .aload 0, .invokevirtual 80, .astore 4, .aload 4, .getfield 97, .ifCond .ne 16, .iconst (-1), .ireturn, .aload 3, .aload 4, .iconst (0), .invokevirtual 56, .aload 0, .getfield 34, .invokevirtual 62, .istore 5, .iconst (1), .istore 6, .iload 6, .aload 4, .getfield 97, .if_icmp .ge 50, .aload 3, .aload 4, .iload 6, .invokevirtual 56, .aload 0, .getfield 34, .invokevirtual 62, .istore 7, .iload 2, .ifCond .eq 44, .iload 5, .iload 7, .invokestatic 2001, .goto 47, .iload 5, .iload 7, .invokestatic 2002, .istore 5, .iinc 6 (1), .goto 26, .iload 5, .ireturn]
def xb_67 : List Nat := [0, 1, 2, 5, 6, 7, 10, 12, 13, 14, 17, 19, 21, 24, 27, 28, 29, 30, 32, 33, 36, 37, 40, 43, 45, 46, 48, 50, 52, 55, 58, 59, 61, 63, 66, 67, 70, 73, 75, 76, 79, 81, 83, 86, 89, 91, 93, 96, 98, 101, 104, 106]
/-- BitSolver.certain(I)I -/
def xk_68 : List Instr := [.aload 0, .iload 1, .invokevirtual 95, .astore 2, .aload 2, .ifnonnull 8, .iconst (-2), .ireturn, .aload 0, .invokevirtual 80, .astore 3, .aload 3, .getfield 97, .ifCond .ne 16, .iconst (-1), .ireturn, .aload 2, .aload 3, .iconst (0), .invokevirtual 56, .aload 0, .getfield 34, .invokevirtual 62, .istore 4, .iconst (0), .istore 5, .iconst (1), .istore 6, .iload 6, .aload 3, .getfield 97, .if_icmp .ge 46, .iload 5, .iload 4, .aload 2, .aload 3, .iload 6, .invokevirtual 56, .aload 0, .getfield 34, .invokevirtual 62, .ixor, .ior, .istore 5, .iinc 6 (1), .goto 28, .iload 5, .iconst (-1), .ixor, .aload 2, .getfield 128, .invokestatic 84, .iand, .ireturn]
def xb_68 : List Nat := [0, 1, 2, 5, 6, 7, 10, 12, 13, 14, 17, 18, 19, 22, 25, 26, 27, 28, 29, 30, 33, 34, 37, 40, 42, 43, 45, 46, 48, 50, 51, 54, 57, 59, 61, 62, 63, 65, 68, 69, 72, 75, 76, 77, 79, 82, 85, 87, 88, 89, 90, 93, 96, 97]
/-- BitSolver.choose(III)I -/
def xk_69 : List Instr := [.aload 0, .iload 1, .invokevirtual 95, .astore 4, .aload 0, .iload 2, .invokevirtual 95, .astore 5, .aload 0, .iload 3, .invokevirtual 95, .astore 6, .aload 4, .ifnull 18, .aload 5, .ifnull 18, .aload 6, .ifnonnull 20, .iconst (-2), .ireturn, .aload 4, .getfield 128, .iconst (1), .if_icmp .ne 29, .aload 5, .getfield 128, .aload 6, .getfield 128, .if_icmp .eq 31, .iconst (-2), .ireturn, .aload 4, .getfield 129, .aload 5, .getfield 129, .aload 6, .getfield 129, .invokestatic 2001, .invokestatic 2001, .istore 7, .aload 0, .aload 5, .getfield 128, .iload 7, .invokevirtual 87, .astore 8, .aload 8, .ifnonnull 50, .iconst (-3), .ireturn, .iconst (0), .istore 9, .iload 9, .iconst (1), .iload 7, .ishl, .if_icmp .ge 77, .aload 8, .getfield 131, .aload 4, .iload 9, .iload 7, .invokevirtual 62, .iconst (1), .if_icmp .ne 70, .aload 5, .iload 9, .iload 7, .invokevirtual 62, .goto 74, .aload 6, .iload 9, .iload 7, .invokevirtual 62, .invokevirtual 55, .iinc 9 (1), .goto 52, .aload 0, .getfield 33, .iconst (1), .isub, .ireturn]
def xb_69 : List Nat := [0, 1, 2, 5, 7, 8, 9, 12, 14, 15, 16, 19, 21, 23, 26, 28, 31, 33, 36, 38, 39, 41, 44, 45, 48, 50, 53, 55, 58, 61, 63, 64, 66, 69, 71, 74, 76, 79, 82, 85, 87, 88, 90, 93, 95, 98, 100, 102, 105, 107, 108, 109, 111, 113, 114, 116, 117, 120, 122, 125, 127, 129, 131, 134, 135, 138, 140, 142, 144, 147, 150, 152, 154, 156, 159, 162, 165, 168, 169, 172, 173, 174]
/-- BitSolver.claim(I)I -/
def xk_70 : List Instr := [.aload 0, .iload 1, .invokevirtual 82, .ifCond .ne 6, .iconst (-2), .ireturn, .aload 0, .getfield 35, .getfield 97, .iconst (16), .if_icmp .lt 13, .iconst (-3), .ireturn, .aload 0, .getfield 35, .iload 1, .invokevirtual 55, .aload 0, .getfield 40, .ifCond .ne 30, .aload 0, .aload 0, .getfield 38, .iload 1, .invokevirtual 93, .aload 0, .aload 0, .getfield 39, .iload 1, .invokevirtual 93, .aload 0, .getfield 35, .getfield 97, .ireturn]
def xb_70 : List Nat := [0, 1, 2, 5, 8, 10, 11, 12, 15, 18, 20, 23, 25, 26, 27, 30, 31, 34, 35, 38, 41, 42, 43, 46, 47, 50, 51, 52, 55, 56, 59, 60, 63, 66]
/-- BitSolver.clear()I -/
def xk_71 : List Instr := [.aload 0, .getfield 33, .istore 1, .aload 0, .iconst (0), .putfield 33, .aload 0, .iconst (0), .putfield 34, .aload 0, .getfield 35, .iconst (0), .invokevirtual 58, .aload 0, .getfield 36, .iconst (0), .invokevirtual 58, .aload 0, .getfield 37, .iconst (0), .invokevirtual 58, .aload 0, .iconst (1), .putfield 40, .iload 1, .ireturn]
def xb_71 : List Nat := [0, 1, 4, 5, 6, 7, 10, 11, 12, 15, 16, 19, 20, 23, 24, 27, 28, 31, 32, 35, 36, 39, 40, 41, 44, 45]
/-- BitSolver.constant(II)I -/
def xk_72 : List Instr := [.iload 1, .invokestatic 83, .ifCond .eq 7, .iload 2, .iload 1, .invokestatic 79, .ifCond .ne 9, .iconst (-2), .ireturn, .aload 0, .iload 1, .iconst (0), .invokevirtual 87, .astore 3, .aload 3, .ifnonnull 18, .iconst (-3), .ireturn, .aload 3, .getfield 131, .iload 2, .invokevirtual 55, .aload 0, .getfield 33, .iconst (1), .isub, .ireturn]
def xb_72 : List Nat := [0, 1, 4, 7, 8, 9, 12, 15, 17, 18, 19, 20, 21, 24, 25, 26, 29, 31, 32, 33, 36, 37, 40, 41, 44, 45, 46]
/-- BitSolver.core(I)I -/
def xk_73 : List Instr := [.iload 1, .ifCond .lt 6, .aload 0, .invokevirtual 80, .getfield 97, .ifCond .le 8, .iconst (-1), .ireturn, .aload 0, .invokevirtual 74, .istore 2, .iconst (0), .istore 3, .iconst (0), .istore 4, .iload 4, .aload 0, .getfield 36, .getfield 97, .if_icmp .ge 38, .iload 2, .iload 4, .ishr, .iconst (1), .iand, .iconst (1), .if_icmp .ne 36, .iload 3, .iload 1, .if_icmp .ne 35, .aload 0, .getfield 36, .iload 4, .invokevirtual 56, .ireturn, .iinc 3 (1), .iinc 4 (1), .goto 15, .iconst (-1), .ireturn]
def xb_73 : List Nat := [0, 1, 4, 5, 8, 11, 14, 15, 16, 17, 20, 21, 22, 23, 24, 26, 28, 29, 32, 35, 38, 39, 41, 42, 43, 44, 45, 48, 49, 50, 53, 54, 57, 59, 62, 63, 66, 69, 72, 73]
/-- BitSolver.coreSet()I -/
def xk_74 : List Instr := [.aload 0, .invokevirtual 85, .aload 0, .getfield 36, .getfield 97, .invokestatic 84, .istore 1, .iconst (0), .istore 2, .iload 2, .aload 0, .getfield 36, .getfield 97, .if_icmp .ge 30, .iload 1, .iconst (1), .iload 2, .ishl, .iconst (-1), .ixor, .iand, .istore 3, .aload 0, .iload 3, .invokevirtual 90, .ifCond .eq 28, .iload 3, .istore 1, .iinc 2 (1), .goto 9, .iload 1, .ireturn]
def xb_74 : List Nat := [0, 1, 4, 5, 8, 11, 14, 15, 16, 17, 18, 19, 22, 25, 28, 29, 30, 31, 32, 33, 34, 35, 36, 37, 38, 41, 44, 45, 46, 49, 52, 53]
/-- BitSolver.cores()I -/
def xk_75 : List Instr := [.aload 0, .invokevirtual 80, .getfield 97, .ifCond .le 6, .iconst (-1), .ireturn, .aload 0, .invokevirtual 74, .invokestatic 40, .ireturn]
def xb_75 : List Nat := [0, 1, 4, 7, 10, 11, 12, 13, 16, 19]
/-- BitSolver.count(I)I -/
def xk_76 : List Instr := [.iload 1, .tableswitch 20 (0) (4) #[2, 5, 8, 12, 16], .aload 0, .getfield 33, .ireturn, .aload 0, .getfield 34, .ireturn, .aload 0, .getfield 35, .getfield 97, .ireturn, .aload 0, .getfield 36, .getfield 97, .ireturn, .aload 0, .getfield 37, .getfield 97, .ireturn, .iconst (-2), .ireturn]
def xb_76 : List Nat := [0, 1, 36, 37, 40, 41, 42, 45, 46, 47, 50, 53, 54, 55, 58, 61, 62, 63, 66, 69, 70, 72]
/-- BitSolver.cut(III)I -/
def xk_77 : List Instr := [.aload 0, .iload 1, .invokevirtual 95, .astore 4, .aload 4, .ifnull 17, .iload 3, .invokestatic 83, .ifCond .eq 17, .iload 2, .ifCond .lt 17, .iload 2, .aload 4, .getfield 128, .iload 3, .isub, .if_icmp .le 19, .iconst (-2), .ireturn, .aload 0, .iload 3, .aload 4, .getfield 129, .invokevirtual 87, .astore 5, .aload 5, .ifnonnull 29, .iconst (-3), .ireturn, .iconst (0), .istore 6, .iload 6, .iconst (1), .aload 4, .getfield 129, .ishl, .if_icmp .ge 51, .aload 5, .getfield 131, .aload 4, .getfield 131, .iload 6, .invokevirtual 56, .iload 2, .ishr, .iload 3, .invokestatic 84, .iand, .invokevirtual 55, .iinc 6 (1), .goto 31, .aload 0, .getfield 33, .iconst (1), .isub, .ireturn]
def xb_77 : List Nat := [0, 1, 2, 5, 7, 9, 12, 13, 16, 19, 20, 23, 24, 26, 29, 30, 31, 34, 36, 37, 38, 39, 41, 44, 47, 49, 51, 54, 56, 57, 58, 60, 62, 63, 65, 68, 69, 72, 74, 77, 79, 82, 84, 87, 88, 89, 90, 93, 94, 97, 100, 103, 104, 107, 108, 109]
/-- BitSolver.failing(I)I -/
def xk_78 : List Instr := [.iconst (0), .istore 2, .iconst (0), .istore 3, .iload 3, .aload 0, .getfield 36, .getfield 97, .if_icmp .ge 32, .aload 0, .aload 0, .getfield 36, .iload 3, .invokevirtual 56, .invokevirtual 95, .astore 4, .aload 4, .ifnull 30, .aload 4, .iload 1, .aload 0, .getfield 34, .invokevirtual 62, .ifCond .ne 30, .iload 2, .iconst (1), .iload 3, .ishl, .ior, .istore 2, .iinc 3 (1), .goto 4, .iload 2, .ireturn]
def xb_78 : List Nat := [0, 1, 2, 3, 4, 5, 6, 9, 12, 15, 16, 17, 20, 21, 24, 27, 29, 31, 34, 36, 37, 38, 41, 44, 47, 48, 49, 50, 51, 52, 53, 56, 59, 60]
/-- BitSolver.fits(II)Z -/
def xk_79 : List Instr := [.iload 0, .ifCond .lt 8, .iload 0, .iload 1, .invokestatic 84, .if_icmp .gt 8, .iconst (1), .goto 9, .iconst (0), .ireturn]
def xb_79 : List Nat := [0, 1, 4, 5, 6, 9, 12, 13, 16, 17]
/-- BitSolver.found()LBitSolver$Row; -/
def xk_80 : List Instr := [.aload 0, .getfield 40, .ifCond .eq 63, .aload 0, .getfield 38, .iconst (0), .invokevirtual 58, .iconst (0), .istore 1, .iload 1, .iconst (1), .aload 0, .getfield 34, .ishl, .if_icmp .ge 21, .aload 0, .getfield 38, .iload 1, .invokevirtual 55, .iinc 1 (1), .goto 9, .iconst (0), .istore 1, .iload 1, .aload 0, .getfield 35, .getfield 97, .if_icmp .ge 38, .aload 0, .aload 0, .getfield 38, .aload 0, .getfield 35, .iload 1, .invokevirtual 56, .invokevirtual 93, .iinc 1 (1), .goto 23, .aload 0, .getfield 39, .aload 0, .getfield 38, .invokevirtual 59, .iconst (0), .istore 1, .iload 1, .aload 0, .getfield 36, .getfield 97, .if_icmp .ge 60, .aload 0, .aload 0, .getfield 39, .aload 0, .getfield 36, .iload 1, .invokevirtual 56, .invokevirtual 93, .iinc 1 (1), .goto 45, .aload 0, .iconst (0), .putfield 40, .aload 0, .getfield 39, .areturn]
def xb_80 : List Nat := [0, 1, 4, 7, 8, 11, 12, 15, 16, 17, 18, 19, 20, 23, 24, 27, 28, 31, 32, 35, 38, 41, 42, 43, 44, 45, 48, 51, 54, 55, 56, 59, 60, 63, 64, 67, 70, 73, 76, 77, 80, 81, 84, 87, 88, 89, 90, 91, 94, 97, 100, 101, 102, 105, 106, 109, 110, 113, 116, 119, 122, 123, 124, 127, 128, 131]
/-- BitSolver.great()I -/
def xk_81 : List Instr := [.aload 0, .invokevirtual 80, .astore 1, .aload 0, .getfield 42, .aload 0, .getfield 34, .invokevirtual 51, .iconst (0), .istore 2, .iload 2, .aload 1, .getfield 97, .if_icmp .ge 24, .aload 0, .getfield 42, .getfield 64, .aload 1, .iload 2, .invokevirtual 56, .iconst (1), .invokevirtual 57, .iinc 2 (1), .goto 10, .aload 0, .getfield 42, .aload 0, .getfield 34, .invokevirtual 52, .ireturn]
def xb_81 : List Nat := [0, 1, 4, 5, 6, 9, 10, 13, 16, 17, 18, 19, 20, 23, 26, 27, 30, 33, 34, 35, 38, 39, 42, 45, 48, 49, 52, 53, 56, 59]
/-- BitSolver.isOneBit(I)Z -/
def xk_82 : List Instr := [.aload 0, .iload 1, .invokevirtual 95, .astore 2, .aload 2, .ifnull 12, .aload 2, .getfield 128, .iconst (1), .if_icmp .ne 12, .iconst (1), .goto 13, .iconst (0), .ireturn]
def xb_82 : List Nat := [0, 1, 2, 5, 6, 7, 10, 11, 14, 15, 18, 19, 22, 23]
/-- BitSolver.isWidth(I)Z -/
def xk_83 : List Instr := [.iload 0, .iconst (1), .if_icmp .lt 8, .iload 0, .iconst (12), .if_icmp .gt 8, .iconst (1), .goto 9, .iconst (0), .ireturn]
def xb_83 : List Nat := [0, 1, 2, 5, 6, 8, 11, 12, 15, 16]
/-- BitSolver.lowest(I)I -/
def xk_84 : List Instr := [.iconst (1), .iload 0, .ishl, .iconst (1), .isub, .ireturn]
def xb_84 : List Nat := [0, 1, 2, 3, 4, 5]
/-- BitSolver.markFailings()V -/
def xk_85 : List Instr := [.aload 0, .getfield 41, .iconst (1), .aload 0, .getfield 36, .getfield 97, .ishl, .invokevirtual 60, .iconst (0), .istore 1, .iload 1, .aload 0, .getfield 38, .getfield 97, .if_icmp .ge 27, .aload 0, .getfield 41, .aload 0, .aload 0, .getfield 38, .iload 1, .invokevirtual 56, .invokevirtual 78, .iconst (1), .invokevirtual 57, .iinc 1 (1), .goto 10, .return_]
def xb_85 : List Nat := [0, 1, 4, 5, 6, 9, 12, 13, 16, 17, 18, 19, 20, 23, 26, 29, 30, 33, 34, 35, 38, 39, 42, 45, 46, 49, 52, 55]
/-- BitSolver.models()I -/
def xk_86 : List Instr := [.aload 0, .invokevirtual 80, .getfield 97, .ireturn]
def xb_86 : List Nat := [0, 1, 4, 7]
/-- BitSolver.nextTerm(II)LBitSolver$Term; -/
def xk_87 : List Instr := [.aload 0, .getfield 33, .aload 0, .getfield 32, .arraylength, .if_icmp .lt 8, .aconst_null, .areturn, .aload 0, .getfield 32, .aload 0, .getfield 33, .aaload, .astore 3, .aload 3, .ifnonnull 18, .aconst_null, .areturn, .aload 0, .dup, .getfield 33, .iconst (1), .iadd, .putfield 33, .aload 3, .iload 1, .putfield 128, .aload 3, .iload 2, .putfield 129, .aload 3, .iconst (0), .putfield 130, .aload 3, .getfield 131, .iconst (0), .invokevirtual 58, .aload 3, .areturn]
def xb_87 : List Nat := [0, 1, 4, 5, 8, 9, 12, 13, 14, 15, 18, 19, 22, 23, 24, 25, 28, 29, 30, 31, 32, 35, 36, 37, 40, 41, 42, 45, 46, 47, 50, 51, 52, 55, 56, 59, 60, 63, 64]
/-- BitSolver.pop()I -/
def xk_88 : List Instr := [.aload 0, .getfield 37, .getfield 97, .ifCond .ne 6, .iconst (-2), .ireturn, .aload 0, .getfield 37, .aload 0, .getfield 37, .getfield 97, .iconst (1), .isub, .invokevirtual 56, .istore 1, .aload 0, .getfield 35, .getfield 97, .iload 1, .isub, .istore 2, .aload 0, .getfield 37, .aload 0, .getfield 37, .getfield 97, .iconst (1), .isub, .invokevirtual 58, .aload 0, .getfield 35, .iload 1, .invokevirtual 58, .iload 2, .ifCond .le 38, .aload 0, .iconst (1), .putfield 40, .iload 2, .ireturn]
def xb_88 : List Nat := [0, 1, 4, 7, 10, 12, 13, 14, 17, 18, 21, 24, 25, 26, 29, 30, 31, 34, 37, 38, 39, 40, 41, 44, 45, 48, 51, 52, 53, 56, 57, 60, 61, 64, 65, 68, 69, 70, 73, 74]
/-- BitSolver.push()I -/
def xk_89 : List Instr := [.aload 0, .getfield 37, .getfield 97, .iconst (8), .if_icmp .lt 7, .iconst (-3), .ireturn, .aload 0, .getfield 37, .aload 0, .getfield 35, .getfield 97, .invokevirtual 55, .aload 0, .getfield 37, .getfield 97, .ireturn]
def xb_89 : List Nat := [0, 1, 4, 7, 9, 12, 14, 15, 16, 19, 20, 23, 26, 29, 30, 33, 36]
/-- BitSolver.refutes(I)Z -/
def xk_90 : List Instr := [.iconst (0), .istore 2, .iload 2, .aload 0, .getfield 41, .getfield 97, .if_icmp .ge 21, .aload 0, .getfield 41, .iload 2, .invokevirtual 56, .iconst (1), .if_icmp .ne 19, .iload 2, .iload 1, .iand, .ifCond .ne 19, .iconst (0), .ireturn, .iinc 2 (1), .goto 2, .iconst (1), .ireturn]
def xb_90 : List Nat := [0, 1, 2, 3, 4, 7, 10, 13, 14, 17, 18, 21, 22, 25, 26, 27, 28, 31, 32, 33, 36, 39, 40]
/-- BitSolver.release()I -/
def xk_91 : List Instr := [.aload 0, .getfield 36, .getfield 97, .istore 1, .aload 0, .getfield 36, .iconst (0), .invokevirtual 58, .aload 0, .getfield 40, .ifCond .ne 16, .aload 0, .getfield 39, .aload 0, .getfield 38, .invokevirtual 59, .iload 1, .ireturn]
def xb_91 : List Nat := [0, 1, 4, 7, 8, 9, 12, 13, 16, 17, 20, 23, 24, 27, 28, 31, 34, 35]
/-- BitSolver.same(II)I -/
def xk_92 : List Instr := [.aload 0, .iload 1, .invokevirtual 95, .astore 3, .aload 0, .iload 2, .invokevirtual 95, .astore 4, .aload 3, .ifnull 17, .aload 4, .ifnull 17, .aload 3, .getfield 128, .aload 4, .getfield 128, .if_icmp .eq 19, .iconst (-2), .ireturn, .aload 0, .invokevirtual 80, .astore 5, .iconst (0), .istore 6, .iload 6, .aload 5, .getfield 97, .if_icmp .ge 47, .aload 5, .iload 6, .invokevirtual 56, .istore 7, .aload 3, .iload 7, .aload 0, .getfield 34, .invokevirtual 62, .aload 4, .iload 7, .aload 0, .getfield 34, .invokevirtual 62, .if_icmp .eq 45, .iconst (0), .ireturn, .iinc 6 (1), .goto 24, .iconst (1), .ireturn]
def xb_92 : List Nat := [0, 1, 2, 5, 6, 7, 8, 11, 13, 14, 17, 19, 22, 23, 26, 28, 31, 34, 36, 37, 38, 41, 43, 44, 46, 48, 50, 53, 56, 58, 60, 63, 65, 66, 68, 69, 72, 75, 77, 79, 80, 83, 86, 89, 90, 91, 94, 97, 98]
/-- BitSolver.sift(LBitSolver$Row;I)V -/
def xk_93 : List Instr := [.aload 0, .iload 2, .invokevirtual 95, .astore 3, .aload 3, .ifnonnull 7, .return_, .iconst (0), .istore 4, .iconst (0), .istore 5, .iload 5, .aload 1, .getfield 97, .if_icmp .ge 33, .aload 1, .iload 5, .invokevirtual 56, .istore 6, .aload 3, .iload 6, .aload 0, .getfield 34, .invokevirtual 62, .iconst (1), .if_icmp .ne 31, .aload 1, .iload 4, .iload 6, .invokevirtual 57, .iinc 4 (1), .iinc 5 (1), .goto 11, .aload 1, .iload 4, .invokevirtual 58, .return_]
def xb_93 : List Nat := [0, 1, 2, 5, 6, 7, 10, 11, 12, 14, 15, 17, 19, 20, 23, 26, 27, 29, 32, 34, 35, 37, 38, 41, 44, 45, 48, 49, 51, 53, 56, 59, 62, 65, 66, 68, 71]
/-- BitSolver.size(II)I -/
def xk_94 : List Instr := [.aload 0, .iload 1, .invokevirtual 95, .astore 3, .aload 3, .ifnull 12, .iload 2, .ifCond .lt 12, .iload 2, .aload 3, .getfield 128, .if_icmp .lt 14, .iconst (-2), .ireturn, .aload 0, .getfield 42, .aload 3, .getfield 129, .invokevirtual 51, .iconst (0), .istore 4, .iload 4, .iconst (1), .aload 3, .getfield 129, .ishl, .if_icmp .ge 42, .aload 0, .getfield 42, .getfield 64, .iload 4, .aload 3, .getfield 131, .iload 4, .invokevirtual 56, .iload 2, .ishr, .iconst (1), .iand, .invokevirtual 57, .iinc 4 (1), .goto 21, .aload 0, .getfield 42, .aload 3, .getfield 129, .invokevirtual 52, .ireturn]
def xb_94 : List Nat := [0, 1, 2, 5, 6, 7, 10, 11, 14, 15, 16, 19, 22, 24, 25, 26, 29, 30, 33, 36, 37, 39, 41, 42, 43, 46, 47, 50, 51, 54, 57, 59, 60, 63, 65, 68, 69, 70, 71, 72, 75, 78, 81, 82, 85, 86, 89, 92]
/-- BitSolver.termOf(I)LBitSolver$Term; -/
def xk_95 : List Instr := [.iload 1, .ifCond .lt 16, .iload 1, .aload 0, .getfield 33, .if_icmp .ge 16, .iload 1, .aload 0, .getfield 32, .arraylength, .if_icmp .ge 16, .aload 0, .getfield 32, .iload 1, .aaload, .goto 17, .aconst_null, .areturn]
def xb_95 : List Nat := [0, 1, 4, 5, 6, 9, 12, 13, 14, 17, 18, 21, 22, 25, 26, 27, 30, 31]
/-- BitSolver.value(II)I -/
def xk_96 : List Instr := [.aload 0, .iload 1, .invokevirtual 95, .astore 3, .aload 3, .ifnonnull 8, .iconst (-2), .ireturn, .aload 0, .invokevirtual 80, .astore 4, .iload 2, .ifCond .lt 17, .iload 2, .aload 4, .getfield 97, .if_icmp .lt 19, .iconst (-1), .ireturn, .aload 3, .aload 4, .iload 2, .invokevirtual 56, .aload 0, .getfield 34, .invokevirtual 62, .ireturn]
def xb_96 : List Nat := [0, 1, 2, 5, 6, 7, 10, 12, 13, 14, 17, 19, 20, 23, 24, 26, 29, 32, 33, 34, 35, 37, 38, 41, 42, 45, 48]
/-- BitSolver.values(I)I -/
def xk_97 : List Instr := [.aload 0, .iload 1, .invokevirtual 95, .astore 2, .aload 2, .ifnonnull 8, .iconst (-2), .ireturn, .aload 0, .invokevirtual 80, .astore 3, .aload 0, .getfield 41, .iconst (1), .aload 2, .getfield 128, .ishl, .invokevirtual 60, .iconst (0), .istore 4, .iconst (0), .istore 5, .iload 5, .aload 3, .getfield 97, .if_icmp .ge 47, .aload 2, .aload 3, .iload 5, .invokevirtual 56, .aload 0, .getfield 34, .invokevirtual 62, .istore 6, .aload 0, .getfield 41, .iload 6, .invokevirtual 56, .ifCond .ne 45, .aload 0, .getfield 41, .iload 6, .iconst (1), .invokevirtual 57, .iinc 4 (1), .iinc 5 (1), .goto 22, .iload 4, .ireturn]
def xb_97 : List Nat := [0, 1, 2, 5, 6, 7, 10, 12, 13, 14, 17, 18, 19, 22, 23, 24, 27, 28, 31, 32, 34, 35, 37, 39, 40, 43, 46, 47, 48, 50, 53, 54, 57, 60, 62, 63, 66, 68, 71, 74, 75, 78, 80, 81, 84, 87, 90, 93, 95]
/-- BitSolver.where(II)I -/
def xk_98 : List Instr := [.aload 0, .iload 1, .invokevirtual 95, .astore 3, .aload 3, .ifnull 11, .iload 2, .aload 3, .getfield 128, .invokestatic 79, .ifCond .ne 13, .iconst (-2), .ireturn, .aload 0, .invokevirtual 80, .astore 4, .iconst (0), .istore 5, .iload 5, .aload 4, .getfield 97, .if_icmp .ge 35, .aload 3, .aload 4, .iload 5, .invokevirtual 56, .aload 0, .getfield 34, .invokevirtual 62, .iload 2, .if_icmp .ne 33, .iload 5, .ireturn, .iinc 5 (1), .goto 18, .iconst (-1), .ireturn]
def xb_98 : List Nat := [0, 1, 2, 5, 6, 7, 10, 11, 12, 15, 18, 21, 23, 24, 25, 28, 30, 31, 33, 35, 37, 40, 43, 44, 46, 48, 51, 52, 55, 58, 59, 62, 64, 65, 68, 71, 72]
/-- BitSolver.widen(IIZ)I -/
def xk_99 : List Instr := [.aload 0, .iload 1, .invokevirtual 95, .astore 4, .aload 4, .ifnull 13, .iload 2, .invokestatic 83, .ifCond .eq 13, .iload 2, .aload 4, .getfield 128, .if_icmp .ge 15, .iconst (-2), .ireturn, .aload 0, .iload 2, .aload 4, .getfield 129, .invokevirtual 87, .astore 5, .aload 5, .ifnonnull 25, .iconst (-3), .ireturn, .iconst (0), .istore 6, .iload 6, .iconst (1), .aload 4, .getfield 129, .ishl, .if_icmp .ge 54, .aload 4, .getfield 131, .iload 6, .invokevirtual 56, .istore 7, .aload 5, .getfield 131, .iload 3, .ifCond .eq 50, .iload 7, .aload 4, .getfield 128, .invokestatic 46, .iload 2, .invokestatic 84, .iand, .goto 51, .iload 7, .invokevirtual 55, .iinc 6 (1), .goto 27, .aload 0, .getfield 33, .iconst (1), .isub, .ireturn]
def xb_99 : List Nat := [0, 1, 2, 5, 7, 9, 12, 13, 16, 19, 20, 22, 25, 28, 30, 31, 32, 33, 35, 38, 41, 43, 45, 48, 50, 51, 52, 54, 56, 57, 59, 62, 63, 66, 68, 71, 73, 76, 78, 80, 83, 84, 87, 89, 91, 94, 97, 98, 101, 102, 105, 107, 110, 113, 116, 117, 120, 121, 122]
/-- BitSolver.without(IZ)I -/
def xk_100 : List Instr := [.aload 0, .iload 1, .invokevirtual 95, .astore 3, .aload 3, .ifnull 9, .aload 3, .getfield 130, .ifCond .ne 11, .iconst (-2), .ireturn, .aload 0, .invokevirtual 80, .astore 4, .aload 0, .getfield 34, .aload 3, .getfield 129, .isub, .istore 5, .iconst (1), .aload 0, .getfield 34, .aload 3, .getfield 128, .isub, .ishl, .istore 6, .aload 0, .getfield 41, .iload 6, .invokevirtual 60, .iconst (0), .istore 7, .iload 7, .aload 4, .getfield 97, .if_icmp .ge 68, .aload 4, .iload 7, .invokevirtual 56, .istore 8, .iload 8, .iload 5, .aload 3, .getfield 128, .iadd, .ishr, .iload 5, .ishl, .iload 8, .iload 5, .invokestatic 84, .iand, .ior, .istore 9, .aload 0, .getfield 41, .iload 9, .aload 0, .getfield 41, .iload 9, .invokevirtual 56, .iconst (1), .iadd, .invokevirtual 57, .iinc 7 (1), .goto 34, .iload 2, .ifCond .eq 75, .iconst (1), .aload 3, .getfield 128, .ishl, .goto 76, .iconst (1), .istore 7, .iconst (0), .istore 8, .iconst (0), .istore 9, .iload 9, .iload 6, .if_icmp .ge 93, .aload 0, .getfield 41, .iload 9, .invokevirtual 56, .iload 7, .if_icmp .lt 91, .iinc 8 (1), .iinc 9 (1), .goto 81, .iload 8, .ireturn]
def xb_100 : List Nat := [0, 1, 2, 5, 6, 7, 10, 11, 14, 17, 19, 20, 21, 24, 26, 27, 30, 31, 34, 35, 37, 38, 39, 42, 43, 46, 47, 48, 50, 51, 54, 56, 59, 60, 62, 64, 66, 69, 72, 74, 76, 79, 81, 83, 85, 86, 89, 90, 91, 93, 94, 96, 98, 101, 102, 103, 105, 106, 109, 111, 112, 115, 117, 120, 121, 122, 125, 128, 131, 132, 135, 136, 137, 140, 141, 144, 145, 147, 148, 150, 151, 153, 155, 157, 160, 161, 164, 166, 169, 171, 174, 177, 180, 183, 185]
/-- BitSolver.word(I)I -/
def xk_101 : List Instr := [.iload 1, .invokestatic 83, .ifCond .ne 5, .iconst (-2), .ireturn, .aload 0, .getfield 34, .iload 1, .iadd, .iconst (12), .if_icmp .le 13, .iconst (-3), .ireturn, .aload 0, .iload 1, .aload 0, .getfield 34, .iload 1, .iadd, .invokevirtual 87, .astore 2, .aload 2, .ifnonnull 25, .iconst (-3), .ireturn, .aload 0, .dup, .getfield 34, .iload 1, .iadd, .putfield 34, .aload 2, .iconst (1), .putfield 130, .iconst (0), .istore 3, .iload 3, .iconst (1), .aload 0, .getfield 34, .ishl, .if_icmp .ge 51, .aload 2, .getfield 131, .iload 3, .iload 1, .invokestatic 84, .iand, .invokevirtual 55, .iinc 3 (1), .goto 36, .aload 0, .iconst (1), .putfield 40, .aload 0, .getfield 33, .iconst (1), .isub, .ireturn]
def xb_101 : List Nat := [0, 1, 4, 7, 9, 10, 11, 14, 15, 16, 18, 21, 23, 24, 25, 26, 27, 30, 31, 32, 35, 36, 37, 40, 42, 43, 44, 45, 48, 49, 50, 53, 54, 55, 58, 59, 60, 61, 62, 63, 66, 67, 70, 71, 74, 75, 76, 79, 80, 83, 86, 89, 90, 91, 94, 95, 98, 99, 100]
def xc_owns : List String := ["BitSolver", "BitSolver$Acts", "BitSolver$Diagram", "BitSolver$Row", "BitSolver$Term", "BitSolverLaw", "BitSolverModel", "java/lang/Integer", "java/util/Arrays"]
def xm_ocs : List Nat := [6, 6, 6, 6, 6, 6, 6, 6, 6, 6, 6, 6, 6, 6, 6, 6, 6, 6, 6, 6, 6, 6, 6, 6, 6, 6, 6, 6, 6, 6, 6, 6, 6, 6, 6, 6, 6, 6, 6, 5, 7, 8, 8, 1, 1, 1, 1, 1, 1, 1, 2, 2, 2, 2, 3, 3, 3, 3, 3, 3, 3, 4, 4, 0, 0, 0, 0, 0, 0, 0, 0, 0, 0, 0, 0, 0, 0, 0, 0, 0, 0, 0, 0, 0, 0, 0, 0, 0, 0, 0, 0, 0, 0, 0, 0, 0, 0, 0, 0, 0, 0, 0]
/-- links: owner, pool index, what it names; its word's place, whether it is a nest mate's -/
def xt_f : List ((Nat × Nat × Nat) × Nat × Nat) := [((0, 11, 32), 112, 0), ((0, 15, 33), 113, 0), ((0, 19, 34), 114, 0), ((0, 27, 35), 115, 0), ((0, 31, 36), 116, 0), ((0, 34, 37), 117, 0), ((0, 37, 38), 118, 0), ((0, 40, 39), 119, 0), ((0, 43, 40), 120, 0), ((0, 47, 41), 121, 0), ((0, 53, 42), 122, 0), ((0, 69, 130), 100, 1), ((0, 72, 131), 102, 1), ((0, 95, 128), 96, 1), ((0, 102, 129), 98, 1), ((0, 127, 97), 59, 1), ((0, 164, 64), 75, 1), ((2, 14, 64), 74, 0), ((2, 20, 65), 76, 0), ((2, 23, 66), 77, 0), ((2, 26, 67), 78, 0), ((3, 7, 97), 58, 0), ((3, 19, 96), 57, 0), ((4, 9, 128), 95, 0), ((4, 15, 129), 97, 0), ((4, 18, 130), 99, 0), ((4, 27, 131), 101, 0), ((6, 7, 1), 392, 0), ((6, 13, 2), 393, 0), ((6, 18, 3), 394, 0), ((6, 21, 6), 397, 0), ((6, 24, 8), 399, 0), ((6, 27, 10), 401, 0), ((6, 30, 11), 402, 0), ((6, 33, 12), 403, 0), ((6, 36, 13), 404, 0), ((6, 39, 14), 405, 0), ((6, 42, 15), 406, 0), ((6, 45, 0), 391, 0), ((6, 49, 4), 395, 0), ((6, 52, 5), 396, 0), ((6, 55, 7), 398, 0), ((6, 58, 9), 400, 0), ((6, 105, 16), 407, 0)]
def xt_m : List ((Nat × Nat × Nat) × Nat × Nat) := [((0, 3, 1000), 43, 0), ((0, 24, 54), 50, 1), ((0, 52, 50), 68, 1), ((0, 57, 61), 89, 1), ((0, 58, 58), 150, 1), ((0, 61, 83), 158, 0), ((0, 65, 87), 161, 0), ((0, 75, 84), 165, 0), ((0, 79, 55), 168, 1), ((0, 82, 79), 176, 0), ((0, 86, 95), 183, 0), ((0, 90, 45), 187, 1), ((0, 98, 49), 190, 1), ((0, 105, 2001), 193, 0), ((0, 111, 62), 194, 1), ((0, 114, 43), 202, 1), ((0, 118, 56), 229, 1), ((0, 121, 46), 234, 1), ((0, 124, 82), 243, 0), ((0, 130, 93), 247, 0), ((0, 134, 59), 263, 1), ((0, 138, 80), 283, 0), ((0, 142, 2002), 299, 0), ((0, 145, 60), 304, 1), ((0, 148, 57), 251, 1), ((0, 152, 74), 326, 0), ((0, 156, 40), 342, 0), ((0, 161, 51), 356, 1), ((0, 167, 52), 361, 1), ((0, 170, 85), 330, 0), ((0, 173, 90), 338, 0), ((0, 176, 78), 334, 0), ((1, 11, 84), 205, 1), ((1, 15, 46), 206, 0), ((1, 19, 48), 209, 0), ((1, 22, 47), 212, 0), ((1, 25, 2002), 215, 0), ((1, 30, 44), 218, 0), ((2, 3, 1000), 71, 0), ((2, 11, 54), 73, 1), ((2, 30, 60), 360, 1), ((2, 33, 56), 365, 1), ((2, 37, 53), 366, 0), ((2, 41, 57), 371, 1), ((3, 1, 1000), 53, 0), ((3, 13, 2001), 54, 0), ((3, 23, 2002), 267, 0), ((3, 26, 41), 308, 0), ((3, 32, 2003), 268, 0), ((4, 3, 1000), 92, 0), ((4, 24, 54), 94, 1), ((4, 31, 56), 198, 1), ((5, 9, 63), 40, 0), ((5, 12, 0), 386, 0), ((5, 13, 71), 146, 0), ((5, 17, 11), 444, 0), ((5, 18, 101), 154, 0), ((5, 22, 38), 448, 0), ((5, 23, 72), 172, 0), ((5, 27, 12), 466, 0), ((5, 28, 64), 179, 0), ((5, 32, 1), 470, 0), ((5, 33, 69), 221, 0), ((5, 36, 9), 488, 0), ((5, 37, 77), 225, 0), ((5, 40, 16), 492, 0), ((5, 41, 99), 230, 0), ((5, 45, 36), 496, 0), ((5, 46, 66), 235, 0), ((5, 49, 5), 500, 0), ((5, 50, 70), 239, 0), ((5, 53, 10), 504, 0), ((5, 54, 65), 255, 0), ((5, 57, 4), 508, 0), ((5, 58, 91), 259, 0), ((5, 61, 28), 512, 0), ((5, 62, 89), 271, 0), ((5, 65, 27), 516, 0), ((5, 66, 88), 275, 0), ((5, 69, 26), 520, 0), ((5, 70, 86), 279, 0), ((5, 73, 25), 524, 0), ((5, 74, 96), 287, 0), ((5, 77, 33), 532, 0), ((5, 78, 98), 291, 0), ((5, 81, 35), 536, 0), ((5, 82, 67), 295, 0), ((5, 86, 6), 540, 0), ((5, 87, 97), 300, 0), ((5, 90, 34), 544, 0), ((5, 91, 68), 314, 0), ((5, 94, 8), 548, 0), ((5, 95, 92), 318, 0), ((5, 98, 29), 552, 0), ((5, 99, 75), 322, 0), ((5, 102, 14), 556, 0), ((5, 103, 73), 348, 0), ((5, 106, 13), 569, 0), ((5, 107, 94), 352, 0), ((5, 110, 32), 573, 0), ((5, 111, 81), 372, 0), ((5, 114, 18), 581, 0), ((5, 115, 100), 376, 0), ((5, 118, 37), 585, 0), ((5, 119, 76), 380, 0), ((5, 122, 15), 589, 0), ((6, 1, 1000), 389, 0), ((6, 61, 20), 452, 0), ((6, 65, 3), 455, 0), ((6, 69, 2), 459, 0), ((6, 73, 24), 463, 0), ((6, 77, 31), 485, 0), ((6, 81, 19), 474, 0), ((6, 85, 7), 478, 0), ((6, 88, 17), 482, 0), ((6, 92, 21), 528, 0), ((6, 95, 23), 564, 0), ((6, 98, 25), 568, 0), ((6, 101, 22), 560, 0), ((6, 108, 30), 577, 0), ((8, 13, 42), 311, 0)]
def xt_c : List ((Nat × Nat × Nat) × Nat) := [((0, 9, 4), 46), ((0, 22, 3), 48), ((0, 50, 2), 66), ((2, 9, 3), 72), ((4, 22, 3), 93), ((5, 7, 1), 38), ((5, 10, 0), 384)]
def xt_k : List ((Nat × Nat × Int) × Nat) := [((2, 45, -1640531535), 370), ((6, 17, 98304), 390), ((7, 265, 1431655765), 345), ((7, 266, 858993459), 346), ((7, 267, 252645135), 347)]
/-- places of a method's words: code, its class's start, instance or static, selects -/
def xm_pws : List (Nat × Nat × Nat × Nat) := [(388, 33, 387, 0), (473, 33, 471, 472), (462, 33, 461, 20), (458, 33, 457, 19), (511, 33, 509, 510), (503, 33, 501, 502), (543, 33, 541, 542), (481, 33, 480, 22), (551, 33, 549, 550), (491, 33, 489, 490), (507, 33, 505, 506), (447, 33, 445, 446), (469, 33, 467, 468), (572, 33, 570, 571), (559, 33, 557, 558), (592, 33, 590, 591), (495, 33, 493, 494), (484, 33, 483, 0), (584, 33, 582, 583), (477, 33, 476, 21), (454, 33, 453, 0), (531, 33, 530, 23), (563, 33, 562, 24), (567, 33, 566, 25), (465, 33, 464, 0), (527, 33, 525, 526), (523, 33, 521, 522), (519, 33, 517, 518), (515, 33, 513, 514), (555, 33, 553, 554), (580, 33, 579, 26), (487, 33, 486, 0), (576, 33, 574, 575), (535, 33, 533, 534), (547, 33, 545, 546), (539, 33, 537, 538), (499, 33, 497, 498), (588, 33, 586, 587), (451, 33, 449, 450), (0, 0, 0, 0), (344, 37, 343, 0), (310, 36, 309, 0), (313, 36, 312, 0), (204, 34, 203, 0), (220, 34, 219, 0), (189, 34, 188, 0), (208, 34, 207, 0), (214, 34, 213, 0), (211, 34, 210, 0), (192, 34, 191, 0), (70, 31, 69, 0), (359, 31, 358, 16), (364, 31, 363, 17), (369, 31, 368, 18), (52, 29, 51, 0), (171, 29, 170, 2), (201, 29, 200, 5), (254, 29, 253, 8), (153, 29, 152, 0), (266, 29, 265, 9), (307, 29, 306, 11), (91, 32, 90, 0), (197, 32, 196, 4), (42, 28, 41, 0), (182, 28, 180, 181), (258, 28, 256, 257), (238, 28, 236, 237), (298, 28, 296, 297), (317, 28, 315, 316), (224, 28, 222, 223), (242, 28, 240, 241), (149, 28, 147, 148), (175, 28, 173, 174), (351, 28, 349, 350), (329, 28, 328, 12), (325, 28, 323, 324), (383, 28, 381, 382), (228, 28, 226, 227), (337, 28, 336, 14), (178, 28, 177, 0), (286, 28, 285, 10), (375, 28, 373, 374), (246, 28, 245, 6), (160, 28, 159, 0), (167, 28, 166, 0), (333, 28, 332, 13), (282, 28, 280, 281), (164, 28, 163, 1), (278, 28, 276, 277), (274, 28, 272, 273), (341, 28, 340, 15), (262, 28, 260, 261), (321, 28, 319, 320), (250, 28, 249, 7), (355, 28, 353, 354), (186, 28, 185, 3), (290, 28, 288, 289), (303, 28, 301, 302), (294, 28, 292, 293), (233, 28, 231, 232), (379, 28, 377, 378), (157, 28, 155, 156)]
def xt_a : List (Nat × Nat) := [(2, 47)]
def xt_n : List ((Nat × Nat × Nat) × Nat) := [((0, 9, 2), 46)]
def xm_code (y : Nat) : List Instr := match y with
  | 0 => xk_0
  | 1 => xk_1
  | 2 => xk_2
  | 3 => xk_3
  | 4 => xk_4
  | 5 => xk_5
  | 6 => xk_6
  | 7 => xk_7
  | 8 => xk_8
  | 9 => xk_9
  | 10 => xk_10
  | 11 => xk_11
  | 12 => xk_12
  | 13 => xk_13
  | 14 => xk_14
  | 15 => xk_15
  | 16 => xk_16
  | 17 => xk_17
  | 18 => xk_18
  | 19 => xk_19
  | 20 => xk_20
  | 21 => xk_21
  | 22 => xk_22
  | 23 => xk_23
  | 24 => xk_24
  | 25 => xk_25
  | 26 => xk_26
  | 27 => xk_27
  | 28 => xk_28
  | 29 => xk_29
  | 30 => xk_30
  | 31 => xk_31
  | 32 => xk_32
  | 33 => xk_33
  | 34 => xk_34
  | 35 => xk_35
  | 36 => xk_36
  | 37 => xk_37
  | 38 => xk_38
  | 39 => xk_39
  | 40 => xk_40
  | 41 => xk_41
  | 42 => xk_42
  | 43 => xk_43
  | 44 => xk_44
  | 45 => xk_45
  | 46 => xk_46
  | 47 => xk_47
  | 48 => xk_48
  | 49 => xk_49
  | 50 => xk_50
  | 51 => xk_51
  | 52 => xk_52
  | 53 => xk_53
  | 54 => xk_54
  | 55 => xk_55
  | 56 => xk_56
  | 57 => xk_57
  | 58 => xk_58
  | 59 => xk_59
  | 60 => xk_60
  | 61 => xk_61
  | 62 => xk_62
  | 63 => xk_63
  | 64 => xk_64
  | 65 => xk_65
  | 66 => xk_66
  | 67 => xk_67
  | 68 => xk_68
  | 69 => xk_69
  | 70 => xk_70
  | 71 => xk_71
  | 72 => xk_72
  | 73 => xk_73
  | 74 => xk_74
  | 75 => xk_75
  | 76 => xk_76
  | 77 => xk_77
  | 78 => xk_78
  | 79 => xk_79
  | 80 => xk_80
  | 81 => xk_81
  | 82 => xk_82
  | 83 => xk_83
  | 84 => xk_84
  | 85 => xk_85
  | 86 => xk_86
  | 87 => xk_87
  | 88 => xk_88
  | 89 => xk_89
  | 90 => xk_90
  | 91 => xk_91
  | 92 => xk_92
  | 93 => xk_93
  | 94 => xk_94
  | 95 => xk_95
  | 96 => xk_96
  | 97 => xk_97
  | 98 => xk_98
  | 99 => xk_99
  | 100 => xk_100
  | 101 => xk_101
  | _ => []
def xm_bps (y : Nat) : List Nat := match y with
  | 0 => xb_0
  | 1 => xb_1
  | 2 => xb_2
  | 3 => xb_3
  | 4 => xb_4
  | 5 => xb_5
  | 6 => xb_6
  | 7 => xb_7
  | 8 => xb_8
  | 9 => xb_9
  | 10 => xb_10
  | 11 => xb_11
  | 12 => xb_12
  | 13 => xb_13
  | 14 => xb_14
  | 15 => xb_15
  | 16 => xb_16
  | 17 => xb_17
  | 18 => xb_18
  | 19 => xb_19
  | 20 => xb_20
  | 21 => xb_21
  | 22 => xb_22
  | 23 => xb_23
  | 24 => xb_24
  | 25 => xb_25
  | 26 => xb_26
  | 27 => xb_27
  | 28 => xb_28
  | 29 => xb_29
  | 30 => xb_30
  | 31 => xb_31
  | 32 => xb_32
  | 33 => xb_33
  | 34 => xb_34
  | 35 => xb_35
  | 36 => xb_36
  | 37 => xb_37
  | 38 => xb_38
  | 39 => xb_39
  | 40 => xb_40
  | 41 => xb_41
  | 42 => xb_42
  | 43 => xb_43
  | 44 => xb_44
  | 45 => xb_45
  | 46 => xb_46
  | 47 => xb_47
  | 48 => xb_48
  | 49 => xb_49
  | 50 => xb_50
  | 51 => xb_51
  | 52 => xb_52
  | 53 => xb_53
  | 54 => xb_54
  | 55 => xb_55
  | 56 => xb_56
  | 57 => xb_57
  | 58 => xb_58
  | 59 => xb_59
  | 60 => xb_60
  | 61 => xb_61
  | 62 => xb_62
  | 63 => xb_63
  | 64 => xb_64
  | 65 => xb_65
  | 66 => xb_66
  | 67 => xb_67
  | 68 => xb_68
  | 69 => xb_69
  | 70 => xb_70
  | 71 => xb_71
  | 72 => xb_72
  | 73 => xb_73
  | 74 => xb_74
  | 75 => xb_75
  | 76 => xb_76
  | 77 => xb_77
  | 78 => xb_78
  | 79 => xb_79
  | 80 => xb_80
  | 81 => xb_81
  | 82 => xb_82
  | 83 => xb_83
  | 84 => xb_84
  | 85 => xb_85
  | 86 => xb_86
  | 87 => xb_87
  | 88 => xb_88
  | 89 => xb_89
  | 90 => xb_90
  | 91 => xb_91
  | 92 => xb_92
  | 93 => xb_93
  | 94 => xb_94
  | 95 => xb_95
  | 96 => xb_96
  | 97 => xb_97
  | 98 => xb_98
  | 99 => xb_99
  | 100 => xb_100
  | 101 => xb_101
  | _ => []
