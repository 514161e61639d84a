section
-- ===== PART A: goes FIRST, ahead of the names: the tables' words, and 'selects' of the private methods out of them =====
/-- a private method of a class that the tables say can be made, by its rows of tables_1 -/
def lw_okq (q : MethodName × Nat) : Prop := (q.1.cls ≠ "java/lang/invoke/MethodHandle" ∧ q.1.cls ≠ "java/lang/invoke/VarHandle") ∧ Cond.instantiable q.1.cls q.2 ∈ tables_1 ∧ Cond.privateMethod q.1 ∈ tables_1 ∧ Cond.instanceMethod q.1 ∈ tables_1
theorem lw_p0 : lw_okq (⟨"BitSolver$Row", "shorten", "(I)V"⟩, 2) := ⟨⟨by decide +kernel, by decide +kernel⟩, List.mem_of_getElem? (i := 22) (by decide +kernel), List.mem_of_getElem? (i := 124) (by decide +kernel), List.mem_of_getElem? (i := 125) (by decide +kernel)⟩
theorem lw_p1 : lw_okq (⟨"BitSolver", "nextTerm", "(II)LBitSolver$Term;"⟩, 11) := ⟨⟨by decide +kernel, by decide +kernel⟩, List.mem_of_getElem? (i := 12) (by decide +kernel), List.mem_of_getElem? (i := 135) (by decide +kernel), List.mem_of_getElem? (i := 136) (by decide +kernel)⟩
theorem lw_p2 : lw_okq (⟨"BitSolver$Row", "add", "(I)V"⟩, 2) := ⟨⟨by decide +kernel, by decide +kernel⟩, List.mem_of_getElem? (i := 22) (by decide +kernel), List.mem_of_getElem? (i := 142) (by decide +kernel), List.mem_of_getElem? (i := 143) (by decide +kernel)⟩
theorem lw_p3 : lw_okq (⟨"BitSolver", "termOf", "(I)LBitSolver$Term;"⟩, 11) := ⟨⟨by decide +kernel, by decide +kernel⟩, List.mem_of_getElem? (i := 12) (by decide +kernel), List.mem_of_getElem? (i := 157) (by decide +kernel), List.mem_of_getElem? (i := 158) (by decide +kernel)⟩
theorem lw_p4 : lw_okq (⟨"BitSolver$Term", "by", "(II)I"⟩, 4) := ⟨⟨by decide +kernel, by decide +kernel⟩, List.mem_of_getElem? (i := 61) (by decide +kernel), List.mem_of_getElem? (i := 168) (by decide +kernel), List.mem_of_getElem? (i := 169) (by decide +kernel)⟩
theorem lw_p5 : lw_okq (⟨"BitSolver$Row", "at", "(I)I"⟩, 2) := ⟨⟨by decide +kernel, by decide +kernel⟩, List.mem_of_getElem? (i := 22) (by decide +kernel), List.mem_of_getElem? (i := 172) (by decide +kernel), List.mem_of_getElem? (i := 173) (by decide +kernel)⟩
theorem lw_p6 : lw_okq (⟨"BitSolver", "isOneBit", "(I)Z"⟩, 11) := ⟨⟨by decide +kernel, by decide +kernel⟩, List.mem_of_getElem? (i := 12) (by decide +kernel), List.mem_of_getElem? (i := 217) (by decide +kernel), List.mem_of_getElem? (i := 218) (by decide +kernel)⟩
theorem lw_p7 : lw_okq (⟨"BitSolver", "sift", "(LBitSolver$Row;I)V"⟩, 11) := ⟨⟨by decide +kernel, by decide +kernel⟩, List.mem_of_getElem? (i := 12) (by decide +kernel), List.mem_of_getElem? (i := 221) (by decide +kernel), List.mem_of_getElem? (i := 222) (by decide +kernel)⟩
theorem lw_p8 : lw_okq (⟨"BitSolver$Row", "put", "(II)V"⟩, 2) := ⟨⟨by decide +kernel, by decide +kernel⟩, List.mem_of_getElem? (i := 22) (by decide +kernel), List.mem_of_getElem? (i := 225) (by decide +kernel), List.mem_of_getElem? (i := 226) (by decide +kernel)⟩
theorem lw_p9 : lw_okq (⟨"BitSolver$Row", "take", "(LBitSolver$Row;)V"⟩, 2) := ⟨⟨by decide +kernel, by decide +kernel⟩, List.mem_of_getElem? (i := 22) (by decide +kernel), List.mem_of_getElem? (i := 237) (by decide +kernel), List.mem_of_getElem? (i := 238) (by decide +kernel)⟩
theorem lw_p10 : lw_okq (⟨"BitSolver", "found", "()LBitSolver$Row;"⟩, 11) := ⟨⟨by decide +kernel, by decide +kernel⟩, List.mem_of_getElem? (i := 12) (by decide +kernel), List.mem_of_getElem? (i := 257) (by decide +kernel), List.mem_of_getElem? (i := 258) (by decide +kernel)⟩
theorem lw_p11 : lw_okq (⟨"BitSolver$Row", "zeros", "(I)V"⟩, 2) := ⟨⟨by decide +kernel, by decide +kernel⟩, List.mem_of_getElem? (i := 22) (by decide +kernel), List.mem_of_getElem? (i := 278) (by decide +kernel), List.mem_of_getElem? (i := 279) (by decide +kernel)⟩
theorem lw_p12 : lw_okq (⟨"BitSolver", "coreSet", "()I"⟩, 11) := ⟨⟨by decide +kernel, by decide +kernel⟩, List.mem_of_getElem? (i := 12) (by decide +kernel), List.mem_of_getElem? (i := 300) (by decide +kernel), List.mem_of_getElem? (i := 301) (by decide +kernel)⟩
theorem lw_p13 : lw_okq (⟨"BitSolver", "markFailings", "()V"⟩, 11) := ⟨⟨by decide +kernel, by decide +kernel⟩, List.mem_of_getElem? (i := 12) (by decide +kernel), List.mem_of_getElem? (i := 304) (by decide +kernel), List.mem_of_getElem? (i := 305) (by decide +kernel)⟩
theorem lw_p14 : lw_okq (⟨"BitSolver", "failing", "(I)I"⟩, 11) := ⟨⟨by decide +kernel, by decide +kernel⟩, List.mem_of_getElem? (i := 12) (by decide +kernel), List.mem_of_getElem? (i := 308) (by decide +kernel), List.mem_of_getElem? (i := 309) (by decide +kernel)⟩
theorem lw_p15 : lw_okq (⟨"BitSolver", "refutes", "(I)Z"⟩, 11) := ⟨⟨by decide +kernel, by decide +kernel⟩, List.mem_of_getElem? (i := 12) (by decide +kernel), List.mem_of_getElem? (i := 312) (by decide +kernel), List.mem_of_getElem? (i := 313) (by decide +kernel)⟩
def lw_privs_1 : List (MethodName × Nat) := [(⟨"BitSolver$Row", "shorten", "(I)V"⟩, 2), (⟨"BitSolver", "nextTerm", "(II)LBitSolver$Term;"⟩, 11), (⟨"BitSolver$Row", "add", "(I)V"⟩, 2), (⟨"BitSolver", "termOf", "(I)LBitSolver$Term;"⟩, 11), (⟨"BitSolver$Term", "by", "(II)I"⟩, 4), (⟨"BitSolver$Row", "at", "(I)I"⟩, 2), (⟨"BitSolver", "isOneBit", "(I)Z"⟩, 11), (⟨"BitSolver", "sift", "(LBitSolver$Row;I)V"⟩, 11), (⟨"BitSolver$Row", "put", "(II)V"⟩, 2), (⟨"BitSolver$Row", "take", "(LBitSolver$Row;)V"⟩, 2), (⟨"BitSolver", "found", "()LBitSolver$Row;"⟩, 11), (⟨"BitSolver$Row", "zeros", "(I)V"⟩, 2), (⟨"BitSolver", "coreSet", "()I"⟩, 11), (⟨"BitSolver", "markFailings", "()V"⟩, 11), (⟨"BitSolver", "failing", "(I)I"⟩, 11), (⟨"BitSolver", "refutes", "(I)Z"⟩, 11)]
theorem lw_r1 : ∀ q ∈ lw_privs_1, lw_okq q := List.forall_mem_cons.mpr ⟨lw_p0, List.forall_mem_cons.mpr ⟨lw_p1, List.forall_mem_cons.mpr ⟨lw_p2, List.forall_mem_cons.mpr ⟨lw_p3, List.forall_mem_cons.mpr ⟨lw_p4, List.forall_mem_cons.mpr ⟨lw_p5, List.forall_mem_cons.mpr ⟨lw_p6, List.forall_mem_cons.mpr ⟨lw_p7, List.forall_mem_cons.mpr ⟨lw_p8, List.forall_mem_cons.mpr ⟨lw_p9, List.forall_mem_cons.mpr ⟨lw_p10, List.forall_mem_cons.mpr ⟨lw_p11, List.forall_mem_cons.mpr ⟨lw_p12, List.forall_mem_cons.mpr ⟨lw_p13, List.forall_mem_cons.mpr ⟨lw_p14, List.forall_mem_cons.mpr ⟨lw_p15, fun _ h => absurd h List.not_mem_nil⟩⟩⟩⟩⟩⟩⟩⟩⟩⟩⟩⟩⟩⟩⟩⟩
theorem lw_p16 : lw_okq (⟨"BitSolver$Diagram", "begin", "(I)V"⟩, 4) := ⟨⟨by decide +kernel, by decide +kernel⟩, List.mem_of_getElem? (i := 40) (by decide +kernel), List.mem_of_getElem? (i := 330) (by decide +kernel), List.mem_of_getElem? (i := 331) (by decide +kernel)⟩
theorem lw_p17 : lw_okq (⟨"BitSolver$Diagram", "fold", "(I)I"⟩, 4) := ⟨⟨by decide +kernel, by decide +kernel⟩, List.mem_of_getElem? (i := 40) (by decide +kernel), List.mem_of_getElem? (i := 335) (by decide +kernel), List.mem_of_getElem? (i := 336) (by decide +kernel)⟩
theorem lw_p18 : lw_okq (⟨"BitSolver$Diagram", "nameOf", "(III)I"⟩, 4) := ⟨⟨by decide +kernel, by decide +kernel⟩, List.mem_of_getElem? (i := 40) (by decide +kernel), List.mem_of_getElem? (i := 340) (by decide +kernel), List.mem_of_getElem? (i := 341) (by decide +kernel)⟩
theorem lw_p19 : lw_okq (⟨"BitSolverModel", "all", "()I"⟩, 17) := ⟨⟨by decide +kernel, by decide +kernel⟩, List.mem_of_getElem? (i := 358) (by decide +kernel), List.mem_of_getElem? (i := 429) (by decide +kernel), List.mem_of_getElem? (i := 430) (by decide +kernel)⟩
theorem lw_p20 : lw_okq (⟨"BitSolverModel", "add", "(IZ)I"⟩, 17) := ⟨⟨by decide +kernel, by decide +kernel⟩, List.mem_of_getElem? (i := 358) (by decide +kernel), List.mem_of_getElem? (i := 433) (by decide +kernel), List.mem_of_getElem? (i := 434) (by decide +kernel)⟩
theorem lw_p21 : lw_okq (⟨"BitSolverModel", "has", "(I)Z"⟩, 17) := ⟨⟨by decide +kernel, by decide +kernel⟩, List.mem_of_getElem? (i := 358) (by decide +kernel), List.mem_of_getElem? (i := 448) (by decide +kernel), List.mem_of_getElem? (i := 449) (by decide +kernel)⟩
theorem lw_p22 : lw_okq (⟨"BitSolverModel", "by", "(II)I"⟩, 17) := ⟨⟨by decide +kernel, by decide +kernel⟩, List.mem_of_getElem? (i := 358) (by decide +kernel), List.mem_of_getElem? (i := 452) (by decide +kernel), List.mem_of_getElem? (i := 453) (by decide +kernel)⟩
theorem lw_p23 : lw_okq (⟨"BitSolverModel", "isModel", "(I)Z"⟩, 17) := ⟨⟨by decide +kernel, by decide +kernel⟩, List.mem_of_getElem? (i := 358) (by decide +kernel), List.mem_of_getElem? (i := 502) (by decide +kernel), List.mem_of_getElem? (i := 503) (by decide +kernel)⟩
theorem lw_p24 : lw_okq (⟨"BitSolverModel", "leave", "()Z"⟩, 17) := ⟨⟨by decide +kernel, by decide +kernel⟩, List.mem_of_getElem? (i := 358) (by decide +kernel), List.mem_of_getElem? (i := 534) (by decide +kernel), List.mem_of_getElem? (i := 535) (by decide +kernel)⟩
theorem lw_p25 : lw_okq (⟨"BitSolverModel", "leaveNone", "()V"⟩, 17) := ⟨⟨by decide +kernel, by decide +kernel⟩, List.mem_of_getElem? (i := 358) (by decide +kernel), List.mem_of_getElem? (i := 538) (by decide +kernel), List.mem_of_getElem? (i := 539) (by decide +kernel)⟩
theorem lw_p26 : lw_okq (⟨"BitSolverModel", "shrink", "()I"⟩, 17) := ⟨⟨by decide +kernel, by decide +kernel⟩, List.mem_of_getElem? (i := 358) (by decide +kernel), List.mem_of_getElem? (i := 551) (by decide +kernel), List.mem_of_getElem? (i := 552) (by decide +kernel)⟩
def lw_privs_2 : List (MethodName × Nat) := [(⟨"BitSolver$Diagram", "begin", "(I)V"⟩, 4), (⟨"BitSolver$Diagram", "fold", "(I)I"⟩, 4), (⟨"BitSolver$Diagram", "nameOf", "(III)I"⟩, 4), (⟨"BitSolverModel", "all", "()I"⟩, 17), (⟨"BitSolverModel", "add", "(IZ)I"⟩, 17), (⟨"BitSolverModel", "has", "(I)Z"⟩, 17), (⟨"BitSolverModel", "by", "(II)I"⟩, 17), (⟨"BitSolverModel", "isModel", "(I)Z"⟩, 17), (⟨"BitSolverModel", "leave", "()Z"⟩, 17), (⟨"BitSolverModel", "leaveNone", "()V"⟩, 17), (⟨"BitSolverModel", "shrink", "()I"⟩, 17)]
theorem lw_r2 : ∀ q ∈ lw_privs_2, lw_okq q := List.forall_mem_cons.mpr ⟨lw_p16, List.forall_mem_cons.mpr ⟨lw_p17, List.forall_mem_cons.mpr ⟨lw_p18, List.forall_mem_cons.mpr ⟨lw_p19, List.forall_mem_cons.mpr ⟨lw_p20, List.forall_mem_cons.mpr ⟨lw_p21, List.forall_mem_cons.mpr ⟨lw_p22, List.forall_mem_cons.mpr ⟨lw_p23, List.forall_mem_cons.mpr ⟨lw_p24, List.forall_mem_cons.mpr ⟨lw_p25, List.forall_mem_cons.mpr ⟨lw_p26, fun _ h => absurd h List.not_mem_nil⟩⟩⟩⟩⟩⟩⟩⟩⟩⟩⟩
def lw_privs : List (MethodName × Nat) := lw_privs_1 ++ (lw_privs_2)
def lw_tbl : List Cond := k2_sels lw_privs ++ tables_1
theorem lw_privs_ok : ∀ q ∈ lw_privs, lw_okq q := by
  show ∀ q ∈ lw_privs_1 ++ (lw_privs_2), lw_okq q
  exact List.forall_mem_append.mpr ⟨lw_r1, lw_r2⟩
-- ===== end of PART A; then your names; then what follows =====
end
section
/-! classes, fields and array kinds of the program, by program (gen_tables.py) -/
def xc_T0 : u_T := fun k => match k with
  | 0 => ("BitSolverModel", "terms", "I", false)
  | 1 => ("BitSolverModel", "size", "[I", true)
  | 2 => ("BitSolverModel", "isVariable", "[Z", true)
  | 3 => ("BitSolverModel", "number", "[I", true)
  | 4 => ("BitSolverModel", "bits", "I", false)
  | 5 => ("BitSolverModel", "claims", "I", false)
  | 6 => ("BitSolverModel", "claim", "[I", true)
  | 7 => ("BitSolverModel", "assumed", "I", false)
  | 8 => ("BitSolverModel", "assume", "[I", true)
  | 9 => ("BitSolverModel", "levels", "I", false)
  | 10 => ("BitSolverModel", "level", "[I", true)
  | 11 => ("BitSolverModel", "isLeft", "[Z", true)
  | 12 => ("BitSolverModel", "isThere", "[Z", true)
  | 13 => ("BitSolverModel", "part", "[I", true)
  | 14 => ("BitSolverModel", "nodeLow", "[I", true)
  | 15 => ("BitSolverModel", "nodeHigh", "[I", true)
  | _ => ("BitSolverModel", "nodes", "I", false)
def xc_y0 : Nat → FieldType := fun k => match k with
  | 0 => .int
  | 1 => .array .int
  | 2 => .array .boolean
  | 3 => .array .int
  | 4 => .int
  | 5 => .int
  | 6 => .array .int
  | 7 => .int
  | 8 => .array .int
  | 9 => .int
  | 10 => .array .int
  | 11 => .array .boolean
  | 12 => .array .boolean
  | 13 => .array .int
  | 14 => .array .int
  | 15 => .array .int
  | _ => .int
def xc_T1 : u_T := fun k => match k with
  | 0 => ("BitSolver", "terms", "[LBitSolver$Term;", true)
  | 1 => ("BitSolver", "termsMade", "I", false)
  | 2 => ("BitSolver", "freeBits", "I", false)
  | 3 => ("BitSolver", "claims", "LBitSolver$Row;", true)
  | 4 => ("BitSolver", "assumed", "LBitSolver$Row;", true)
  | 5 => ("BitSolver", "levels", "LBitSolver$Row;", true)
  | 6 => ("BitSolver", "claimed", "LBitSolver$Row;", true)
  | 7 => ("BitSolver", "met", "LBitSolver$Row;", true)
  | 8 => ("BitSolver", "stale", "Z", false)
  | 9 => ("BitSolver", "marks", "LBitSolver$Row;", true)
  | _ => ("BitSolver", "diagram", "LBitSolver$Diagram;", true)
def xc_y1 : Nat → FieldType := fun k => match k with
  | 0 => .array (.object "BitSolver$Term")
  | 1 => .int
  | 2 => .int
  | 3 => .object "BitSolver$Row"
  | 4 => .object "BitSolver$Row"
  | 5 => .object "BitSolver$Row"
  | 6 => .object "BitSolver$Row"
  | 7 => .object "BitSolver$Row"
  | 8 => .boolean
  | 9 => .object "BitSolver$Row"
  | _ => .object "BitSolver$Diagram"
def xc_T2 : u_T := fun k => match k with
  | 0 => ("BitSolver$Diagram", "parts", "LBitSolver$Row;", true)
  | 1 => ("BitSolver$Diagram", "keys", "LBitSolver$Row;", true)
  | 2 => ("BitSolver$Diagram", "names", "LBitSolver$Row;", true)
  | _ => ("BitSolver$Diagram", "named", "I", false)
def xc_y2 : Nat → FieldType := fun k => match k with
  | 0 => .object "BitSolver$Row"
  | 1 => .object "BitSolver$Row"
  | 2 => .object "BitSolver$Row"
  | _ => .int
def xc_T3 : u_T := fun k => match k with
  | 0 => ("BitSolver$Row", "cells", "[I", true)
  | _ => ("BitSolver$Row", "used", "I", false)
def xc_y3 : Nat → FieldType := fun k => match k with
  | 0 => .array .int
  | _ => .int
def xc_T4 : u_T := fun k => match k with
  | 0 => ("BitSolver$Term", "width", "I", false)
  | 1 => ("BitSolver$Term", "reach", "I", false)
  | 2 => ("BitSolver$Term", "variable", "Z", false)
  | _ => ("BitSolver$Term", "row", "LBitSolver$Row;", true)
def xc_y4 : Nat → FieldType := fun k => match k with
  | 0 => .int
  | 1 => .int
  | 2 => .boolean
  | _ => .object "BitSolver$Row"
def xc_cl : List vw_C := [("BitSolverModel", xc_T0, 17), ("BitSolver", xc_T1, 11), ("BitSolver$Diagram", xc_T2, 4), ("BitSolver$Row", xc_T3, 2), ("BitSolver$Term", xc_T4, 4)]
def xc_ty (ci k : Nat) : FieldType := match ci with
  | 0 => xc_y0 k
  | 1 => xc_y1 k
  | 2 => xc_y2 k
  | 3 => xc_y3 k
  | _ => xc_y4 k
def xc_def (ci : Nat) : List Value := match ci with
  | 0 => [.int 0, .null, .null, .null, .int 0, .int 0, .null, .int 0, .null, .int 0, .null, .null, .null, .null, .null, .null, .int 0]
  | 1 => [.null, .int 0, .int 0, .null, .null, .null, .null, .null, .int 0, .null, .null]
  | 2 => [.null, .null, .null, .int 0]
  | 3 => [.null, .int 0]
  | _ => [.int 0, .int 0, .int 0, .null]
def xc_arr : List FieldType := [.int, .boolean, .object "BitSolver$Term"]
/-- the class that an array of references holds -/
def xc_comp (t : Nat) : Nat := match t with
  | 2 => 4
  | _ => 99
end
section
/-! methods and their code, normalised, by program (gen_tables.py) -/
def xm_names : List MethodName := [⟨"BitSolverModel", "<init>", "()V"⟩, ⟨"BitSolverModel", "act", "(III)I"⟩, ⟨"BitSolverModel", "add", "(IZ)I"⟩, ⟨"BitSolverModel", "all", "()I"⟩, ⟨"BitSolverModel", "assume", "(I)I"⟩, ⟨"BitSolverModel", "bits", "(I)I"⟩, ⟨"BitSolverModel", "bound", "(IZ)I"⟩, ⟨"BitSolverModel", "by", "(II)I"⟩, ⟨"BitSolverModel", "certain", "(I)I"⟩, ⟨"BitSolverModel", "choose", "(III)I"⟩, ⟨"BitSolverModel", "claim", "(I)I"⟩, ⟨"BitSolverModel", "clear", "()I"⟩, ⟨"BitSolverModel", "constant", "(II)I"⟩, ⟨"BitSolverModel", "core", "(I)I"⟩, ⟨"BitSolverModel", "cores", "()I"⟩, ⟨"BitSolverModel", "count", "(I)I"⟩, ⟨"BitSolverModel", "cut", "(III)I"⟩, ⟨"BitSolverModel", "done", "(IIIII)I"⟩, ⟨"BitSolverModel", "great", "()I"⟩, ⟨"BitSolverModel", "has", "(I)Z"⟩, ⟨"BitSolverModel", "isIn", "(III)Z"⟩, ⟨"BitSolverModel", "isModel", "(I)Z"⟩, ⟨"BitSolverModel", "leave", "()Z"⟩, ⟨"BitSolverModel", "leaveNone", "()V"⟩, ⟨"BitSolverModel", "mask", "(I)I"⟩, ⟨"BitSolverModel", "models", "()I"⟩, ⟨"BitSolverModel", "pop", "()I"⟩, ⟨"BitSolverModel", "push", "()I"⟩, ⟨"BitSolverModel", "release", "()I"⟩, ⟨"BitSolverModel", "same", "(II)I"⟩, ⟨"BitSolverModel", "shrink", "()I"⟩, ⟨"BitSolverModel", "signed", "(II)I"⟩, ⟨"BitSolverModel", "size", "(II)I"⟩, ⟨"BitSolverModel", "value", "(II)I"⟩, ⟨"BitSolverModel", "values", "(I)I"⟩, ⟨"BitSolverModel", "where", "(II)I"⟩, ⟨"BitSolverModel", "widen", "(IIZ)I"⟩, ⟨"BitSolverModel", "without", "(IZ)I"⟩, ⟨"BitSolverModel", "word", "(I)I"⟩, ⟨"BitSolverLaw", "law", "([I)Z"⟩, ⟨"java/lang/Integer", "bitCount", "(I)I"⟩, ⟨"java/util/Arrays", "fill", "([IIII)V"⟩, ⟨"java/util/Arrays", "rangeCheck", "(III)V"⟩, ⟨"BitSolver$Acts", "answer", "(IIIII)I"⟩, ⟨"BitSolver$Acts", "around", "(III)I"⟩, ⟨"BitSolver$Acts", "hasOne", "(I)Z"⟩, ⟨"BitSolver$Acts", "signed", "(II)I"⟩, ⟨"BitSolver$Acts", "signedLeftOver", "(II)I"⟩, ⟨"BitSolver$Acts", "signedQuotient", "(II)I"⟩, ⟨"BitSolver$Acts", "widthOf", "(III)I"⟩, ⟨"BitSolver$Diagram", "<init>", "()V"⟩, ⟨"BitSolver$Diagram", "begin", "(I)V"⟩, ⟨"BitSolver$Diagram", "fold", "(I)I"⟩, ⟨"BitSolver$Diagram", "nameOf", "(III)I"⟩, ⟨"BitSolver$Row", "<init>", "(I)V"⟩, ⟨"BitSolver$Row", "add", "(I)V"⟩, ⟨"BitSolver$Row", "at", "(I)I"⟩, ⟨"BitSolver$Row", "put", "(II)V"⟩, ⟨"BitSolver$Row", "shorten", "(I)V"⟩, ⟨"BitSolver$Row", "take", "(LBitSolver$Row;)V"⟩, ⟨"BitSolver$Row", "zeros", "(I)V"⟩, ⟨"BitSolver$Term", "<init>", "()V"⟩, ⟨"BitSolver$Term", "by", "(II)I"⟩, ⟨"BitSolver", "<init>", "()V"⟩, ⟨"BitSolver", "act", "(III)I"⟩, ⟨"BitSolver", "assume", "(I)I"⟩, ⟨"BitSolver", "bits", "(I)I"⟩, ⟨"BitSolver", "bound", "(IZ)I"⟩, ⟨"BitSolver", "certain", "(I)I"⟩, ⟨"BitSolver", "choose", "(III)I"⟩, ⟨"BitSolver", "claim", "(I)I"⟩, ⟨"BitSolver", "clear", "()I"⟩, ⟨"BitSolver", "constant", "(II)I"⟩, ⟨"BitSolver", "core", "(I)I"⟩, ⟨"BitSolver", "coreSet", "()I"⟩, ⟨"BitSolver", "cores", "()I"⟩, ⟨"BitSolver", "count", "(I)I"⟩, ⟨"BitSolver", "cut", "(III)I"⟩, ⟨"BitSolver", "failing", "(I)I"⟩, ⟨"BitSolver", "fits", "(II)Z"⟩, ⟨"BitSolver", "found", "()LBitSolver$Row;"⟩, ⟨"BitSolver", "great", "()I"⟩, ⟨"BitSolver", "isOneBit", "(I)Z"⟩, ⟨"BitSolver", "isWidth", "(I)Z"⟩, ⟨"BitSolver", "lowest", "(I)I"⟩, ⟨"BitSolver", "markFailings", "()V"⟩, ⟨"BitSolver", "models", "()I"⟩, ⟨"BitSolver", "nextTerm", "(II)LBitSolver$Term;"⟩, ⟨"BitSolver", "pop", "()I"⟩, ⟨"BitSolver", "push", "()I"⟩, ⟨"BitSolver", "refutes", "(I)Z"⟩, ⟨"BitSolver", "release", "()I"⟩, ⟨"BitSolver", "same", "(II)I"⟩, ⟨"BitSolver", "sift", "(LBitSolver$Row;I)V"⟩, ⟨"BitSolver", "size", "(II)I"⟩, ⟨"BitSolver", "termOf", "(I)LBitSolver$Term;"⟩, ⟨"BitSolver", "value", "(II)I"⟩, ⟨"BitSolver", "values", "(I)I"⟩, ⟨"BitSolver", "where", "(II)I"⟩, ⟨"BitSolver", "widen", "(IIZ)I"⟩, ⟨"BitSolver", "without", "(IZ)I"⟩, ⟨"BitSolver", "word", "(I)I"⟩]
def xm_byteses : List ByteArray := [prog_7_method_1_code, prog_7_method_13_code, prog_7_method_8_code, prog_7_method_5_code, prog_7_method_19_code, prog_7_method_17_code, prog_7_method_28_code, prog_7_method_6_code, prog_7_method_30_code, prog_7_method_14_code, prog_7_method_18_code, prog_7_method_2_code, prog_7_method_10_code, prog_7_method_34_code, prog_7_method_33_code, prog_7_method_39_code, prog_7_method_15_code, prog_7_method_12_code, prog_7_method_37_code, prog_7_method_4_code, prog_7_method_3_code, prog_7_method_23_code, prog_7_method_32_code, prog_7_method_24_code, prog_7_method_7_code, prog_7_method_25_code, prog_7_method_22_code, prog_7_method_21_code, prog_7_method_20_code, prog_7_method_31_code, prog_7_method_35_code, prog_7_method_11_code, prog_7_method_36_code, prog_7_method_26_code, prog_7_method_29_code, prog_7_method_27_code, prog_7_method_16_code, prog_7_method_38_code, prog_7_method_9_code, code, prog_8_method_49_code, prog_11_method_104_code, prog_11_method_30_code, prog_2_method_4_code, prog_2_method_8_code, prog_2_method_2_code, prog_2_method_5_code, prog_2_method_7_code, prog_2_method_6_code, prog_2_method_3_code, prog_3_method_1_code, prog_3_method_2_code, prog_3_method_3_code, prog_3_method_4_code, prog_4_method_1_code, prog_4_method_4_code, prog_4_method_2_code, prog_4_method_3_code, prog_4_method_5_code, prog_4_method_7_code, prog_4_method_6_code, prog_5_method_1_code, prog_5_method_2_code, prog_1_method_1_code, prog_1_method_5_code, prog_1_method_11_code, prog_1_method_9_code, prog_1_method_18_code, prog_1_method_20_code, prog_1_method_6_code, prog_1_method_10_code, prog_1_method_2_code, prog_1_method_4_code, prog_1_method_23_code, prog_1_method_36_code, prog_1_method_22_code, prog_1_method_27_code, prog_1_method_7_code, prog_1_method_38_code, prog_1_method_29_code, prog_1_method_34_code, prog_1_method_25_code, prog_1_method_31_code, prog_1_method_28_code, prog_1_method_30_code, prog_1_method_37_code, prog_1_method_15_code, prog_1_method_33_code, prog_1_method_14_code, prog_1_method_13_code, prog_1_method_39_code, prog_1_method_12_code, prog_1_method_21_code, prog_1_method_35_code, prog_1_method_24_code, prog_1_method_32_code, prog_1_method_16_code, prog_1_method_19_code, prog_1_method_17_code, prog_1_method_8_code, prog_1_method_26_code, prog_1_method_3_code]
def xm_maxLs : List Nat := [1, 9, 3, 1, 2, 2, 6, 3, 5, 6, 2, 2, 5, 6, 4, 2, 6, 7, 2, 2, 3, 4, 2, 2, 1, 3, 2, 1, 2, 5, 7, 2, 4, 5, 4, 5, 6, 8, 4, 4, 1, 5, 3, 6, 4, 1, 2, 2, 2, 3, 1, 2, 4, 7, 2, 2, 2, 3, 2, 2, 2, 1, 3, 2, 10, 2, 3, 8, 7, 10, 2, 2, 4, 5, 4, 1, 2, 7, 5, 2, 2, 3, 3, 1, 1, 2, 1, 4, 3, 1, 3, 2, 8, 7, 5, 2, 5, 7, 6, 8, 10, 4]
def xm_rets : List (Option FieldType) := [none, (Option.some FieldType.int), (Option.some FieldType.int), (Option.some FieldType.int), (Option.some FieldType.int), (Option.some FieldType.int), (Option.some FieldType.int), (Option.some FieldType.int), (Option.some FieldType.int), (Option.some FieldType.int), (Option.some FieldType.int), (Option.some FieldType.int), (Option.some FieldType.int), (Option.some FieldType.int), (Option.some FieldType.int), (Option.some FieldType.int), (Option.some FieldType.int), (Option.some FieldType.int), (Option.some FieldType.int), (Option.some FieldType.boolean), (Option.some FieldType.boolean), (Option.some FieldType.boolean), (Option.some FieldType.boolean), none, (Option.some FieldType.int), (Option.some FieldType.int), (Option.some FieldType.int), (Option.some FieldType.int), (Option.some FieldType.int), (Option.some FieldType.int), (Option.some FieldType.int), (Option.some FieldType.int), (Option.some FieldType.int), (Option.some FieldType.int), (Option.some FieldType.int), (Option.some FieldType.int), (Option.some FieldType.int), (Option.some FieldType.int), (Option.some FieldType.int), (Option.some FieldType.boolean), (Option.some FieldType.int), none, none, (Option.some FieldType.int), (Option.some FieldType.int), (Option.some FieldType.boolean), (Option.some FieldType.int), (Option.some FieldType.int), (Option.some FieldType.int), (Option.some FieldType.int), none, none, (Option.some FieldType.int), (Option.some FieldType.int), none, none, (Option.some FieldType.int), none, none, none, none, none, (Option.some FieldType.int), none, (Option.some FieldType.int), (Option.some FieldType.int), (Option.some FieldType.int), (Option.some FieldType.int), (Option.some FieldType.int), (Option.some FieldType.int), (Option.some FieldType.int), (Option.some FieldType.int), (Option.some FieldType.int), (Option.some FieldType.int), (Option.some FieldType.int), (Option.some FieldType.int), (Option.some FieldType.int), (Option.some FieldType.int), (Option.some FieldType.int), (Option.some FieldType.boolean), (Option.some (FieldType.object "BitSolver$Row")), (Option.some FieldType.int), (Option.some FieldType.boolean), (Option.some FieldType.boolean), (Option.some FieldType.int), none, (Option.some FieldType.int), (Option.some (FieldType.object "BitSolver$Term")), (Option.some FieldType.int), (Option.some FieldType.int), (Option.some FieldType.boolean), (Option.some FieldType.int), (Option.some FieldType.int), none, (Option.some FieldType.int), (Option.some (FieldType.object "BitSolver$Term")), (Option.some FieldType.int), (Option.some FieldType.int), (Option.some FieldType.int), (Option.some FieldType.int), (Option.some FieldType.int), (Option.some FieldType.int)]
def xm_arities : List Nat := [1, 4, 3, 1, 2, 2, 3, 3, 2, 4, 2, 1, 3, 2, 1, 2, 4, 5, 1, 2, 3, 2, 1, 1, 1, 1, 1, 1, 1, 3, 1, 2, 3, 3, 2, 3, 4, 3, 2, 1, 1, 4, 3, 5, 3, 1, 2, 2, 2, 3, 1, 2, 2, 4, 2, 2, 2, 3, 2, 2, 2, 1, 3, 1, 4, 2, 2, 3, 2, 4, 2, 1, 3, 2, 1, 1, 2, 4, 2, 2, 1, 1, 2, 1, 1, 1, 1, 3, 1, 1, 2, 1, 3, 3, 3, 2, 3, 2, 3, 4, 3, 2]
/-- the receiver's class, where a receiver is looked at -/
def xm_recvs : List (Option Nat) := [some 0, some 0, some 0, some 0, some 0, some 0, some 0, some 0, some 0, some 0, some 0, some 0, some 0, some 0, some 0, some 0, some 0, none, some 0, some 0, none, some 0, some 0, some 0, none, some 0, some 0, some 0, some 0, some 0, some 0, none, some 0, some 0, some 0, some 0, some 0, some 0, some 0, none, none, none, none, none, none, none, none, none, none, none, some 2, some 2, some 2, some 2, some 3, some 3, some 3, some 3, some 3, some 3, some 3, some 4, some 4, some 1, some 1, some 1, some 1, some 1, some 1, some 1, some 1, some 1, some 1, some 1, some 1, some 1, some 1, some 1, some 1, none, some 1, some 1, some 1, none, none, some 1, some 1, some 1, some 1, some 1, some 1, some 1, some 1, some 1, some 1, some 1, some 1, some 1, some 1, some 1, some 1, some 1]
/-- BitSolverModel.<init>()V -/
def xk_0 : List Instr := [.aload 0, .invokespecial 1000, .aload 0, .iconst (24), .newarray .int, .putfield 1, .aload 0, .iconst (24), .newarray .boolean, .putfield 2, .aload 0, .iconst (98304), .newarray .int, .putfield 3, .aload 0, .iconst (16), .newarray .int, .putfield 6, .aload 0, .iconst (8), .newarray .int, .putfield 8, .aload 0, .iconst (8), .newarray .int, .putfield 10, .aload 0, .iconst (8), .newarray .boolean, .putfield 11, .aload 0, .iconst (4096), .newarray .boolean, .putfield 12, .aload 0, .iconst (4096), .newarray .int, .putfield 13, .aload 0, .iconst (4100), .newarray .int, .putfield 14, .aload 0, .iconst (4100), .newarray .int, .putfield 15, .return_]
def xb_0 : List Nat := [0, 1, 4, 5, 7, 9, 12, 13, 15, 17, 20, 21, 23, 25, 28, 29, 31, 33, 36, 37, 39, 41, 44, 45, 47, 49, 52, 53, 55, 57, 60, 61, 64, 66, 69, 70, 73, 75, 78, 79, 82, 84, 87, 88, 91, 93, 96]
/-- BitSolverModel.act(III)I -/
def xk_1 : List Instr := [.iload 1, .ifCond .eq 5, .iload 1, .iconst (1), .if_icmp .ne 7, .iconst (1), .goto 8, .iconst (0), .istore 4, .iload 1, .iconst (0), .iconst (19), .invokestatic 20, .ifCond .eq 52, .aload 0, .iload 2, .invokevirtual 19, .ifCond .eq 52, .iload 4, .ifCond .ne 24, .aload 0, .iload 3, .invokevirtual 19, .ifCond .eq 52, .iload 4, .ifCond .ne 38, .iload 1, .iconst (18), .if_icmp .eq 38, .aload 0, .getfield 1, .iload 2, .iaload, .aload 0, .getfield 1, .iload 3, .iaload, .if_icmp .ne 52, .iload 1, .iconst (18), .if_icmp .ne 54, .aload 0, .getfield 1, .iload 2, .iaload, .aload 0, .getfield 1, .iload 3, .iaload, .iadd, .iconst (12), .if_icmp .le 54, .iconst (-2), .ireturn, .aload 0, .getfield 0, .iconst (24), .if_icmp .ne 60, .iconst (-3), .ireturn, .aload 0, .getfield 1, .iload 2, .iaload, .istore 5, .iload 4, .ifCond .eq 69, .iload 5, .goto 73, .aload 0, .getfield 1, .iload 3, .iaload, .istore 6, .aload 0, .iload 1, .iconst (18), .if_icmp .ne 82, .iload 5, .iload 6, .iadd, .goto 90, .iload 1, .iconst (15), .iconst (17), .invokestatic 20, .ifCond .eq 89, .iconst (1), .goto 90, .iload 5, .iconst (0), .invokevirtual 2, .istore 7, .iconst (0), .istore 8, .iload 8, .aload 0, .invokevirtual 3, .if_icmp .ge 131, .aload 0, .getfield 3, .iconst (4096), .iload 7, .imul, .iload 8, .iadd, .iload 1, .aload 0, .iload 2, .iload 8, .invokevirtual 7, .iload 4, .ifCond .eq 115, .iconst (0), .goto 119, .aload 0, .iload 3, .iload 8, .invokevirtual 7, .iload 5, .iload 6, .invokestatic 17, .aload 0, .getfield 1, .iload 7, .iaload, .invokestatic 24, .iand, .iastore, .iinc 8 (1), .goto 95, .iload 7, .ireturn]
def xb_1 : List Nat := [0, 1, 4, 5, 6, 9, 10, 13, 14, 16, 17, 18, 20, 23, 26, 27, 28, 31, 34, 36, 39, 40, 41, 44, 47, 49, 52, 53, 55, 58, 59, 62, 63, 64, 65, 68, 69, 70, 73, 74, 76, 79, 80, 83, 84, 85, 86, 89, 90, 91, 92, 94, 97, 99, 100, 101, 104, 106, 109, 111, 112, 113, 116, 117, 118, 120, 122, 125, 127, 130, 131, 134, 135, 136, 138, 139, 140, 142, 145, 147, 149, 150, 153, 154, 156, 158, 161, 164, 165, 168, 170, 171, 174, 176, 177, 179, 181, 182, 185, 188, 189, 192, 195, 197, 198, 200, 201, 202, 203, 204, 206, 209, 211, 214, 215, 218, 219, 220, 222, 225, 227, 229, 232, 233, 236, 238, 239, 242, 243, 244, 247, 250, 252]
/-- BitSolverModel.add(IZ)I -/
def xk_2 : List Instr := [.aload 0, .getfield 1, .aload 0, .getfield 0, .iload 1, .iastore, .aload 0, .getfield 2, .aload 0, .getfield 0, .iload 2, .bastore, .aload 0, .dup, .getfield 0, .iconst (1), .iadd, .putfield 0, .aload 0, .getfield 0, .iconst (1), .isub, .ireturn]
def xb_2 : List Nat := [0, 1, 4, 5, 8, 9, 10, 11, 14, 15, 18, 19, 20, 21, 22, 25, 26, 27, 30, 31, 34, 35, 36]
/-- BitSolverModel.all()I -/
def xk_3 : List Instr := [.iconst (1), .aload 0, .getfield 4, .ishl, .ireturn]
def xb_3 : List Nat := [0, 1, 2, 5, 6]
/-- BitSolverModel.assume(I)I -/
def xk_4 : List Instr := [.aload 0, .iload 1, .invokevirtual 19, .ifCond .eq 10, .aload 0, .getfield 1, .iload 1, .iaload, .iconst (1), .if_icmp .eq 12, .iconst (-2), .ireturn, .aload 0, .getfield 7, .iconst (8), .if_icmp .ne 18, .iconst (-3), .ireturn, .aload 0, .getfield 8, .aload 0, .getfield 7, .iload 1, .iastore, .aload 0, .dup, .getfield 7, .iconst (1), .iadd, .putfield 7, .aload 0, .getfield 7, .ireturn]
def xb_4 : List Nat := [0, 1, 2, 5, 8, 9, 12, 13, 14, 15, 18, 20, 21, 22, 25, 27, 30, 32, 33, 34, 37, 38, 41, 42, 43, 44, 45, 48, 49, 50, 53, 54, 57]
/-- BitSolverModel.bits(I)I -/
def xk_5 : List Instr := [.aload 0, .iload 1, .invokevirtual 19, .ifCond .eq 9, .aload 0, .getfield 1, .iload 1, .iaload, .goto 10, .iconst (-2), .ireturn]
def xb_5 : List Nat := [0, 1, 2, 5, 8, 9, 12, 13, 14, 17, 19]
/-- BitSolverModel.bound(IZ)I -/
def xk_6 : List Instr := [.aload 0, .iload 1, .invokevirtual 19, .ifCond .ne 6, .iconst (-2), .ireturn, .iconst (-1), .istore 3, .iconst (0), .istore 4, .iload 4, .aload 0, .invokevirtual 3, .if_icmp .ge 41, .aload 0, .iload 4, .invokevirtual 21, .ifCond .eq 39, .aload 0, .iload 1, .iload 4, .invokevirtual 7, .istore 5, .iload 3, .iconst (-1), .if_icmp .eq 35, .iload 2, .ifCond .eq 32, .iload 5, .iload 3, .if_icmp .le 37, .goto 35, .iload 5, .iload 3, .if_icmp .ge 37, .iload 5, .goto 38, .iload 3, .istore 3, .iinc 4 (1), .goto 10, .iload 3, .ireturn]
def xb_6 : List Nat := [0, 1, 2, 5, 8, 10, 11, 12, 13, 14, 16, 18, 19, 22, 25, 26, 28, 31, 34, 35, 36, 38, 41, 43, 44, 45, 48, 49, 52, 54, 55, 58, 61, 63, 64, 67, 69, 72, 73, 74, 77, 80, 81]
/-- BitSolverModel.by(II)I -/
def xk_7 : List Instr := [.aload 0, .getfield 3, .iconst (4096), .iload 1, .imul, .iload 2, .iadd, .iaload, .ireturn]
def xb_7 : List Nat := [0, 1, 4, 7, 8, 9, 10, 11, 12]
/-- BitSolverModel.certain(I)I -/
def xk_8 : List Instr := [.aload 0, .iload 1, .invokevirtual 19, .ifCond .ne 6, .iconst (-2), .ireturn, .iconst (-1), .istore 2, .aload 0, .getfield 1, .iload 1, .iaload, .invokestatic 24, .istore 3, .iconst (0), .istore 4, .iload 4, .aload 0, .invokevirtual 3, .if_icmp .ge 47, .aload 0, .iload 4, .invokevirtual 21, .ifCond .eq 45, .iload 2, .iconst (-1), .if_icmp .ne 32, .aload 0, .iload 1, .iload 4, .invokevirtual 7, .goto 33, .iload 2, .istore 2, .iload 3, .iload 2, .aload 0, .iload 1, .iload 4, .invokevirtual 7, .ixor, .iconst (-1), .ixor, .iand, .istore 3, .iinc 4 (1), .goto 16, .iload 2, .iconst (-1), .if_icmp .ne 52, .iconst (-1), .goto 53, .iload 3, .ireturn]
def xb_8 : List Nat := [0, 1, 2, 5, 8, 10, 11, 12, 13, 14, 17, 18, 19, 22, 23, 24, 26, 28, 29, 32, 35, 36, 38, 41, 44, 45, 46, 49, 50, 51, 53, 56, 59, 60, 61, 62, 63, 64, 65, 67, 70, 71, 72, 73, 74, 75, 78, 81, 82, 83, 86, 87, 90, 91]
/-- BitSolverModel.choose(III)I -/
def xk_9 : List Instr := [.aload 0, .iload 1, .invokevirtual 19, .ifCond .eq 27, .aload 0, .iload 2, .invokevirtual 19, .ifCond .eq 27, .aload 0, .iload 3, .invokevirtual 19, .ifCond .eq 27, .aload 0, .getfield 1, .iload 1, .iaload, .iconst (1), .if_icmp .ne 27, .aload 0, .getfield 1, .iload 2, .iaload, .aload 0, .getfield 1, .iload 3, .iaload, .if_icmp .eq 29, .iconst (-2), .ireturn, .aload 0, .getfield 0, .iconst (24), .if_icmp .ne 35, .iconst (-3), .ireturn, .aload 0, .aload 0, .getfield 1, .iload 2, .iaload, .iconst (0), .invokevirtual 2, .istore 4, .iconst (0), .istore 5, .iload 5, .aload 0, .invokevirtual 3, .if_icmp .ge 74, .aload 0, .getfield 3, .iconst (4096), .iload 4, .imul, .iload 5, .iadd, .aload 0, .iload 1, .iload 5, .invokevirtual 7, .iconst (1), .if_icmp .ne 67, .aload 0, .iload 2, .iload 5, .invokevirtual 7, .goto 71, .aload 0, .iload 3, .iload 5, .invokevirtual 7, .iastore, .iinc 5 (1), .goto 45, .iload 4, .ireturn]
def xb_9 : List Nat := [0, 1, 2, 5, 8, 9, 10, 13, 16, 17, 18, 21, 24, 25, 28, 29, 30, 31, 34, 35, 38, 39, 40, 41, 44, 45, 46, 49, 51, 52, 53, 56, 58, 61, 63, 64, 65, 66, 69, 70, 71, 72, 75, 77, 78, 80, 82, 83, 86, 89, 90, 93, 96, 98, 99, 101, 102, 103, 104, 106, 109, 110, 113, 114, 115, 117, 120, 123, 124, 125, 127, 130, 131, 134, 137, 139]
/-- BitSolverModel.claim(I)I -/
def xk_10 : List Instr := [.aload 0, .iload 1, .invokevirtual 19, .ifCond .eq 10, .aload 0, .getfield 1, .iload 1, .iaload, .iconst (1), .if_icmp .eq 12, .iconst (-2), .ireturn, .aload 0, .getfield 5, .iconst (16), .if_icmp .ne 18, .iconst (-3), .ireturn, .aload 0, .getfield 6, .aload 0, .getfield 5, .iload 1, .iastore, .aload 0, .dup, .getfield 5, .iconst (1), .iadd, .putfield 5, .aload 0, .getfield 5, .ireturn]
def xb_10 : List Nat := [0, 1, 2, 5, 8, 9, 12, 13, 14, 15, 18, 20, 21, 22, 25, 27, 30, 32, 33, 34, 37, 38, 41, 42, 43, 44, 45, 48, 49, 50, 53, 54, 57]
/-- BitSolverModel.clear()I -/
def xk_11 : List Instr := [.aload 0, .getfield 0, .istore 1, .aload 0, .iconst (0), .putfield 0, .aload 0, .iconst (0), .putfield 4, .aload 0, .iconst (0), .putfield 5, .aload 0, .iconst (0), .putfield 7, .aload 0, .iconst (0), .putfield 9, .iload 1, .ireturn]
def xb_11 : List Nat := [0, 1, 4, 5, 6, 7, 10, 11, 12, 15, 16, 17, 20, 21, 22, 25, 26, 27, 30, 31]
/-- BitSolverModel.constant(II)I -/
def xk_12 : List Instr := [.iload 1, .iconst (1), .iconst (12), .invokestatic 20, .ifCond .eq 11, .iload 2, .iconst (0), .iload 1, .invokestatic 24, .invokestatic 20, .ifCond .ne 13, .iconst (-2), .ireturn, .aload 0, .getfield 0, .iconst (24), .if_icmp .ne 19, .iconst (-3), .ireturn, .aload 0, .iload 1, .iconst (0), .invokevirtual 2, .istore 3, .iconst (0), .istore 4, .iload 4, .aload 0, .invokevirtual 3, .if_icmp .ge 41, .aload 0, .getfield 3, .iconst (4096), .iload 3, .imul, .iload 4, .iadd, .iload 2, .iastore, .iinc 4 (1), .goto 26, .iload 3, .ireturn]
def xb_12 : List Nat := [0, 1, 2, 4, 7, 10, 11, 12, 13, 16, 19, 22, 24, 25, 26, 29, 31, 34, 36, 37, 38, 39, 40, 43, 44, 45, 47, 49, 50, 53, 56, 57, 60, 63, 64, 65, 67, 68, 69, 70, 73, 76, 77]
/-- BitSolverModel.core(I)I -/
def xk_13 : List Instr := [.aload 0, .invokevirtual 22, .istore 2, .iconst (0), .istore 3, .iconst (-1), .istore 4, .iconst (0), .istore 5, .iload 5, .aload 0, .getfield 7, .if_icmp .ge 33, .iload 2, .ifCond .eq 33, .aload 0, .getfield 11, .iload 5, .baload, .ifCond .ne 31, .iload 3, .iload 1, .if_icmp .ne 28, .aload 0, .getfield 8, .iload 5, .iaload, .goto 29, .iload 4, .istore 4, .iinc 3 (1), .iinc 5 (1), .goto 9, .aload 0, .invokevirtual 23, .iload 4, .ireturn]
def xb_13 : List Nat := [0, 1, 4, 5, 6, 7, 8, 10, 11, 13, 15, 16, 19, 22, 23, 26, 27, 30, 32, 33, 36, 37, 38, 41, 42, 45, 47, 48, 51, 53, 55, 58, 61, 64, 65, 68, 70]
/-- BitSolverModel.cores()I -/
def xk_14 : List Instr := [.aload 0, .invokevirtual 22, .istore 1, .iconst (0), .istore 2, .iconst (0), .istore 3, .iload 3, .aload 0, .getfield 7, .if_icmp .ge 24, .iload 2, .aload 0, .getfield 11, .iload 3, .baload, .ifCond .eq 19, .iconst (0), .goto 20, .iconst (1), .iadd, .istore 2, .iinc 3 (1), .goto 7, .aload 0, .invokevirtual 23, .iload 1, .ifCond .eq 30, .iload 2, .goto 31, .iconst (-1), .ireturn]
def xb_14 : List Nat := [0, 1, 4, 5, 6, 7, 8, 9, 10, 11, 14, 17, 18, 19, 22, 23, 24, 27, 28, 31, 32, 33, 34, 37, 40, 41, 44, 45, 48, 49, 52, 53]
/-- BitSolverModel.count(I)I -/
def xk_15 : List Instr := [.iload 1, .tableswitch 17 (0) (4) #[2, 5, 8, 11, 14], .aload 0, .getfield 0, .ireturn, .aload 0, .getfield 4, .ireturn, .aload 0, .getfield 5, .ireturn, .aload 0, .getfield 7, .ireturn, .aload 0, .getfield 9, .ireturn, .iconst (-2), .ireturn]
def xb_15 : List Nat := [0, 1, 36, 37, 40, 41, 42, 45, 46, 47, 50, 51, 52, 55, 56, 57, 60, 61, 63]
/-- BitSolverModel.cut(III)I -/
def xk_16 : List Instr := [.aload 0, .iload 1, .invokevirtual 19, .ifCond .eq 23, .iload 2, .ifCond .lt 23, .iload 3, .iconst (1), .if_icmp .lt 23, .iload 3, .aload 0, .getfield 1, .iload 1, .iaload, .if_icmp .gt 23, .iload 2, .aload 0, .getfield 1, .iload 1, .iaload, .iload 3, .isub, .if_icmp .le 25, .iconst (-2), .ireturn, .aload 0, .getfield 0, .iconst (24), .if_icmp .ne 31, .iconst (-3), .ireturn, .aload 0, .iload 3, .iconst (0), .invokevirtual 2, .istore 4, .iconst (0), .istore 5, .iload 5, .aload 0, .invokevirtual 3, .if_icmp .ge 61, .aload 0, .getfield 3, .iconst (4096), .iload 4, .imul, .iload 5, .iadd, .aload 0, .iload 1, .iload 5, .invokevirtual 7, .iload 2, .ishr, .iload 3, .invokestatic 24, .iand, .iastore, .iinc 5 (1), .goto 38, .iload 4, .ireturn]
def xb_16 : List Nat := [0, 1, 2, 5, 8, 9, 12, 13, 14, 17, 18, 19, 22, 23, 24, 27, 28, 29, 32, 33, 34, 35, 36, 39, 41, 42, 43, 46, 48, 51, 53, 54, 55, 56, 57, 60, 62, 63, 65, 67, 68, 71, 74, 75, 78, 81, 83, 84, 86, 87, 88, 89, 91, 94, 95, 96, 97, 100, 101, 102, 105, 108, 110]
/-- BitSolverModel.done(IIIII)I -/
def xk_17 : List Instr := [.iload 1, .iload 3, .invokestatic 31, .istore 5, .iload 2, .iload 3, .invokestatic 31, .istore 6, .iload 0, .tableswitch 131 (0) (18) #[10, 14, 17, 21, 25, 29, 33, 37, 41, 49, 57, 69, 77, 86, 95, 104, 111, 118, 125], .iload 1, .iconst (-1), .ixor, .ireturn, .iload 1, .ineg, .ireturn, .iload 1, .iload 2, .iand, .ireturn, .iload 1, .iload 2, .ior, .ireturn, .iload 1, .iload 2, .ixor, .ireturn, .iload 1, .iload 2, .iadd, .ireturn, .iload 1, .iload 2, .isub, .ireturn, .iload 1, .iload 2, .imul, .ireturn, .iload 2, .ifCond .ne 45, .iconst (-1), .goto 48, .iload 1, .iload 2, .idiv, .ireturn, .iload 2, .ifCond .ne 53, .iload 1, .goto 56, .iload 1, .iload 2, .irem, .ireturn, .iload 2, .ifCond .ne 65, .iload 5, .ifCond .ge 63, .iconst (1), .goto 68, .iconst (-1), .goto 68, .iload 5, .iload 6, .idiv, .ireturn, .iload 2, .ifCond .ne 73, .iload 1, .goto 76, .iload 5, .iload 6, .irem, .ireturn, .iload 2, .iload 3, .if_icmp .lt 82, .iconst (0), .goto 85, .iload 1, .iload 2, .ishl, .ireturn, .iload 2, .iload 3, .if_icmp .lt 91, .iconst (0), .goto 94, .iload 1, .iload 2, .ishr, .ireturn, .iload 5, .iload 2, .iload 3, .if_icmp .lt 101, .iconst (31), .goto 102, .iload 2, .ishr, .ireturn, .iload 1, .iload 2, .if_icmp .ne 109, .iconst (1), .goto 110, .iconst (0), .ireturn, .iload 1, .iload 2, .if_icmp .ge 116, .iconst (1), .goto 117, .iconst (0), .ireturn, .iload 5, .iload 6, .if_icmp .ge 123, .iconst (1), .goto 124, .iconst (0), .ireturn, .iload 1, .iload 4, .ishl, .iload 2, .ior, .ireturn, .iload 1, .iload 2, .iload 3, .irem, .ishl, .iload 1, .iload 3, .iload 2, .iload 3, .irem, .isub, .ishr, .ior, .ireturn]
def xb_17 : List Nat := [0, 1, 2, 5, 7, 8, 9, 12, 14, 15, 104, 105, 106, 107, 108, 109, 110, 111, 112, 113, 114, 115, 116, 117, 118, 119, 120, 121, 122, 123, 124, 125, 126, 127, 128, 129, 130, 131, 132, 133, 134, 135, 136, 139, 140, 143, 144, 145, 146, 147, 148, 151, 152, 155, 156, 157, 158, 159, 160, 163, 165, 168, 169, 172, 173, 176, 178, 180, 181, 182, 183, 186, 187, 190, 192, 194, 195, 196, 197, 198, 201, 202, 205, 206, 207, 208, 209, 210, 211, 214, 215, 218, 219, 220, 221, 222, 224, 225, 226, 229, 231, 234, 235, 236, 237, 238, 239, 242, 243, 246, 247, 248, 249, 250, 253, 254, 257, 258, 259, 261, 263, 266, 267, 270, 271, 272, 273, 275, 276, 277, 278, 279, 280, 281, 282, 283, 284, 285, 286, 287, 288, 289, 290, 291, 292]
/-- BitSolverModel.great()I -/
def xk_18 : List Instr := [.iconst (0), .istore 1, .iload 1, .aload 0, .invokevirtual 3, .if_icmp .ge 19, .aload 0, .getfield 13, .iload 1, .aload 0, .iload 1, .invokevirtual 21, .ifCond .eq 15, .iconst (1), .goto 16, .iconst (0), .iastore, .iinc 1 (1), .goto 2, .aload 0, .invokevirtual 30, .ireturn]
def xb_18 : List Nat := [0, 1, 2, 3, 4, 7, 10, 11, 14, 15, 16, 17, 20, 23, 24, 27, 28, 29, 32, 35, 36, 39]
/-- BitSolverModel.has(I)Z -/
def xk_19 : List Instr := [.iload 1, .iconst (0), .aload 0, .getfield 0, .iconst (1), .isub, .invokestatic 20, .ireturn]
def xb_19 : List Nat := [0, 1, 2, 3, 6, 7, 8, 11]
/-- BitSolverModel.isIn(III)Z -/
def xk_20 : List Instr := [.iload 0, .iload 1, .if_icmp .lt 8, .iload 0, .iload 2, .if_icmp .gt 8, .iconst (1), .goto 9, .iconst (0), .ireturn]
def xb_20 : List Nat := [0, 1, 2, 5, 6, 7, 10, 11, 14, 15]
/-- BitSolverModel.isModel(I)Z -/
def xk_21 : List Instr := [.iconst (1), .istore 2, .iconst (0), .istore 3, .iload 3, .aload 0, .getfield 5, .if_icmp .ge 25, .iload 2, .ifCond .eq 21, .aload 0, .aload 0, .getfield 6, .iload 3, .iaload, .iload 1, .invokevirtual 7, .iconst (1), .if_icmp .ne 21, .iconst (1), .goto 22, .iconst (0), .istore 2, .iinc 3 (1), .goto 4, .iconst (0), .istore 3, .iload 3, .aload 0, .getfield 7, .if_icmp .ge 53, .iload 2, .ifCond .eq 49, .aload 0, .getfield 11, .iload 3, .baload, .ifCond .ne 47, .aload 0, .aload 0, .getfield 8, .iload 3, .iaload, .iload 1, .invokevirtual 7, .iconst (1), .if_icmp .ne 49, .iconst (1), .goto 50, .iconst (0), .istore 2, .iinc 3 (1), .goto 27, .iload 2, .ireturn]
def xb_21 : List Nat := [0, 1, 2, 3, 4, 5, 6, 9, 12, 13, 16, 17, 18, 21, 22, 23, 24, 27, 28, 31, 32, 35, 36, 37, 40, 43, 44, 45, 46, 47, 50, 53, 54, 57, 58, 61, 62, 63, 66, 67, 68, 71, 72, 73, 74, 77, 78, 81, 82, 85, 86, 87, 90, 93, 94]
/-- BitSolverModel.leave()Z -/
def xk_22 : List Instr := [.aload 0, .invokevirtual 23, .aload 0, .invokevirtual 25, .ifCond .le 7, .iconst (0), .ireturn, .iconst (0), .istore 1, .iload 1, .aload 0, .getfield 7, .if_icmp .ge 30, .aload 0, .getfield 11, .iload 1, .iconst (1), .bastore, .aload 0, .getfield 11, .iload 1, .aload 0, .invokevirtual 25, .ifCond .ne 26, .iconst (1), .goto 27, .iconst (0), .bastore, .iinc 1 (1), .goto 9, .iconst (1), .ireturn]
def xb_22 : List Nat := [0, 1, 4, 5, 8, 11, 12, 13, 14, 15, 16, 17, 20, 23, 24, 27, 28, 29, 30, 31, 34, 35, 36, 39, 42, 43, 46, 47, 48, 51, 54, 55]
/-- BitSolverModel.leaveNone()V -/
def xk_23 : List Instr := [.iconst (0), .istore 1, .iload 1, .iconst (8), .if_icmp .ge 12, .aload 0, .getfield 11, .iload 1, .iconst (0), .bastore, .iinc 1 (1), .goto 2, .return_]
def xb_23 : List Nat := [0, 1, 2, 3, 5, 8, 9, 12, 13, 14, 15, 18, 21]
/-- BitSolverModel.mask(I)I -/
def xk_24 : List Instr := [.iconst (1), .iload 0, .ishl, .iconst (1), .isub, .ireturn]
def xb_24 : List Nat := [0, 1, 2, 3, 4, 5]
/-- BitSolverModel.models()I -/
def xk_25 : List Instr := [.iconst (0), .istore 1, .iconst (0), .istore 2, .iload 2, .aload 0, .invokevirtual 3, .if_icmp .ge 20, .iload 1, .aload 0, .iload 2, .invokevirtual 21, .ifCond .eq 15, .iconst (1), .goto 16, .iconst (0), .iadd, .istore 1, .iinc 2 (1), .goto 4, .iload 1, .ireturn]
def xb_25 : List Nat := [0, 1, 2, 3, 4, 5, 6, 9, 12, 13, 14, 15, 18, 21, 22, 25, 26, 27, 28, 31, 34, 35]
/-- BitSolverModel.pop()I -/
def xk_26 : List Instr := [.aload 0, .getfield 9, .ifCond .ne 5, .iconst (-2), .ireturn, .aload 0, .dup, .getfield 9, .iconst (1), .isub, .putfield 9, .aload 0, .getfield 5, .aload 0, .getfield 10, .aload 0, .getfield 9, .iaload, .isub, .istore 1, .aload 0, .aload 0, .getfield 10, .aload 0, .getfield 9, .iaload, .putfield 5, .iload 1, .ireturn]
def xb_26 : List Nat := [0, 1, 4, 7, 9, 10, 11, 12, 15, 16, 17, 20, 21, 24, 25, 28, 29, 32, 33, 34, 35, 36, 37, 40, 41, 44, 45, 48, 49]
/-- BitSolverModel.push()I -/
def xk_27 : List Instr := [.aload 0, .getfield 9, .iconst (8), .if_icmp .ne 6, .iconst (-3), .ireturn, .aload 0, .getfield 10, .aload 0, .getfield 9, .aload 0, .getfield 5, .iastore, .aload 0, .dup, .getfield 9, .iconst (1), .iadd, .putfield 9, .aload 0, .getfield 9, .ireturn]
def xb_27 : List Nat := [0, 1, 4, 6, 9, 11, 12, 13, 16, 17, 20, 21, 24, 25, 26, 27, 30, 31, 32, 35, 36, 39]
/-- BitSolverModel.release()I -/
def xk_28 : List Instr := [.aload 0, .getfield 7, .istore 1, .aload 0, .iconst (0), .putfield 7, .iload 1, .ireturn]
def xb_28 : List Nat := [0, 1, 4, 5, 6, 7, 10, 11]
/-- BitSolverModel.same(II)I -/
def xk_29 : List Instr := [.aload 0, .iload 1, .invokevirtual 19, .ifCond .eq 17, .aload 0, .iload 2, .invokevirtual 19, .ifCond .eq 17, .aload 0, .getfield 1, .iload 1, .iaload, .aload 0, .getfield 1, .iload 2, .iaload, .if_icmp .eq 19, .iconst (-2), .ireturn, .iconst (1), .istore 3, .iconst (0), .istore 4, .iload 4, .aload 0, .invokevirtual 3, .if_icmp .ge 48, .iload 3, .ifCond .eq 44, .aload 0, .iload 4, .invokevirtual 21, .ifCond .eq 42, .aload 0, .iload 1, .iload 4, .invokevirtual 7, .aload 0, .iload 2, .iload 4, .invokevirtual 7, .if_icmp .ne 44, .iconst (1), .goto 45, .iconst (0), .istore 3, .iinc 4 (1), .goto 23, .iload 3, .ifCond .eq 52, .iconst (1), .goto 53, .iconst (0), .ireturn]
def xb_29 : List Nat := [0, 1, 2, 5, 8, 9, 10, 13, 16, 17, 20, 21, 22, 23, 26, 27, 28, 31, 33, 34, 35, 36, 37, 39, 41, 42, 45, 48, 49, 52, 53, 55, 58, 61, 62, 63, 65, 68, 69, 70, 72, 75, 78, 79, 82, 83, 84, 87, 90, 91, 94, 95, 98, 99]
/-- BitSolverModel.shrink()I -/
def xk_30 : List Instr := [.aload 0, .iconst (2), .putfield 16, .aload 0, .invokevirtual 3, .istore 1, .iload 1, .iconst (1), .if_icmp .le 90, .iload 1, .iconst (2), .idiv, .istore 1, .aload 0, .getfield 16, .istore 2, .iconst (0), .istore 3, .iload 3, .iload 1, .if_icmp .ge 89, .aload 0, .getfield 13, .iconst (2), .iload 3, .imul, .iaload, .istore 4, .aload 0, .getfield 13, .iconst (2), .iload 3, .imul, .iconst (1), .iadd, .iaload, .istore 5, .iload 4, .iload 5, .if_icmp .eq 82, .iload 2, .istore 6, .iload 6, .aload 0, .getfield 16, .if_icmp .ge 60, .aload 0, .getfield 14, .iload 6, .iaload, .iload 4, .if_icmp .ne 58, .aload 0, .getfield 15, .iload 6, .iaload, .iload 5, .if_icmp .eq 60, .iinc 6 (1), .goto 42, .iload 6, .aload 0, .getfield 16, .if_icmp .ne 80, .aload 0, .getfield 14, .iload 6, .iload 4, .iastore, .aload 0, .getfield 15, .iload 6, .iload 5, .iastore, .aload 0, .dup, .getfield 16, .iconst (1), .iadd, .putfield 16, .iload 6, .istore 4, .aload 0, .getfield 13, .iload 3, .iload 4, .iastore, .iinc 3 (1), .goto 18, .goto 6, .aload 0, .getfield 16, .iconst (2), .isub, .ireturn]
def xb_30 : List Nat := [0, 1, 2, 5, 6, 9, 10, 11, 12, 15, 16, 17, 18, 19, 20, 23, 24, 25, 26, 27, 28, 31, 32, 35, 36, 37, 38, 39, 41, 42, 45, 46, 47, 48, 49, 50, 51, 53, 55, 57, 60, 61, 63, 65, 66, 69, 72, 73, 76, 78, 79, 81, 84, 85, 88, 90, 91, 93, 96, 99, 102, 104, 105, 108, 111, 112, 115, 117, 119, 120, 121, 124, 126, 128, 129, 130, 131, 134, 135, 136, 139, 141, 143, 144, 147, 148, 150, 151, 154, 157, 160, 161, 164, 165, 166]
/-- BitSolverModel.signed(II)I -/
def xk_31 : List Instr := [.iload 0, .iconst (32), .iload 1, .isub, .ishl, .iconst (32), .iload 1, .isub, .ishr, .ireturn]
def xb_31 : List Nat := [0, 1, 3, 4, 5, 6, 8, 9, 10, 11]
/-- BitSolverModel.size(II)I -/
def xk_32 : List Instr := [.aload 0, .iload 1, .invokevirtual 19, .ifCond .eq 14, .iload 2, .iconst (0), .aload 0, .getfield 1, .iload 1, .iaload, .iconst (1), .isub, .invokestatic 20, .ifCond .ne 16, .iconst (-2), .ireturn, .iconst (0), .istore 3, .iload 3, .aload 0, .invokevirtual 3, .if_icmp .ge 36, .aload 0, .getfield 13, .iload 3, .aload 0, .iload 1, .iload 3, .invokevirtual 7, .iload 2, .ishr, .iconst (1), .iand, .iastore, .iinc 3 (1), .goto 18, .aload 0, .invokevirtual 30, .ireturn]
def xb_32 : List Nat := [0, 1, 2, 5, 8, 9, 10, 11, 14, 15, 16, 17, 18, 21, 24, 26, 27, 28, 29, 30, 31, 34, 37, 38, 41, 42, 43, 44, 45, 48, 49, 50, 51, 52, 53, 56, 59, 60, 63]
/-- BitSolverModel.value(II)I -/
def xk_33 : List Instr := [.aload 0, .iload 1, .invokevirtual 19, .ifCond .ne 6, .iconst (-2), .ireturn, .iconst (0), .istore 3, .iconst (0), .istore 4, .iload 4, .aload 0, .invokevirtual 3, .if_icmp .ge 29, .aload 0, .iload 4, .invokevirtual 21, .ifCond .eq 27, .iload 3, .iload 2, .if_icmp .ne 26, .aload 0, .iload 1, .iload 4, .invokevirtual 7, .ireturn, .iinc 3 (1), .iinc 4 (1), .goto 10, .iconst (-1), .ireturn]
def xb_33 : List Nat := [0, 1, 2, 5, 8, 10, 11, 12, 13, 14, 16, 18, 19, 22, 25, 26, 28, 31, 34, 35, 36, 39, 40, 41, 43, 46, 47, 50, 53, 56, 57]
/-- BitSolverModel.values(I)I -/
def xk_34 : List Instr := [.aload 0, .iload 1, .invokevirtual 19, .ifCond .ne 6, .iconst (-2), .ireturn, .iconst (0), .istore 2, .iload 2, .iconst (4096), .if_icmp .ge 18, .aload 0, .getfield 12, .iload 2, .iconst (0), .bastore, .iinc 2 (1), .goto 8, .iconst (0), .istore 2, .iconst (0), .istore 3, .iload 3, .aload 0, .invokevirtual 3, .if_icmp .ge 49, .aload 0, .iload 3, .invokevirtual 21, .ifCond .eq 47, .aload 0, .getfield 12, .aload 0, .iload 1, .iload 3, .invokevirtual 7, .baload, .ifCond .ne 47, .aload 0, .getfield 12, .aload 0, .iload 1, .iload 3, .invokevirtual 7, .iconst (1), .bastore, .iinc 2 (1), .iinc 3 (1), .goto 22, .iload 2, .ireturn]
def xb_34 : List Nat := [0, 1, 2, 5, 8, 10, 11, 12, 13, 14, 17, 20, 21, 24, 25, 26, 27, 30, 33, 34, 35, 36, 37, 38, 39, 42, 45, 46, 47, 50, 53, 54, 57, 58, 59, 60, 63, 64, 67, 68, 71, 72, 73, 74, 77, 78, 79, 82, 85, 88, 89]
/-- BitSolverModel.where(II)I -/
def xk_35 : List Instr := [.aload 0, .iload 1, .invokevirtual 19, .ifCond .eq 13, .iload 2, .iconst (0), .aload 0, .getfield 1, .iload 1, .iaload, .invokestatic 24, .invokestatic 20, .ifCond .ne 15, .iconst (-2), .ireturn, .iconst (0), .istore 3, .iconst (0), .istore 4, .iload 4, .aload 0, .invokevirtual 3, .if_icmp .ge 38, .aload 0, .iload 4, .invokevirtual 21, .ifCond .eq 36, .aload 0, .iload 1, .iload 4, .invokevirtual 7, .iload 2, .if_icmp .ne 35, .iload 3, .ireturn, .iinc 3 (1), .iinc 4 (1), .goto 19, .iconst (-1), .ireturn]
def xb_35 : List Nat := [0, 1, 2, 5, 8, 9, 10, 11, 14, 15, 16, 19, 22, 25, 27, 28, 29, 30, 31, 33, 35, 36, 39, 42, 43, 45, 48, 51, 52, 53, 55, 58, 59, 62, 63, 64, 67, 70, 73, 74]
/-- BitSolverModel.widen(IIZ)I -/
def xk_36 : List Instr := [.aload 0, .iload 1, .invokevirtual 19, .ifCond .eq 12, .iload 2, .aload 0, .getfield 1, .iload 1, .iaload, .iconst (12), .invokestatic 20, .ifCond .ne 14, .iconst (-2), .ireturn, .aload 0, .getfield 0, .iconst (24), .if_icmp .ne 20, .iconst (-3), .ireturn, .aload 0, .iload 2, .iconst (0), .invokevirtual 2, .istore 4, .iconst (0), .istore 5, .iload 5, .aload 0, .invokevirtual 3, .if_icmp .ge 60, .aload 0, .getfield 3, .iconst (4096), .iload 4, .imul, .iload 5, .iadd, .iload 3, .ifCond .eq 50, .aload 0, .iload 1, .iload 5, .invokevirtual 7, .aload 0, .getfield 1, .iload 1, .iaload, .invokestatic 31, .goto 54, .aload 0, .iload 1, .iload 5, .invokevirtual 7, .iload 2, .invokestatic 24, .iand, .iastore, .iinc 5 (1), .goto 27, .iload 4, .ireturn]
def xb_36 : List Nat := [0, 1, 2, 5, 8, 9, 10, 13, 14, 15, 17, 20, 23, 25, 26, 27, 30, 32, 35, 37, 38, 39, 40, 41, 44, 46, 47, 49, 51, 52, 55, 58, 59, 62, 65, 67, 68, 70, 71, 72, 75, 76, 77, 79, 82, 83, 86, 87, 88, 91, 94, 95, 96, 98, 101, 102, 105, 106, 107, 110, 113, 115]
/-- BitSolverModel.without(IZ)I -/
def xk_37 : List Instr := [.aload 0, .iload 1, .invokevirtual 19, .ifCond .eq 9, .aload 0, .getfield 2, .iload 1, .baload, .ifCond .ne 11, .iconst (-2), .ireturn, .iconst (0), .istore 3, .iload 1, .iconst (1), .iadd, .istore 4, .iload 4, .aload 0, .getfield 0, .if_icmp .ge 37, .iload 3, .aload 0, .getfield 2, .iload 4, .baload, .ifCond .eq 32, .aload 0, .getfield 1, .iload 4, .iaload, .goto 33, .iconst (0), .iadd, .istore 3, .iinc 4 (1), .goto 17, .iconst (0), .istore 4, .iconst (0), .istore 5, .iload 5, .aload 0, .invokevirtual 3, .if_icmp .ge 107, .iload 5, .iload 3, .ishr, .aload 0, .getfield 1, .iload 1, .iaload, .invokestatic 24, .iand, .ifCond .ne 105, .iconst (0), .istore 6, .iconst (0), .istore 7, .iload 7, .aload 0, .getfield 1, .iload 1, .iaload, .invokestatic 24, .if_icmp .gt 82, .iload 6, .aload 0, .iload 5, .iload 7, .iload 3, .ishl, .ior, .invokevirtual 21, .ifCond .eq 77, .iconst (1), .goto 78, .iconst (0), .iadd, .istore 6, .iinc 7 (1), .goto 59, .iload 4, .iload 2, .ifCond .eq 98, .iload 6, .aload 0, .getfield 1, .iload 1, .iaload, .invokestatic 24, .iconst (1), .iadd, .if_icmp .ne 96, .iconst (1), .goto 103, .iconst (0), .goto 103, .iload 6, .ifCond .le 102, .iconst (1), .goto 103, .iconst (0), .iadd, .istore 4, .iinc 5 (1), .goto 41, .iload 4, .ireturn]
def xb_37 : List Nat := [0, 1, 2, 5, 8, 9, 12, 13, 14, 17, 19, 20, 21, 22, 23, 24, 25, 27, 29, 30, 33, 36, 37, 38, 41, 43, 44, 47, 48, 51, 53, 54, 57, 58, 59, 60, 63, 66, 67, 69, 70, 72, 74, 75, 78, 81, 83, 84, 85, 86, 89, 90, 91, 94, 95, 98, 99, 101, 102, 104, 106, 107, 110, 111, 112, 115, 118, 120, 121, 123, 125, 126, 127, 128, 131, 134, 135, 138, 139, 140, 142, 145, 148, 150, 151, 154, 156, 157, 160, 161, 162, 165, 166, 167, 170, 171, 174, 175, 178, 180, 183, 184, 187, 188, 189, 191, 194, 197, 199]
/-- BitSolverModel.word(I)I -/
def xk_38 : List Instr := [.iload 1, .iconst (1), .iconst (12), .invokestatic 20, .ifCond .ne 7, .iconst (-2), .ireturn, .aload 0, .getfield 0, .iconst (24), .if_icmp .eq 17, .aload 0, .getfield 4, .iload 1, .iadd, .iconst (12), .if_icmp .le 19, .iconst (-3), .ireturn, .aload 0, .dup, .getfield 4, .iload 1, .iadd, .putfield 4, .iconst (0), .istore 2, .iload 2, .aload 0, .getfield 0, .if_icmp .ge 60, .aload 0, .invokevirtual 3, .iconst (1), .isub, .istore 3, .iload 3, .ifCond .lt 58, .aload 0, .getfield 3, .iconst (4096), .iload 2, .imul, .iload 3, .iadd, .aload 0, .getfield 3, .iconst (4096), .iload 2, .imul, .iload 3, .iload 1, .ishr, .iadd, .iaload, .iastore, .iinc 3 (-1), .goto 36, .iinc 2 (1), .goto 27, .aload 0, .iload 1, .iconst (1), .invokevirtual 2, .istore 2, .iconst (0), .istore 3, .iload 3, .aload 0, .invokevirtual 3, .if_icmp .ge 85, .aload 0, .getfield 3, .iconst (4096), .iload 2, .imul, .iload 3, .iadd, .iload 3, .iload 1, .invokestatic 24, .iand, .iastore, .iinc 3 (1), .goto 67, .iload 2, .ireturn]
def xb_38 : List Nat := [0, 1, 2, 4, 7, 10, 12, 13, 14, 17, 19, 22, 23, 26, 27, 28, 30, 33, 35, 36, 37, 38, 41, 42, 43, 46, 47, 48, 49, 50, 53, 56, 57, 60, 61, 62, 63, 64, 67, 68, 71, 74, 75, 76, 77, 78, 79, 82, 85, 86, 87, 88, 89, 90, 91, 92, 93, 96, 99, 102, 105, 106, 107, 108, 111, 112, 113, 114, 115, 116, 119, 122, 123, 126, 129, 130, 131, 132, 133, 134, 135, 138, 139, 140, 143, 146, 147]
/-- BitSolverLaw.law([I)Z -/
def xk_39 : List Instr := [.new 1, .dup, .invokespecial 63, .astore 1, .new 0, .dup, .invokespecial 0, .astore 2, .iconst (0), .istore 3, .iload 3, .aload 0, .arraylength, .iconst (4), .isub, .if_icmp .gt 570, .aload 0, .iload 3, .iaload, .iconst (31), .iand, .tableswitch 568 (0) (25) #[22, 29, 46, 73, 110, 147, 184, 229, 246, 263, 280, 287, 294, 301, 308, 335, 362, 397, 414, 431, 458, 465, 482, 509, 516, 551], .aload 1, .invokevirtual 71, .aload 2, .invokevirtual 11, .if_icmp .eq 568, .iconst (0), .ireturn, .aload 1, .aload 0, .iload 3, .iconst (1), .iadd, .iaload, .invokevirtual 101, .aload 2, .aload 0, .iload 3, .iconst (1), .iadd, .iaload, .invokevirtual 38, .if_icmp .eq 568, .iconst (0), .ireturn, .aload 1, .aload 0, .iload 3, .iconst (1), .iadd, .iaload, .aload 0, .iload 3, .iconst (2), .iadd, .iaload, .invokevirtual 72, .aload 2, .aload 0, .iload 3, .iconst (1), .iadd, .iaload, .aload 0, .iload 3, .iconst (2), .iadd, .iaload, .invokevirtual 12, .if_icmp .eq 568, .iconst (0), .ireturn, .aload 1, .aload 0, .iload 3, .iconst (1), .iadd, .iaload, .aload 0, .iload 3, .iconst (2), .iadd, .iaload, .aload 0, .iload 3, .iconst (3), .iadd, .iaload, .invokevirtual 64, .aload 2, .aload 0, .iload 3, .iconst (1), .iadd, .iaload, .aload 0, .iload 3, .iconst (2), .iadd, .iaload, .aload 0, .iload 3, .iconst (3), .iadd, .iaload, .invokevirtual 1, .if_icmp .eq 568, .iconst (0), .ireturn, .aload 1, .aload 0, .iload 3, .iconst (1), .iadd, .iaload, .aload 0, .iload 3, .iconst (2), .iadd, .iaload, .aload 0, .iload 3, .iconst (3), .iadd, .iaload, .invokevirtual 69, .aload 2, .aload 0, .iload 3, .iconst (1), .iadd, .iaload, .aload 0, .iload 3, .iconst (2), .iadd, .iaload, .aload 0, .iload 3, .iconst (3), .iadd, .iaload, .invokevirtual 9, .if_icmp .eq 568, .iconst (0), .ireturn, .aload 1, .aload 0, .iload 3, .iconst (1), .iadd, .iaload, .aload 0, .iload 3, .iconst (2), .iadd, .iaload, .aload 0, .iload 3, .iconst (3), .iadd, .iaload, .invokevirtual 77, .aload 2, .aload 0, .iload 3, .iconst (1), .iadd, .iaload, .aload 0, .iload 3, .iconst (2), .iadd, .iaload, .aload 0, .iload 3, .iconst (3), .iadd, .iaload, .invokevirtual 16, .if_icmp .eq 568, .iconst (0), .ireturn, .aload 1, .aload 0, .iload 3, .iconst (1), .iadd, .iaload, .aload 0, .iload 3, .iconst (2), .iadd, .iaload, .aload 0, .iload 3, .iconst (3), .iadd, .iaload, .ifCond .eq 203, .iconst (1), .goto 204, .iconst (0), .invokevirtual 99, .aload 2, .aload 0, .iload 3, .iconst (1), .iadd, .iaload, .aload 0, .iload 3, .iconst (2), .iadd, .iaload, .aload 0, .iload 3, .iconst (3), .iadd, .iaload, .ifCond .eq 224, .iconst (1), .goto 225, .iconst (0), .invokevirtual 36, .if_icmp .eq 568, .iconst (0), .ireturn, .aload 1, .aload 0, .iload 3, .iconst (1), .iadd, .iaload, .invokevirtual 66, .aload 2, .aload 0, .iload 3, .iconst (1), .iadd, .iaload, .invokevirtual 5, .if_icmp .eq 568, .iconst (0), .ireturn, .aload 1, .aload 0, .iload 3, .iconst (1), .iadd, .iaload, .invokevirtual 70, .aload 2, .aload 0, .iload 3, .iconst (1), .iadd, .iaload, .invokevirtual 10, .if_icmp .eq 568, .iconst (0), .ireturn, .aload 1, .aload 0, .iload 3, .iconst (1), .iadd, .iaload, .invokevirtual 65, .aload 2, .aload 0, .iload 3, .iconst (1), .iadd, .iaload, .invokevirtual 4, .if_icmp .eq 568, .iconst (0), .ireturn, .aload 1, .invokevirtual 91, .aload 2, .invokevirtual 28, .if_icmp .eq 568, .iconst (0), .ireturn, .aload 1, .invokevirtual 89, .aload 2, .invokevirtual 27, .if_icmp .eq 568, .iconst (0), .ireturn, .aload 1, .invokevirtual 88, .aload 2, .invokevirtual 26, .if_icmp .eq 568, .iconst (0), .ireturn, .aload 1, .invokevirtual 86, .aload 2, .invokevirtual 25, .if_icmp .eq 568, .iconst (0), .ireturn, .aload 1, .aload 0, .iload 3, .iconst (1), .iadd, .iaload, .aload 0, .iload 3, .iconst (2), .iadd, .iaload, .invokevirtual 96, .aload 2, .aload 0, .iload 3, .iconst (1), .iadd, .iaload, .aload 0, .iload 3, .iconst (2), .iadd, .iaload, .invokevirtual 33, .if_icmp .eq 568, .iconst (0), .ireturn, .aload 1, .aload 0, .iload 3, .iconst (1), .iadd, .iaload, .aload 0, .iload 3, .iconst (2), .iadd, .iaload, .invokevirtual 98, .aload 2, .aload 0, .iload 3, .iconst (1), .iadd, .iaload, .aload 0, .iload 3, .iconst (2), .iadd, .iaload, .invokevirtual 35, .if_icmp .eq 568, .iconst (0), .ireturn, .aload 1, .aload 0, .iload 3, .iconst (1), .iadd, .iaload, .aload 0, .iload 3, .iconst (2), .iadd, .iaload, .ifCond .eq 376, .iconst (1), .goto 377, .iconst (0), .invokevirtual 67, .aload 2, .aload 0, .iload 3, .iconst (1), .iadd, .iaload, .aload 0, .iload 3, .iconst (2), .iadd, .iaload, .ifCond .eq 392, .iconst (1), .goto 393, .iconst (0), .invokevirtual 6, .if_icmp .eq 568, .iconst (0), .ireturn, .aload 1, .aload 0, .iload 3, .iconst (1), .iadd, .iaload, .invokevirtual 97, .aload 2, .aload 0, .iload 3, .iconst (1), .iadd, .iaload, .invokevirtual 34, .if_icmp .eq 568, .iconst (0), .ireturn, .aload 1, .aload 0, .iload 3, .iconst (1), .iadd, .iaload, .invokevirtual 68, .aload 2, .aload 0, .iload 3, .iconst (1), .iadd, .iaload, .invokevirtual 8, .if_icmp .eq 568, .iconst (0), .ireturn, .aload 1, .aload 0, .iload 3, .iconst (1), .iadd, .iaload, .aload 0, .iload 3, .iconst (2), .iadd, .iaload, .invokevirtual 92, .aload 2, .aload 0, .iload 3, .iconst (1), .iadd, .iaload, .aload 0, .iload 3, .iconst (2), .iadd, .iaload, .invokevirtual 29, .if_icmp .eq 568, .iconst (0), .ireturn, .aload 1, .invokevirtual 75, .aload 2, .invokevirtual 14, .if_icmp .eq 568, .iconst (0), .ireturn, .aload 1, .aload 0, .iload 3, .iconst (1), .iadd, .iaload, .invokevirtual 73, .aload 2, .aload 0, .iload 3, .iconst (1), .iadd, .iaload, .invokevirtual 13, .if_icmp .eq 568, .iconst (0), .ireturn, .aload 1, .aload 0, .iload 3, .iconst (1), .iadd, .iaload, .aload 0, .iload 3, .iconst (2), .iadd, .iaload, .invokevirtual 94, .aload 2, .aload 0, .iload 3, .iconst (1), .iadd, .iaload, .aload 0, .iload 3, .iconst (2), .iadd, .iaload, .invokevirtual 32, .if_icmp .eq 568, .iconst (0), .ireturn, .aload 1, .invokevirtual 81, .aload 2, .invokevirtual 18, .if_icmp .eq 568, .iconst (0), .ireturn, .aload 1, .aload 0, .iload 3, .iconst (1), .iadd, .iaload, .aload 0, .iload 3, .iconst (2), .iadd, .iaload, .ifCond .eq 530, .iconst (1), .goto 531, .iconst (0), .invokevirtual 100, .aload 2, .aload 0, .iload 3, .iconst (1), .iadd, .iaload, .aload 0, .iload 3, .iconst (2), .iadd, .iaload, .ifCond .eq 546, .iconst (1), .goto 547, .iconst (0), .invokevirtual 37, .if_icmp .eq 568, .iconst (0), .ireturn, .aload 1, .aload 0, .iload 3, .iconst (1), .iadd, .iaload, .invokevirtual 76, .aload 2, .aload 0, .iload 3, .iconst (1), .iadd, .iaload, .invokevirtual 15, .if_icmp .eq 568, .iconst (0), .ireturn, .iinc 3 (4), .goto 10, .iconst (1), .ireturn]
def xb_39 : List Nat := [0, 3, 4, 7, 8, 11, 12, 15, 16, 17, 18, 19, 20, 21, 22, 23, 26, 27, 28, 29, 31, 32, 152, 153, 156, 157, 160, 163, 164, 165, 166, 167, 168, 169, 170, 171, 174, 175, 176, 177, 178, 179, 180, 183, 186, 187, 188, 189, 190, 191, 192, 193, 194, 195, 196, 197, 198, 199, 202, 203, 204, 205, 206, 207, 208, 209, 210, 211, 212, 213, 216, 219, 220, 221, 222, 223, 224, 225, 226, 227, 228, 229, 230, 231, 232, 233, 234, 235, 236, 237, 240, 241, 242, 243, 244, 245, 246, 247, 248, 249, 250, 251, 252, 253, 254, 255, 256, 259, 262, 263, 264, 265, 266, 267, 268, 269, 270, 271, 272, 273, 274, 275, 276, 277, 278, 279, 280, 283, 284, 285, 286, 287, 288, 289, 290, 291, 292, 293, 294, 295, 296, 297, 298, 299, 302, 305, 306, 307, 308, 309, 310, 311, 312, 313, 314, 315, 316, 317, 318, 319, 320, 321, 322, 323, 326, 327, 328, 329, 330, 331, 332, 333, 334, 335, 336, 337, 338, 339, 340, 341, 342, 345, 348, 349, 350, 351, 352, 353, 354, 355, 356, 357, 358, 359, 360, 361, 362, 363, 364, 365, 366, 369, 370, 373, 374, 377, 378, 379, 380, 381, 382, 383, 384, 385, 386, 387, 388, 389, 390, 391, 392, 393, 396, 397, 400, 401, 404, 407, 408, 409, 410, 411, 412, 413, 414, 415, 418, 419, 420, 421, 422, 423, 424, 427, 430, 431, 432, 433, 434, 435, 436, 437, 438, 441, 442, 443, 444, 445, 446, 447, 450, 453, 454, 455, 456, 457, 458, 459, 460, 461, 464, 465, 466, 467, 468, 469, 470, 473, 476, 477, 478, 479, 482, 483, 486, 489, 490, 491, 492, 495, 496, 499, 502, 503, 504, 505, 508, 509, 512, 515, 516, 517, 518, 521, 522, 525, 528, 529, 530, 531, 532, 533, 534, 535, 536, 537, 538, 539, 540, 541, 544, 545, 546, 547, 548, 549, 550, 551, 552, 553, 554, 555, 558, 561, 562, 563, 564, 565, 566, 567, 568, 569, 570, 571, 572, 573, 574, 577, 578, 579, 580, 581, 582, 583, 584, 585, 586, 587, 588, 591, 594, 595, 596, 597, 598, 599, 600, 601, 602, 603, 604, 605, 606, 607, 610, 611, 614, 615, 618, 619, 620, 621, 622, 623, 624, 625, 626, 627, 628, 629, 632, 633, 636, 637, 640, 643, 644, 645, 646, 647, 648, 649, 650, 651, 654, 655, 656, 657, 658, 659, 660, 663, 666, 667, 668, 669, 670, 671, 672, 673, 674, 677, 678, 679, 680, 681, 682, 683, 686, 689, 690, 691, 692, 693, 694, 695, 696, 697, 698, 699, 700, 701, 702, 705, 706, 707, 708, 709, 710, 711, 712, 713, 714, 715, 716, 719, 722, 723, 724, 725, 728, 729, 732, 735, 736, 737, 738, 739, 740, 741, 742, 743, 746, 747, 748, 749, 750, 751, 752, 755, 758, 759, 760, 761, 762, 763, 764, 765, 766, 767, 768, 769, 770, 771, 774, 775, 776, 777, 778, 779, 780, 781, 782, 783, 784, 785, 788, 791, 792, 793, 794, 797, 798, 801, 804, 805, 806, 807, 808, 809, 810, 811, 812, 813, 814, 815, 816, 817, 820, 821, 824, 825, 828, 829, 830, 831, 832, 833, 834, 835, 836, 837, 838, 839, 842, 843, 846, 847, 850, 853, 854, 855, 856, 857, 858, 859, 860, 861, 864, 865, 866, 867, 868, 869, 870, 873, 876, 877, 878, 881, 884, 885]
/-- java/lang/Integer.bitCount(I)I -/
def xk_40 : List Instr := [.iload 0, .iload 0, .iconst (1), .iushr, .iconst (1431655765), .iand, .isub, .istore 0, .iload 0, .iconst (858993459), .iand, .iload 0, .iconst (2), .iushr, .iconst (858993459), .iand, .iadd, .istore 0, .iload 0, .iload 0, .iconst (4), .iushr, .iadd, .iconst (252645135), .iand, .istore 0, .iload 0, .iload 0, .iconst (8), .iushr, .iadd, .istore 0, .iload 0, .iload 0, .iconst (16), .iushr, .iadd, .istore 0, .iload 0, .iconst (63), .iand, .ireturn]
def xb_40 : List Nat := [0, 1, 2, 3, 4, 7, 8, 9, 10, 11, 14, 15, 16, 17, 18, 21, 22, 23, 24, 25, 26, 27, 28, 29, 32, 33, 34, 35, 36, 38, 39, 40, 41, 42, 43, 45, 46, 47, 48, 49, 51, 52]
/-- java/util/Arrays.fill([IIII)V -/
def xk_41 : List Instr := [.aload 0, .arraylength, .iload 1, .iload 2, .invokestatic 42, .iload 1, .istore 4, .iload 4, .iload 2, .if_icmp .ge 16, .aload 0, .iload 4, .iload 3, .iastore, .iinc 4 (1), .goto 7, .return_]
def xb_41 : List Nat := [0, 1, 2, 3, 4, 7, 8, 10, 12, 13, 16, 17, 19, 20, 21, 24, 27]
/-- java/util/Arrays.rangeCheck(III)V -/
def xk_42 : List Instr := [.iload 1, .iload 2, .if_icmp .le 21, .nop, .dup, .nop, .dup, .nop, .nop, .nop, .iload 1, .nop, .nop, .nop, .iload 2, .nop, .nop, .nop, .nop, .nop, .nop, .iload 1, .ifCond .ge 28, .nop, .dup, .iload 1, .nop, .nop, .iload 2, .iload 0, .if_icmp .le 36, .nop, .dup, .iload 2, .nop, .nop, .return_]
def xb_42 : List Nat := [0, 1, 2, 5, 8, 9, 12, 13, 16, 18, 21, 22, 25, 27, 30, 31, 34, 36, 39, 42, 45, 46, 47, 50, 53, 54, 55, 58, 59, 60, 61, 64, 67, 68, 69, 72, 73]
/-- BitSolver$Acts.answer(IIIII)I -/
def xk_43 : List Instr := [.iload 1, .invokestatic 84, .istore 5, .iload 0, .tableswitch 148 (0) (19) #[5, 11, 16, 20, 24, 28, 34, 40, 46, 54, 62, 72, 82, 93, 102, 112, 119, 126, 137, 143], .iload 2, .iconst (-1), .ixor, .iload 5, .iand, .ireturn, .iload 2, .ineg, .iload 5, .iand, .ireturn, .iload 2, .iload 3, .iand, .ireturn, .iload 2, .iload 3, .ior, .ireturn, .iload 2, .iload 3, .ixor, .ireturn, .iload 2, .iload 3, .iadd, .iload 5, .iand, .ireturn, .iload 2, .iload 3, .isub, .iload 5, .iand, .ireturn, .iload 2, .iload 3, .imul, .iload 5, .iand, .ireturn, .iload 3, .ifCond .ne 50, .iload 5, .goto 53, .iload 2, .iload 3, .idiv, .ireturn, .iload 3, .ifCond .ne 58, .iload 2, .goto 61, .iload 2, .iload 3, .irem, .ireturn, .iload 2, .iload 1, .invokestatic 46, .iload 3, .iload 1, .invokestatic 46, .invokestatic 48, .iload 5, .iand, .ireturn, .iload 2, .iload 1, .invokestatic 46, .iload 3, .iload 1, .invokestatic 46, .invokestatic 47, .iload 5, .iand, .ireturn, .iload 3, .iload 1, .if_icmp .lt 87, .iconst (0), .goto 92, .iload 2, .iload 3, .ishl, .iload 5, .iand, .ireturn, .iload 3, .iload 1, .if_icmp .lt 98, .iconst (0), .goto 101, .iload 2, .iload 3, .ishr, .ireturn, .iload 2, .iload 1, .invokestatic 46, .iload 3, .iload 1, .invokestatic 2002, .ishr, .iload 5, .iand, .ireturn, .iload 2, .iload 3, .if_icmp .ne 117, .iconst (1), .goto 118, .iconst (0), .ireturn, .iload 2, .iload 3, .if_icmp .ge 124, .iconst (1), .goto 125, .iconst (0), .ireturn, .iload 2, .iload 1, .invokestatic 46, .iload 3, .iload 1, .invokestatic 46, .if_icmp .ge 135, .iconst (1), .goto 136, .iconst (0), .ireturn, .iload 2, .iload 4, .ishl, .iload 3, .ior, .ireturn, .iload 2, .iload 3, .iload 1, .invokestatic 44, .ireturn, .iconst (0), .ireturn]
def xb_43 : List Nat := [0, 1, 4, 6, 7, 100, 101, 102, 103, 105, 106, 107, 108, 109, 111, 112, 113, 114, 115, 116, 117, 118, 119, 120, 121, 122, 123, 124, 125, 126, 127, 128, 130, 131, 132, 133, 134, 135, 137, 138, 139, 140, 141, 142, 144, 145, 146, 147, 150, 152, 155, 156, 157, 158, 159, 160, 163, 164, 167, 168, 169, 170, 171, 172, 173, 176, 177, 178, 181, 184, 186, 187, 188, 189, 190, 193, 194, 195, 198, 201, 203, 204, 205, 206, 207, 210, 211, 214, 215, 216, 217, 219, 220, 221, 222, 223, 226, 227, 230, 231, 232, 233, 234, 235, 236, 239, 240, 241, 244, 245, 247, 248, 249, 250, 251, 254, 255, 258, 259, 260, 261, 262, 265, 266, 269, 270, 271, 272, 273, 276, 277, 278, 281, 284, 285, 288, 289, 290, 291, 293, 294, 295, 296, 297, 298, 299, 300, 303, 304, 305]
/-- BitSolver$Acts.around(III)I -/
def xk_44 : List Instr := [.iload 2, .iconst (1), .if_icmp .ge 5, .iload 0, .ireturn, .iload 1, .iload 2, .irem, .istore 3, .iload 0, .iload 3, .ishl, .iload 0, .iload 2, .iload 3, .isub, .ishr, .ior, .iload 2, .invokestatic 84, .iand, .ireturn]
def xb_44 : List Nat := [0, 1, 2, 5, 6, 7, 8, 9, 10, 11, 12, 13, 14, 15, 16, 17, 18, 19, 20, 21, 24, 25]
/-- BitSolver$Acts.hasOne(I)Z -/
def xk_45 : List Instr := [.iload 0, .ifCond .eq 5, .iload 0, .iconst (1), .if_icmp .ne 7, .iconst (1), .goto 8, .iconst (0), .ireturn]
def xb_45 : List Nat := [0, 1, 4, 5, 6, 9, 10, 13, 14]
/-- BitSolver$Acts.signed(II)I -/
def xk_46 : List Instr := [.iload 0, .iconst (32), .iload 1, .isub, .ishl, .iconst (32), .iload 1, .isub, .ishr, .ireturn]
def xb_46 : List Nat := [0, 1, 3, 4, 5, 6, 8, 9, 10, 11]
/-- BitSolver$Acts.signedLeftOver(II)I -/
def xk_47 : List Instr := [.iload 1, .ifCond .ne 4, .iload 0, .goto 7, .iload 0, .iload 1, .irem, .ireturn]
def xb_47 : List Nat := [0, 1, 4, 5, 8, 9, 10, 11]
/-- BitSolver$Acts.signedQuotient(II)I -/
def xk_48 : List Instr := [.iload 1, .ifCond .ne 8, .iload 0, .ifCond .ge 6, .iconst (1), .goto 7, .iconst (-1), .ireturn, .iload 0, .iload 1, .idiv, .ireturn]
def xb_48 : List Nat := [0, 1, 4, 5, 8, 9, 12, 13, 14, 15, 16, 17]
/-- BitSolver$Acts.widthOf(III)I -/
def xk_49 : List Instr := [.iload 0, .ifCond .lt 5, .iload 0, .iconst (19), .if_icmp .le 7, .iconst (-2), .ireturn, .iload 0, .iconst (18), .if_icmp .ne 14, .iload 1, .iload 2, .iadd, .ireturn, .iload 1, .iload 2, .if_icmp .eq 19, .iconst (-2), .ireturn, .iload 0, .iconst (15), .if_icmp .lt 27, .iload 0, .iconst (17), .if_icmp .gt 27, .iconst (1), .goto 28, .iload 1, .ireturn]
def xb_49 : List Nat := [0, 1, 4, 5, 7, 10, 12, 13, 14, 16, 19, 20, 21, 22, 23, 24, 25, 28, 30, 31, 32, 34, 37, 38, 40, 43, 44, 47, 48]
/-- BitSolver$Diagram.<init>()V -/
def xk_50 : List Instr := [.aload 0, .invokespecial 1000, .aload 0, .new 3, .dup, .iconst (4096), .invokespecial 54, .putfield 64, .aload 0, .new 3, .dup, .iconst (2048), .invokespecial 54, .putfield 65, .aload 0, .new 3, .dup, .iconst (2048), .invokespecial 54, .putfield 66, .aload 0, .iconst (2), .putfield 67, .return_]
def xb_50 : List Nat := [0, 1, 4, 5, 8, 9, 12, 15, 18, 19, 22, 23, 26, 29, 32, 33, 36, 37, 40, 43, 46, 47, 48, 51]
/-- BitSolver$Diagram.begin(I)V -/
def xk_51 : List Instr := [.aload 0, .getfield 64, .iconst (1), .iload 1, .ishl, .invokevirtual 60, .aload 0, .getfield 65, .iconst (2048), .invokevirtual 60, .aload 0, .getfield 66, .iconst (2048), .invokevirtual 60, .aload 0, .iconst (2), .putfield 67, .return_]
def xb_51 : List Nat := [0, 1, 4, 5, 6, 7, 10, 11, 14, 17, 20, 21, 24, 27, 30, 31, 32, 35]
/-- BitSolver$Diagram.fold(I)I -/
def xk_52 : List Instr := [.iload 1, .iconst (1), .isub, .istore 2, .iload 2, .ifCond .lt 38, .iconst (0), .istore 3, .iload 3, .iconst (1), .iload 2, .ishl, .if_icmp .ge 36, .aload 0, .getfield 64, .iload 3, .aload 0, .iload 2, .aload 0, .getfield 64, .iconst (2), .iload 3, .imul, .invokevirtual 56, .aload 0, .getfield 64, .iconst (2), .iload 3, .imul, .iconst (1), .iadd, .invokevirtual 56, .invokevirtual 53, .invokevirtual 57, .iinc 3 (1), .goto 8, .iinc 2 (-1), .goto 4, .aload 0, .getfield 67, .iconst (2), .isub, .ireturn]
def xb_52 : List Nat := [0, 1, 2, 3, 4, 5, 8, 9, 10, 11, 12, 13, 14, 17, 18, 21, 22, 23, 24, 25, 28, 29, 30, 31, 34, 35, 38, 39, 40, 41, 42, 43, 46, 49, 52, 55, 58, 61, 64, 65, 68, 69, 70]
/-- BitSolver$Diagram.nameOf(III)I -/
def xk_53 : List Instr := [.iload 2, .iload 3, .if_icmp .ne 5, .iload 2, .ireturn, .iload 1, .iconst (10), .ishl, .iload 2, .ior, .iconst (10), .ishl, .iload 3, .ior, .istore 4, .iload 4, .iconst (-1640531535), .imul, .iconst (21), .iushr, .istore 5, .iconst (0), .istore 6, .iload 6, .iconst (2048), .if_icmp .ge 72, .aload 0, .getfield 65, .iload 5, .invokevirtual 56, .iload 4, .if_icmp .ne 37, .aload 0, .getfield 66, .iload 5, .invokevirtual 56, .ireturn, .aload 0, .getfield 65, .iload 5, .invokevirtual 56, .ifCond .ne 64, .aload 0, .getfield 65, .iload 5, .iload 4, .invokevirtual 57, .aload 0, .getfield 66, .iload 5, .aload 0, .getfield 67, .invokevirtual 57, .aload 0, .dup, .getfield 67, .iconst (1), .iadd, .putfield 67, .aload 0, .getfield 67, .iconst (1), .isub, .ireturn, .iload 5, .iconst (1), .iadd, .iconst (2047), .iand, .istore 5, .iinc 6 (1), .goto 23, .iload 2, .ireturn]
def xb_53 : List Nat := [0, 1, 2, 5, 6, 7, 8, 10, 11, 12, 13, 15, 16, 17, 18, 20, 22, 24, 25, 27, 28, 30, 31, 33, 35, 38, 41, 42, 45, 47, 50, 52, 55, 56, 59, 61, 64, 65, 66, 69, 71, 74, 77, 78, 81, 83, 85, 88, 89, 92, 94, 95, 98, 101, 102, 103, 106, 107, 108, 111, 112, 115, 116, 117, 118, 120, 121, 122, 125, 126, 128, 131, 134, 135]
/-- BitSolver$Row.<init>(I)V -/
def xk_54 : List Instr := [.aload 0, .invokespecial 1000, .aload 0, .iconst (0), .putfield 97, .aload 0, .iconst (0), .iload 1, .invokestatic 2001, .newarray .int, .putfield 96, .return_]
def xb_54 : List Nat := [0, 1, 4, 5, 6, 9, 10, 11, 12, 15, 17, 20]
/-- BitSolver$Row.add(I)V -/
def xk_55 : List Instr := [.aload 0, .getfield 97, .aload 0, .getfield 96, .arraylength, .if_icmp .ge 18, .aload 0, .getfield 96, .aload 0, .getfield 97, .iload 1, .iastore, .aload 0, .dup, .getfield 97, .iconst (1), .iadd, .putfield 97, .return_]
def xb_55 : List Nat := [0, 1, 4, 5, 8, 9, 12, 13, 16, 17, 20, 21, 22, 23, 24, 27, 28, 29, 32]
/-- BitSolver$Row.at(I)I -/
def xk_56 : List Instr := [.iload 1, .ifCond .lt 11, .iload 1, .aload 0, .getfield 97, .if_icmp .ge 11, .aload 0, .getfield 96, .iload 1, .iaload, .goto 12, .iconst (0), .ireturn]
def xb_56 : List Nat := [0, 1, 4, 5, 6, 9, 12, 13, 16, 17, 18, 21, 22]
/-- BitSolver$Row.put(II)V -/
def xk_57 : List Instr := [.iload 1, .ifCond .lt 11, .iload 1, .aload 0, .getfield 97, .if_icmp .ge 11, .aload 0, .getfield 96, .iload 1, .iload 2, .iastore, .return_]
def xb_57 : List Nat := [0, 1, 4, 5, 6, 9, 12, 13, 16, 17, 18, 19]
/-- BitSolver$Row.shorten(I)V -/
def xk_58 : List Instr := [.iload 1, .ifCond .lt 9, .iload 1, .aload 0, .getfield 97, .if_icmp .ge 9, .aload 0, .iload 1, .putfield 97, .return_]
def xb_58 : List Nat := [0, 1, 4, 5, 6, 9, 12, 13, 14, 17]
/-- BitSolver$Row.take(LBitSolver$Row;)V -/
def xk_59 : List Instr := [.aload 0, .aload 1, .getfield 97, .aload 0, .getfield 96, .arraylength, .invokestatic 2002, .putfield 97, .aload 1, .getfield 96, .iconst (0), .aload 0, .getfield 96, .iconst (0), .aload 0, .getfield 97, .invokestatic 2003, .return_]
def xb_59 : List Nat := [0, 1, 2, 5, 6, 9, 10, 13, 16, 17, 20, 21, 22, 25, 26, 27, 30, 33]
/-- BitSolver$Row.zeros(I)V -/
def xk_60 : List Instr := [.aload 0, .iconst (0), .iload 1, .aload 0, .getfield 96, .arraylength, .invokestatic 2002, .invokestatic 2001, .putfield 97, .aload 0, .getfield 96, .iconst (0), .aload 0, .getfield 97, .iconst (0), .invokestatic 41, .return_]
def xb_60 : List Nat := [0, 1, 2, 3, 4, 7, 8, 11, 14, 17, 18, 21, 22, 23, 26, 27, 30]
/-- BitSolver$Term.<init>()V -/
def xk_61 : List Instr := [.aload 0, .invokespecial 1000, .aload 0, .iconst (1), .putfield 128, .aload 0, .iconst (0), .putfield 129, .aload 0, .iconst (0), .putfield 130, .aload 0, .new 3, .dup, .iconst (4096), .invokespecial 54, .putfield 131, .return_]
def xb_61 : List Nat := [0, 1, 4, 5, 6, 9, 10, 11, 14, 15, 16, 19, 20, 23, 24, 27, 30, 33]
/-- BitSolver$Term.by(II)I -/
def xk_62 : List Instr := [.aload 0, .getfield 131, .iload 1, .iload 2, .aload 0, .getfield 129, .isub, .ishr, .invokevirtual 56, .ireturn]
def xb_62 : List Nat := [0, 1, 4, 5, 6, 7, 10, 11, 12, 15]
/-- BitSolver.<init>()V -/
def xk_63 : List Instr := [.aload 0, .invokespecial 1000, .aload 0, .iconst (24), .anewarray 2, .putfield 32, .aload 0, .iconst (0), .putfield 33, .aload 0, .iconst (0), .putfield 34, .aload 0, .new 3, .dup, .iconst (16), .invokespecial 54, .putfield 35, .aload 0, .new 3, .dup, .iconst (8), .invokespecial 54, .putfield 36, .aload 0, .new 3, .dup, .iconst (8), .invokespecial 54, .putfield 37, .aload 0, .new 3, .dup, .iconst (4096), .invokespecial 54, .putfield 38, .aload 0, .new 3, .dup, .iconst (4096), .invokespecial 54, .putfield 39, .aload 0, .iconst (1), .putfield 40, .aload 0, .new 3, .dup, .iconst (4096), .invokespecial 54, .putfield 41, .aload 0, .new 2, .dup, .invokespecial 50, .putfield 42, .iconst (0), .istore 1, .iload 1, .aload 0, .getfield 32, .arraylength, .if_icmp .ge 72, .aload 0, .getfield 32, .iload 1, .new 4, .dup, .invokespecial 61, .aastore, .iinc 1 (1), .goto 58, .return_]
def xb_63 : List Nat := [0, 1, 4, 5, 7, 10, 13, 14, 15, 18, 19, 20, 23, 24, 27, 28, 30, 33, 36, 37, 40, 41, 43, 46, 49, 50, 53, 54, 56, 59, 62, 63, 66, 67, 70, 73, 76, 77, 80, 81, 84, 87, 90, 91, 92, 95, 96, 99, 100, 103, 106, 109, 110, 113, 114, 117, 120, 121, 122, 123, 124, 127, 128, 131, 132, 135, 136, 139, 140, 143, 144, 147, 150]
/-- BitSolver.act(III)I -/
def xk_64 : List Instr := [.aload 0, .iload 2, .invokevirtual 95, .astore 4, .iload 1, .invokestatic 45, .ifCond .eq 9, .aload 4, .goto 12, .aload 0, .iload 3, .invokevirtual 95, .astore 5, .aload 4, .ifnull 17, .aload 5, .ifnonnull 19, .iconst (-2), .ireturn, .iload 1, .aload 4, .getfield 128, .aload 5, .getfield 128, .invokestatic 49, .istore 6, .iload 6, .invokestatic 83, .ifCond .ne 31, .iconst (-2), .ireturn, .aload 4, .getfield 129, .aload 5, .getfield 129, .invokestatic 2001, .istore 7, .aload 0, .iload 6, .iload 7, .invokevirtual 87, .astore 8, .aload 8, .ifnonnull 46, .iconst (-3), .ireturn, .iconst (0), .istore 9, .iload 9, .iconst (1), .iload 7, .ishl, .if_icmp .ge 72, .aload 8, .getfield 131, .iload 1, .aload 4, .getfield 128, .aload 4, .iload 9, .iload 7, .invokevirtual 62, .aload 5, .iload 9, .iload 7, .invokevirtual 62, .aload 5, .getfield 128, .invokestatic 43, .invokevirtual 55, .iinc 9 (1), .goto 48, .aload 0, .getfield 33, .iconst (1), .isub, .ireturn]
def xb_64 : List Nat := [0, 1, 2, 5, 7, 8, 11, 14, 16, 19, 20, 21, 24, 26, 28, 31, 33, 36, 38, 39, 40, 42, 45, 47, 50, 53, 55, 57, 60, 63, 65, 66, 68, 71, 73, 76, 79, 81, 82, 84, 86, 89, 91, 93, 96, 98, 99, 100, 102, 104, 105, 107, 108, 111, 113, 116, 117, 119, 122, 124, 126, 128, 131, 133, 135, 137, 140, 142, 145, 148, 151, 154, 157, 158, 161, 162, 163]
/-- BitSolver.assume(I)I -/
def xk_65 : List Instr := [.aload 0, .iload 1, .invokevirtual 82, .ifCond .ne 6, .iconst (-2), .ireturn, .aload 0, .getfield 36, .getfield 97, .iconst (8), .if_icmp .lt 13, .iconst (-3), .ireturn, .aload 0, .getfield 36, .iload 1, .invokevirtual 55, .aload 0, .getfield 40, .ifCond .ne 25, .aload 0, .aload 0, .getfield 39, .iload 1, .invokevirtual 93, .aload 0, .getfield 36, .getfield 97, .ireturn]
def xb_65 : List Nat := [0, 1, 2, 5, 8, 10, 11, 12, 15, 18, 20, 23, 25, 26, 27, 30, 31, 34, 35, 38, 41, 42, 43, 46, 47, 50, 51, 54, 57]
/-- BitSolver.bits(I)I -/
def xk_66 : List Instr := [.aload 0, .iload 1, .invokevirtual 95, .astore 2, .aload 2, .ifnonnull 8, .iconst (-2), .goto 10, .aload 2, .getfield 128, .ireturn]
def xb_66 : List Nat := [0, 1, 2, 5, 6, 7, 10, 12, 15, 16, 19]
/-- BitSolver.bound(IZ)I -/
def xk_67 : List Instr := [.aload 0, .iload 1, .invokevirtual 95, .astore 3, .aload 3, .ifnonnull 8, .iconst (-2), .ireturn, .aload 0, .invokevirtual 80, .astore 4, .aload 4, .getfield 97, .ifCond .ne 16, .iconst (-1), .ireturn, .aload 3, .aload 4, .iconst (0), .invokevirtual 56, .aload 0, .getfield 34, .invokevirtual 62, .istore 5, .iconst (1), .istore 6, .iload 6, .aload 4, .getfield 97, .if_icmp .ge 50, .aload 3, .aload 4, .iload 6, .invokevirtual 56, .aload 0, .getfield 34, .invokevirtual 62, .istore 7, .iload 2, .ifCond .eq 44, .iload 5, .iload 7, .invokestatic 2001, .goto 47, .iload 5, .iload 7, .invokestatic 2002, .istore 5, .iinc 6 (1), .goto 26, .iload 5, .ireturn]
def xb_67 : List Nat := [0, 1, 2, 5, 6, 7, 10, 12, 13, 14, 17, 19, 21, 24, 27, 28, 29, 30, 32, 33, 36, 37, 40, 43, 45, 46, 48, 50, 52, 55, 58, 59, 61, 63, 66, 67, 70, 73, 75, 76, 79, 81, 83, 86, 89, 91, 93, 96, 98, 101, 104, 106]
/-- BitSolver.certain(I)I -/
def xk_68 : List Instr := [.aload 0, .iload 1, .invokevirtual 95, .astore 2, .aload 2, .ifnonnull 8, .iconst (-2), .ireturn, .aload 0, .invokevirtual 80, .astore 3, .aload 3, .getfield 97, .ifCond .ne 16, .iconst (-1), .ireturn, .aload 2, .aload 3, .iconst (0), .invokevirtual 56, .aload 0, .getfield 34, .invokevirtual 62, .istore 4, .iconst (0), .istore 5, .iconst (1), .istore 6, .iload 6, .aload 3, .getfield 97, .if_icmp .ge 46, .iload 5, .iload 4, .aload 2, .aload 3, .iload 6, .invokevirtual 56, .aload 0, .getfield 34, .invokevirtual 62, .ixor, .ior, .istore 5, .iinc 6 (1), .goto 28, .iload 5, .iconst (-1), .ixor, .aload 2, .getfield 128, .invokestatic 84, .iand, .ireturn]
def xb_68 : List Nat := [0, 1, 2, 5, 6, 7, 10, 12, 13, 14, 17, 18, 19, 22, 25, 26, 27, 28, 29, 30, 33, 34, 37, 40, 42, 43, 45, 46, 48, 50, 51, 54, 57, 59, 61, 62, 63, 65, 68, 69, 72, 75, 76, 77, 79, 82, 85, 87, 88, 89, 90, 93, 96, 97]
/-- BitSolver.choose(III)I -/
def xk_69 : List Instr := [.aload 0, .iload 1, .invokevirtual 95, .astore 4, .aload 0, .iload 2, .invokevirtual 95, .astore 5, .aload 0, .iload 3, .invokevirtual 95, .astore 6, .aload 4, .ifnull 18, .aload 5, .ifnull 18, .aload 6, .ifnonnull 20, .iconst (-2), .ireturn, .aload 4, .getfield 128, .iconst (1), .if_icmp .ne 29, .aload 5, .getfield 128, .aload 6, .getfield 128, .if_icmp .eq 31, .iconst (-2), .ireturn, .aload 4, .getfield 129, .aload 5, .getfield 129, .aload 6, .getfield 129, .invokestatic 2001, .invokestatic 2001, .istore 7, .aload 0, .aload 5, .getfield 128, .iload 7, .invokevirtual 87, .astore 8, .aload 8, .ifnonnull 50, .iconst (-3), .ireturn, .iconst (0), .istore 9, .iload 9, .iconst (1), .iload 7, .ishl, .if_icmp .ge 77, .aload 8, .getfield 131, .aload 4, .iload 9, .iload 7, .invokevirtual 62, .iconst (1), .if_icmp .ne 70, .aload 5, .iload 9, .iload 7, .invokevirtual 62, .goto 74, .aload 6, .iload 9, .iload 7, .invokevirtual 62, .invokevirtual 55, .iinc 9 (1), .goto 52, .aload 0, .getfield 33, .iconst (1), .isub, .ireturn]
def xb_69 : List Nat := [0, 1, 2, 5, 7, 8, 9, 12, 14, 15, 16, 19, 21, 23, 26, 28, 31, 33, 36, 38, 39, 41, 44, 45, 48, 50, 53, 55, 58, 61, 63, 64, 66, 69, 71, 74, 76, 79, 82, 85, 87, 88, 90, 93, 95, 98, 100, 102, 105, 107, 108, 109, 111, 113, 114, 116, 117, 120, 122, 125, 127, 129, 131, 134, 135, 138, 140, 142, 144, 147, 150, 152, 154, 156, 159, 162, 165, 168, 169, 172, 173, 174]
/-- BitSolver.claim(I)I -/
def xk_70 : List Instr := [.aload 0, .iload 1, .invokevirtual 82, .ifCond .ne 6, .iconst (-2), .ireturn, .aload 0, .getfield 35, .getfield 97, .iconst (16), .if_icmp .lt 13, .iconst (-3), .ireturn, .aload 0, .getfield 35, .iload 1, .invokevirtual 55, .aload 0, .getfield 40, .ifCond .ne 30, .aload 0, .aload 0, .getfield 38, .iload 1, .invokevirtual 93, .aload 0, .aload 0, .getfield 39, .iload 1, .invokevirtual 93, .aload 0, .getfield 35, .getfield 97, .ireturn]
def xb_70 : List Nat := [0, 1, 2, 5, 8, 10, 11, 12, 15, 18, 20, 23, 25, 26, 27, 30, 31, 34, 35, 38, 41, 42, 43, 46, 47, 50, 51, 52, 55, 56, 59, 60, 63, 66]
/-- BitSolver.clear()I -/
def xk_71 : List Instr := [.aload 0, .getfield 33, .istore 1, .aload 0, .iconst (0), .putfield 33, .aload 0, .iconst (0), .putfield 34, .aload 0, .getfield 35, .iconst (0), .invokevirtual 58, .aload 0, .getfield 36, .iconst (0), .invokevirtual 58, .aload 0, .getfield 37, .iconst (0), .invokevirtual 58, .aload 0, .iconst (1), .putfield 40, .iload 1, .ireturn]
def xb_71 : List Nat := [0, 1, 4, 5, 6, 7, 10, 11, 12, 15, 16, 19, 20, 23, 24, 27, 28, 31, 32, 35, 36, 39, 40, 41, 44, 45]
/-- BitSolver.constant(II)I -/
def xk_72 : List Instr := [.iload 1, .invokestatic 83, .ifCond .eq 7, .iload 2, .iload 1, .invokestatic 79, .ifCond .ne 9, .iconst (-2), .ireturn, .aload 0, .iload 1, .iconst (0), .invokevirtual 87, .astore 3, .aload 3, .ifnonnull 18, .iconst (-3), .ireturn, .aload 3, .getfield 131, .iload 2, .invokevirtual 55, .aload 0, .getfield 33, .iconst (1), .isub, .ireturn]
def xb_72 : List Nat := [0, 1, 4, 7, 8, 9, 12, 15, 17, 18, 19, 20, 21, 24, 25, 26, 29, 31, 32, 33, 36, 37, 40, 41, 44, 45, 46]
/-- BitSolver.core(I)I -/
def xk_73 : List Instr := [.iload 1, .ifCond .lt 6, .aload 0, .invokevirtual 80, .getfield 97, .ifCond .le 8, .iconst (-1), .ireturn, .aload 0, .invokevirtual 74, .istore 2, .iconst (0), .istore 3, .iconst (0), .istore 4, .iload 4, .aload 0, .getfield 36, .getfield 97, .if_icmp .ge 38, .iload 2, .iload 4, .ishr, .iconst (1), .iand, .iconst (1), .if_icmp .ne 36, .iload 3, .iload 1, .if_icmp .ne 35, .aload 0, .getfield 36, .iload 4, .invokevirtual 56, .ireturn, .iinc 3 (1), .iinc 4 (1), .goto 15, .iconst (-1), .ireturn]
def xb_73 : List Nat := [0, 1, 4, 5, 8, 11, 14, 15, 16, 17, 20, 21, 22, 23, 24, 26, 28, 29, 32, 35, 38, 39, 41, 42, 43, 44, 45, 48, 49, 50, 53, 54, 57, 59, 62, 63, 66, 69, 72, 73]
/-- BitSolver.coreSet()I -/
def xk_74 : List Instr := [.aload 0, .invokevirtual 85, .aload 0, .getfield 36, .getfield 97, .invokestatic 84, .istore 1, .iconst (0), .istore 2, .iload 2, .aload 0, .getfield 36, .getfield 97, .if_icmp .ge 30, .iload 1, .iconst (1), .iload 2, .ishl, .iconst (-1), .ixor, .iand, .istore 3, .aload 0, .iload 3, .invokevirtual 90, .ifCond .eq 28, .iload 3, .istore 1, .iinc 2 (1), .goto 9, .iload 1, .ireturn]
def xb_74 : List Nat := [0, 1, 4, 5, 8, 11, 14, 15, 16, 17, 18, 19, 22, 25, 28, 29, 30, 31, 32, 33, 34, 35, 36, 37, 38, 41, 44, 45, 46, 49, 52, 53]
/-- BitSolver.cores()I -/
def xk_75 : List Instr := [.aload 0, .invokevirtual 80, .getfield 97, .ifCond .le 6, .iconst (-1), .ireturn, .aload 0, .invokevirtual 74, .invokestatic 40, .ireturn]
def xb_75 : List Nat := [0, 1, 4, 7, 10, 11, 12, 13, 16, 19]
/-- BitSolver.count(I)I -/
def xk_76 : List Instr := [.iload 1, .tableswitch 20 (0) (4) #[2, 5, 8, 12, 16], .aload 0, .getfield 33, .ireturn, .aload 0, .getfield 34, .ireturn, .aload 0, .getfield 35, .getfield 97, .ireturn, .aload 0, .getfield 36, .getfield 97, .ireturn, .aload 0, .getfield 37, .getfield 97, .ireturn, .iconst (-2), .ireturn]
def xb_76 : List Nat := [0, 1, 36, 37, 40, 41, 42, 45, 46, 47, 50, 53, 54, 55, 58, 61, 62, 63, 66, 69, 70, 72]
/-- BitSolver.cut(III)I -/
def xk_77 : List Instr := [.aload 0, .iload 1, .invokevirtual 95, .astore 4, .aload 4, .ifnull 17, .iload 3, .invokestatic 83, .ifCond .eq 17, .iload 2, .ifCond .lt 17, .iload 2, .aload 4, .getfield 128, .iload 3, .isub, .if_icmp .le 19, .iconst (-2), .ireturn, .aload 0, .iload 3, .aload 4, .getfield 129, .invokevirtual 87, .astore 5, .aload 5, .ifnonnull 29, .iconst (-3), .ireturn, .iconst (0), .istore 6, .iload 6, .iconst (1), .aload 4, .getfield 129, .ishl, .if_icmp .ge 51, .aload 5, .getfield 131, .aload 4, .getfield 131, .iload 6, .invokevirtual 56, .iload 2, .ishr, .iload 3, .invokestatic 84, .iand, .invokevirtual 55, .iinc 6 (1), .goto 31, .aload 0, .getfield 33, .iconst (1), .isub, .ireturn]
def xb_77 : List Nat := [0, 1, 2, 5, 7, 9, 12, 13, 16, 19, 20, 23, 24, 26, 29, 30, 31, 34, 36, 37, 38, 39, 41, 44, 47, 49, 51, 54, 56, 57, 58, 60, 62, 63, 65, 68, 69, 72, 74, 77, 79, 82, 84, 87, 88, 89, 90, 93, 94, 97, 100, 103, 104, 107, 108, 109]
/-- BitSolver.failing(I)I -/
def xk_78 : List Instr := [.iconst (0), .istore 2, .iconst (0), .istore 3, .iload 3, .aload 0, .getfield 36, .getfield 97, .if_icmp .ge 32, .aload 0, .aload 0, .getfield 36, .iload 3, .invokevirtual 56, .invokevirtual 95, .astore 4, .aload 4, .ifnull 30, .aload 4, .iload 1, .aload 0, .getfield 34, .invokevirtual 62, .ifCond .ne 30, .iload 2, .iconst (1), .iload 3, .ishl, .ior, .istore 2, .iinc 3 (1), .goto 4, .iload 2, .ireturn]
def xb_78 : List Nat := [0, 1, 2, 3, 4, 5, 6, 9, 12, 15, 16, 17, 20, 21, 24, 27, 29, 31, 34, 36, 37, 38, 41, 44, 47, 48, 49, 50, 51, 52, 53, 56, 59, 60]
/-- BitSolver.fits(II)Z -/
def xk_79 : List Instr := [.iload 0, .ifCond .lt 8, .iload 0, .iload 1, .invokestatic 84, .if_icmp .gt 8, .iconst (1), .goto 9, .iconst (0), .ireturn]
def xb_79 : List Nat := [0, 1, 4, 5, 6, 9, 12, 13, 16, 17]
/-- BitSolver.found()LBitSolver$Row; -/
def xk_80 : List Instr := [.aload 0, .getfield 40, .ifCond .eq 63, .aload 0, .getfield 38, .iconst (0), .invokevirtual 58, .iconst (0), .istore 1, .iload 1, .iconst (1), .aload 0, .getfield 34, .ishl, .if_icmp .ge 21, .aload 0, .getfield 38, .iload 1, .invokevirtual 55, .iinc 1 (1), .goto 9, .iconst (0), .istore 1, .iload 1, .aload 0, .getfield 35, .getfield 97, .if_icmp .ge 38, .aload 0, .aload 0, .getfield 38, .aload 0, .getfield 35, .iload 1, .invokevirtual 56, .invokevirtual 93, .iinc 1 (1), .goto 23, .aload 0, .getfield 39, .aload 0, .getfield 38, .invokevirtual 59, .iconst (0), .istore 1, .iload 1, .aload 0, .getfield 36, .getfield 97, .if_icmp .ge 60, .aload 0, .aload 0, .getfield 39, .aload 0, .getfield 36, .iload 1, .invokevirtual 56, .invokevirtual 93, .iinc 1 (1), .goto 45, .aload 0, .iconst (0), .putfield 40, .aload 0, .getfield 39, .areturn]
def xb_80 : List Nat := [0, 1, 4, 7, 8, 11, 12, 15, 16, 17, 18, 19, 20, 23, 24, 27, 28, 31, 32, 35, 38, 41, 42, 43, 44, 45, 48, 51, 54, 55, 56, 59, 60, 63, 64, 67, 70, 73, 76, 77, 80, 81, 84, 87, 88, 89, 90, 91, 94, 97, 100, 101, 102, 105, 106, 109, 110, 113, 116, 119, 122, 123, 124, 127, 128, 131]
/-- BitSolver.great()I -/
def xk_81 : List Instr := [.aload 0, .invokevirtual 80, .astore 1, .aload 0, .getfield 42, .aload 0, .getfield 34, .invokevirtual 51, .iconst (0), .istore 2, .iload 2, .aload 1, .getfield 97, .if_icmp .ge 24, .aload 0, .getfield 42, .getfield 64, .aload 1, .iload 2, .invokevirtual 56, .iconst (1), .invokevirtual 57, .iinc 2 (1), .goto 10, .aload 0, .getfield 42, .aload 0, .getfield 34, .invokevirtual 52, .ireturn]
def xb_81 : List Nat := [0, 1, 4, 5, 6, 9, 10, 13, 16, 17, 18, 19, 20, 23, 26, 27, 30, 33, 34, 35, 38, 39, 42, 45, 48, 49, 52, 53, 56, 59]
/-- BitSolver.isOneBit(I)Z -/
def xk_82 : List Instr := [.aload 0, .iload 1, .invokevirtual 95, .astore 2, .aload 2, .ifnull 12, .aload 2, .getfield 128, .iconst (1), .if_icmp .ne 12, .iconst (1), .goto 13, .iconst (0), .ireturn]
def xb_82 : List Nat := [0, 1, 2, 5, 6, 7, 10, 11, 14, 15, 18, 19, 22, 23]
/-- BitSolver.isWidth(I)Z -/
def xk_83 : List Instr := [.iload 0, .iconst (1), .if_icmp .lt 8, .iload 0, .iconst (12), .if_icmp .gt 8, .iconst (1), .goto 9, .iconst (0), .ireturn]
def xb_83 : List Nat := [0, 1, 2, 5, 6, 8, 11, 12, 15, 16]
/-- BitSolver.lowest(I)I -/
def xk_84 : List Instr := [.iconst (1), .iload 0, .ishl, .iconst (1), .isub, .ireturn]
def xb_84 : List Nat := [0, 1, 2, 3, 4, 5]
/-- BitSolver.markFailings()V -/
def xk_85 : List Instr := [.aload 0, .getfield 41, .iconst (1), .aload 0, .getfield 36, .getfield 97, .ishl, .invokevirtual 60, .iconst (0), .istore 1, .iload 1, .aload 0, .getfield 38, .getfield 97, .if_icmp .ge 27, .aload 0, .getfield 41, .aload 0, .aload 0, .getfield 38, .iload 1, .invokevirtual 56, .invokevirtual 78, .iconst (1), .invokevirtual 57, .iinc 1 (1), .goto 10, .return_]
def xb_85 : List Nat := [0, 1, 4, 5, 6, 9, 12, 13, 16, 17, 18, 19, 20, 23, 26, 29, 30, 33, 34, 35, 38, 39, 42, 45, 46, 49, 52, 55]
/-- BitSolver.models()I -/
def xk_86 : List Instr := [.aload 0, .invokevirtual 80, .getfield 97, .ireturn]
def xb_86 : List Nat := [0, 1, 4, 7]
/-- BitSolver.nextTerm(II)LBitSolver$Term; -/
def xk_87 : List Instr := [.aload 0, .getfield 33, .aload 0, .getfield 32, .arraylength, .if_icmp .lt 8, .aconst_null, .areturn, .aload 0, .getfield 32, .aload 0, .getfield 33, .aaload, .astore 3, .aload 3, .ifnonnull 18, .aconst_null, .areturn, .aload 0, .dup, .getfield 33, .iconst (1), .iadd, .putfield 33, .aload 3, .iload 1, .putfield 128, .aload 3, .iload 2, .putfield 129, .aload 3, .iconst (0), .putfield 130, .aload 3, .getfield 131, .iconst (0), .invokevirtual 58, .aload 3, .areturn]
def xb_87 : List Nat := [0, 1, 4, 5, 8, 9, 12, 13, 14, 15, 18, 19, 22, 23, 24, 25, 28, 29, 30, 31, 32, 35, 36, 37, 40, 41, 42, 45, 46, 47, 50, 51, 52, 55, 56, 59, 60, 63, 64]
/-- BitSolver.pop()I -/
def xk_88 : List Instr := [.aload 0, .getfield 37, .getfield 97, .ifCond .ne 6, .iconst (-2), .ireturn, .aload 0, .getfield 37, .aload 0, .getfield 37, .getfield 97, .iconst (1), .isub, .invokevirtual 56, .istore 1, .aload 0, .getfield 35, .getfield 97, .iload 1, .isub, .istore 2, .aload 0, .getfield 37, .aload 0, .getfield 37, .getfield 97, .iconst (1), .isub, .invokevirtual 58, .aload 0, .getfield 35, .iload 1, .invokevirtual 58, .iload 2, .ifCond .le 38, .aload 0, .iconst (1), .putfield 40, .iload 2, .ireturn]
def xb_88 : List Nat := [0, 1, 4, 7, 10, 12, 13, 14, 17, 18, 21, 24, 25, 26, 29, 30, 31, 34, 37, 38, 39, 40, 41, 44, 45, 48, 51, 52, 53, 56, 57, 60, 61, 64, 65, 68, 69, 70, 73, 74]
/-- BitSolver.push()I -/
def xk_89 : List Instr := [.aload 0, .getfield 37, .getfield 97, .iconst (8), .if_icmp .lt 7, .iconst (-3), .ireturn, .aload 0, .getfield 37, .aload 0, .getfield 35, .getfield 97, .invokevirtual 55, .aload 0, .getfield 37, .getfield 97, .ireturn]
def xb_89 : List Nat := [0, 1, 4, 7, 9, 12, 14, 15, 16, 19, 20, 23, 26, 29, 30, 33, 36]
/-- BitSolver.refutes(I)Z -/
def xk_90 : List Instr := [.iconst (0), .istore 2, .iload 2, .aload 0, .getfield 41, .getfield 97, .if_icmp .ge 21, .aload 0, .getfield 41, .iload 2, .invokevirtual 56, .iconst (1), .if_icmp .ne 19, .iload 2, .iload 1, .iand, .ifCond .ne 19, .iconst (0), .ireturn, .iinc 2 (1), .goto 2, .iconst (1), .ireturn]
def xb_90 : List Nat := [0, 1, 2, 3, 4, 7, 10, 13, 14, 17, 18, 21, 22, 25, 26, 27, 28, 31, 32, 33, 36, 39, 40]
/-- BitSolver.release()I -/
def xk_91 : List Instr := [.aload 0, .getfield 36, .getfield 97, .istore 1, .aload 0, .getfield 36, .iconst (0), .invokevirtual 58, .aload 0, .getfield 40, .ifCond .ne 16, .aload 0, .getfield 39, .aload 0, .getfield 38, .invokevirtual 59, .iload 1, .ireturn]
def xb_91 : List Nat := [0, 1, 4, 7, 8, 9, 12, 13, 16, 17, 20, 23, 24, 27, 28, 31, 34, 35]
/-- BitSolver.same(II)I -/
def xk_92 : List Instr := [.aload 0, .iload 1, .invokevirtual 95, .astore 3, .aload 0, .iload 2, .invokevirtual 95, .astore 4, .aload 3, .ifnull 17, .aload 4, .ifnull 17, .aload 3, .getfield 128, .aload 4, .getfield 128, .if_icmp .eq 19, .iconst (-2), .ireturn, .aload 0, .invokevirtual 80, .astore 5, .iconst (0), .istore 6, .iload 6, .aload 5, .getfield 97, .if_icmp .ge 47, .aload 5, .iload 6, .invokevirtual 56, .istore 7, .aload 3, .iload 7, .aload 0, .getfield 34, .invokevirtual 62, .aload 4, .iload 7, .aload 0, .getfield 34, .invokevirtual 62, .if_icmp .eq 45, .iconst (0), .ireturn, .iinc 6 (1), .goto 24, .iconst (1), .ireturn]
def xb_92 : List Nat := [0, 1, 2, 5, 6, 7, 8, 11, 13, 14, 17, 19, 22, 23, 26, 28, 31, 34, 36, 37, 38, 41, 43, 44, 46, 48, 50, 53, 56, 58, 60, 63, 65, 66, 68, 69, 72, 75, 77, 79, 80, 83, 86, 89, 90, 91, 94, 97, 98]
/-- BitSolver.sift(LBitSolver$Row;I)V -/
def xk_93 : List Instr := [.aload 0, .iload 2, .invokevirtual 95, .astore 3, .aload 3, .ifnonnull 7, .return_, .iconst (0), .istore 4, .iconst (0), .istore 5, .iload 5, .aload 1, .getfield 97, .if_icmp .ge 33, .aload 1, .iload 5, .invokevirtual 56, .istore 6, .aload 3, .iload 6, .aload 0, .getfield 34, .invokevirtual 62, .iconst (1), .if_icmp .ne 31, .aload 1, .iload 4, .iload 6, .invokevirtual 57, .iinc 4 (1), .iinc 5 (1), .goto 11, .aload 1, .iload 4, .invokevirtual 58, .return_]
def xb_93 : List Nat := [0, 1, 2, 5, 6, 7, 10, 11, 12, 14, 15, 17, 19, 20, 23, 26, 27, 29, 32, 34, 35, 37, 38, 41, 44, 45, 48, 49, 51, 53, 56, 59, 62, 65, 66, 68, 71]
/-- BitSolver.size(II)I -/
def xk_94 : List Instr := [.aload 0, .iload 1, .invokevirtual 95, .astore 3, .aload 3, .ifnull 12, .iload 2, .ifCond .lt 12, .iload 2, .aload 3, .getfield 128, .if_icmp .lt 14, .iconst (-2), .ireturn, .aload 0, .getfield 42, .aload 3, .getfield 129, .invokevirtual 51, .iconst (0), .istore 4, .iload 4, .iconst (1), .aload 3, .getfield 129, .ishl, .if_icmp .ge 42, .aload 0, .getfield 42, .getfield 64, .iload 4, .aload 3, .getfield 131, .iload 4, .invokevirtual 56, .iload 2, .ishr, .iconst (1), .iand, .invokevirtual 57, .iinc 4 (1), .goto 21, .aload 0, .getfield 42, .aload 3, .getfield 129, .invokevirtual 52, .ireturn]
def xb_94 : List Nat := [0, 1, 2, 5, 6, 7, 10, 11, 14, 15, 16, 19, 22, 24, 25, 26, 29, 30, 33, 36, 37, 39, 41, 42, 43, 46, 47, 50, 51, 54, 57, 59, 60, 63, 65, 68, 69, 70, 71, 72, 75, 78, 81, 82, 85, 86, 89, 92]
/-- BitSolver.termOf(I)LBitSolver$Term; -/
def xk_95 : List Instr := [.iload 1, .ifCond .lt 16, .iload 1, .aload 0, .getfield 33, .if_icmp .ge 16, .iload 1, .aload 0, .getfield 32, .arraylength, .if_icmp .ge 16, .aload 0, .getfield 32, .iload 1, .aaload, .goto 17, .aconst_null, .areturn]
def xb_95 : List Nat := [0, 1, 4, 5, 6, 9, 12, 13, 14, 17, 18, 21, 22, 25, 26, 27, 30, 31]
/-- BitSolver.value(II)I -/
def xk_96 : List Instr := [.aload 0, .iload 1, .invokevirtual 95, .astore 3, .aload 3, .ifnonnull 8, .iconst (-2), .ireturn, .aload 0, .invokevirtual 80, .astore 4, .iload 2, .ifCond .lt 17, .iload 2, .aload 4, .getfield 97, .if_icmp .lt 19, .iconst (-1), .ireturn, .aload 3, .aload 4, .iload 2, .invokevirtual 56, .aload 0, .getfield 34, .invokevirtual 62, .ireturn]
def xb_96 : List Nat := [0, 1, 2, 5, 6, 7, 10, 12, 13, 14, 17, 19, 20, 23, 24, 26, 29, 32, 33, 34, 35, 37, 38, 41, 42, 45, 48]
/-- BitSolver.values(I)I -/
def xk_97 : List Instr := [.aload 0, .iload 1, .invokevirtual 95, .astore 2, .aload 2, .ifnonnull 8, .iconst (-2), .ireturn, .aload 0, .invokevirtual 80, .astore 3, .aload 0, .getfield 41, .iconst (1), .aload 2, .getfield 128, .ishl, .invokevirtual 60, .iconst (0), .istore 4, .iconst (0), .istore 5, .iload 5, .aload 3, .getfield 97, .if_icmp .ge 47, .aload 2, .aload 3, .iload 5, .invokevirtual 56, .aload 0, .getfield 34, .invokevirtual 62, .istore 6, .aload 0, .getfield 41, .iload 6, .invokevirtual 56, .ifCond .ne 45, .aload 0, .getfield 41, .iload 6, .iconst (1), .invokevirtual 57, .iinc 4 (1), .iinc 5 (1), .goto 22, .iload 4, .ireturn]
def xb_97 : List Nat := [0, 1, 2, 5, 6, 7, 10, 12, 13, 14, 17, 18, 19, 22, 23, 24, 27, 28, 31, 32, 34, 35, 37, 39, 40, 43, 46, 47, 48, 50, 53, 54, 57, 60, 62, 63, 66, 68, 71, 74, 75, 78, 80, 81, 84, 87, 90, 93, 95]
/-- BitSolver.where(II)I -/
def xk_98 : List Instr := [.aload 0, .iload 1, .invokevirtual 95, .astore 3, .aload 3, .ifnull 11, .iload 2, .aload 3, .getfield 128, .invokestatic 79, .ifCond .ne 13, .iconst (-2), .ireturn, .aload 0, .invokevirtual 80, .astore 4, .iconst (0), .istore 5, .iload 5, .aload 4, .getfield 97, .if_icmp .ge 35, .aload 3, .aload 4, .iload 5, .invokevirtual 56, .aload 0, .getfield 34, .invokevirtual 62, .iload 2, .if_icmp .ne 33, .iload 5, .ireturn, .iinc 5 (1), .goto 18, .iconst (-1), .ireturn]
def xb_98 : List Nat := [0, 1, 2, 5, 6, 7, 10, 11, 12, 15, 18, 21, 23, 24, 25, 28, 30, 31, 33, 35, 37, 40, 43, 44, 46, 48, 51, 52, 55, 58, 59, 62, 64, 65, 68, 71, 72]
/-- BitSolver.widen(IIZ)I -/
def xk_99 : List Instr := [.aload 0, .iload 1, .invokevirtual 95, .astore 4, .aload 4, .ifnull 13, .iload 2, .invokestatic 83, .ifCond .eq 13, .iload 2, .aload 4, .getfield 128, .if_icmp .ge 15, .iconst (-2), .ireturn, .aload 0, .iload 2, .aload 4, .getfield 129, .invokevirtual 87, .astore 5, .aload 5, .ifnonnull 25, .iconst (-3), .ireturn, .iconst (0), .istore 6, .iload 6, .iconst (1), .aload 4, .getfield 129, .ishl, .if_icmp .ge 54, .aload 4, .getfield 131, .iload 6, .invokevirtual 56, .istore 7, .aload 5, .getfield 131, .iload 3, .ifCond .eq 50, .iload 7, .aload 4, .getfield 128, .invokestatic 46, .iload 2, .invokestatic 84, .iand, .goto 51, .iload 7, .invokevirtual 55, .iinc 6 (1), .goto 27, .aload 0, .getfield 33, .iconst (1), .isub, .ireturn]
def xb_99 : List Nat := [0, 1, 2, 5, 7, 9, 12, 13, 16, 19, 20, 22, 25, 28, 30, 31, 32, 33, 35, 38, 41, 43, 45, 48, 50, 51, 52, 54, 56, 57, 59, 62, 63, 66, 68, 71, 73, 76, 78, 80, 83, 84, 87, 89, 91, 94, 97, 98, 101, 102, 105, 107, 110, 113, 116, 117, 120, 121, 122]
/-- BitSolver.without(IZ)I -/
def xk_100 : List Instr := [.aload 0, .iload 1, .invokevirtual 95, .astore 3, .aload 3, .ifnull 9, .aload 3, .getfield 130, .ifCond .ne 11, .iconst (-2), .ireturn, .aload 0, .invokevirtual 80, .astore 4, .aload 0, .getfield 34, .aload 3, .getfield 129, .isub, .istore 5, .iconst (1), .aload 0, .getfield 34, .aload 3, .getfield 128, .isub, .ishl, .istore 6, .aload 0, .getfield 41, .iload 6, .invokevirtual 60, .iconst (0), .istore 7, .iload 7, .aload 4, .getfield 97, .if_icmp .ge 68, .aload 4, .iload 7, .invokevirtual 56, .istore 8, .iload 8, .iload 5, .aload 3, .getfield 128, .iadd, .ishr, .iload 5, .ishl, .iload 8, .iload 5, .invokestatic 84, .iand, .ior, .istore 9, .aload 0, .getfield 41, .iload 9, .aload 0, .getfield 41, .iload 9, .invokevirtual 56, .iconst (1), .iadd, .invokevirtual 57, .iinc 7 (1), .goto 34, .iload 2, .ifCond .eq 75, .iconst (1), .aload 3, .getfield 128, .ishl, .goto 76, .iconst (1), .istore 7, .iconst (0), .istore 8, .iconst (0), .istore 9, .iload 9, .iload 6, .if_icmp .ge 93, .aload 0, .getfield 41, .iload 9, .invokevirtual 56, .iload 7, .if_icmp .lt 91, .iinc 8 (1), .iinc 9 (1), .goto 81, .iload 8, .ireturn]
def xb_100 : List Nat := [0, 1, 2, 5, 6, 7, 10, 11, 14, 17, 19, 20, 21, 24, 26, 27, 30, 31, 34, 35, 37, 38, 39, 42, 43, 46, 47, 48, 50, 51, 54, 56, 59, 60, 62, 64, 66, 69, 72, 74, 76, 79, 81, 83, 85, 86, 89, 90, 91, 93, 94, 96, 98, 101, 102, 103, 105, 106, 109, 111, 112, 115, 117, 120, 121, 122, 125, 128, 131, 132, 135, 136, 137, 140, 141, 144, 145, 147, 148, 150, 151, 153, 155, 157, 160, 161, 164, 166, 169, 171, 174, 177, 180, 183, 185]
/-- BitSolver.word(I)I -/
def xk_101 : List Instr := [.iload 1, .invokestatic 83, .ifCond .ne 5, .iconst (-2), .ireturn, .aload 0, .getfield 34, .iload 1, .iadd, .iconst (12), .if_icmp .le 13, .iconst (-3), .ireturn, .aload 0, .iload 1, .aload 0, .getfield 34, .iload 1, .iadd, .invokevirtual 87, .astore 2, .aload 2, .ifnonnull 25, .iconst (-3), .ireturn, .aload 0, .dup, .getfield 34, .iload 1, .iadd, .putfield 34, .aload 2, .iconst (1), .putfield 130, .iconst (0), .istore 3, .iload 3, .iconst (1), .aload 0, .getfield 34, .ishl, .if_icmp .ge 51, .aload 2, .getfield 131, .iload 3, .iload 1, .invokestatic 84, .iand, .invokevirtual 55, .iinc 3 (1), .goto 36, .aload 0, .iconst (1), .putfield 40, .aload 0, .getfield 33, .iconst (1), .isub, .ireturn]
def xb_101 : List Nat := [0, 1, 4, 7, 9, 10, 11, 14, 15, 16, 18, 21, 23, 24, 25, 26, 27, 30, 31, 32, 35, 36, 37, 40, 42, 43, 44, 45, 48, 49, 50, 53, 54, 55, 58, 59, 60, 61, 62, 63, 66, 67, 70, 71, 74, 75, 76, 79, 80, 83, 86, 89, 90, 91, 94, 95, 98, 99, 100]
def xc_owns : List String := ["BitSolver", "BitSolver$Acts", "BitSolver$Diagram", "BitSolver$Row", "BitSolver$Term", "BitSolverLaw", "BitSolverModel", "java/lang/Integer", "java/util/Arrays"]
def xm_ocs : List Nat := [6, 6, 6, 6, 6, 6, 6, 6, 6, 6, 6, 6, 6, 6, 6, 6, 6, 6, 6, 6, 6, 6, 6, 6, 6, 6, 6, 6, 6, 6, 6, 6, 6, 6, 6, 6, 6, 6, 6, 5, 7, 8, 8, 1, 1, 1, 1, 1, 1, 1, 2, 2, 2, 2, 3, 3, 3, 3, 3, 3, 3, 4, 4, 0, 0, 0, 0, 0, 0, 0, 0, 0, 0, 0, 0, 0, 0, 0, 0, 0, 0, 0, 0, 0, 0, 0, 0, 0, 0, 0, 0, 0, 0, 0, 0, 0, 0, 0, 0, 0, 0, 0]
/-- links: owner, pool index, what it names; its word's place, whether it is a nest mate's -/
def xt_f : List ((Nat × Nat × Nat) × Nat × Nat) := [((0, 11, 32), 112, 0), ((0, 15, 33), 113, 0), ((0, 19, 34), 114, 0), ((0, 27, 35), 115, 0), ((0, 31, 36), 116, 0), ((0, 34, 37), 117, 0), ((0, 37, 38), 118, 0), ((0, 40, 39), 119, 0), ((0, 43, 40), 120, 0), ((0, 47, 41), 121, 0), ((0, 53, 42), 122, 0), ((0, 69, 130), 100, 1), ((0, 72, 131), 102, 1), ((0, 95, 128), 96, 1), ((0, 102, 129), 98, 1), ((0, 127, 97), 59, 1), ((0, 164, 64), 75, 1), ((2, 14, 64), 74, 0), ((2, 20, 65), 76, 0), ((2, 23, 66), 77, 0), ((2, 26, 67), 78, 0), ((3, 7, 97), 58, 0), ((3, 19, 96), 57, 0), ((4, 9, 128), 95, 0), ((4, 15, 129), 97, 0), ((4, 18, 130), 99, 0), ((4, 27, 131), 101, 0), ((6, 7, 1), 392, 0), ((6, 13, 2), 393, 0), ((6, 18, 3), 394, 0), ((6, 21, 6), 397, 0), ((6, 24, 8), 399, 0), ((6, 27, 10), 401, 0), ((6, 30, 11), 402, 0), ((6, 33, 12), 403, 0), ((6, 36, 13), 404, 0), ((6, 39, 14), 405, 0), ((6, 42, 15), 406, 0), ((6, 45, 0), 391, 0), ((6, 49, 4), 395, 0), ((6, 52, 5), 396, 0), ((6, 55, 7), 398, 0), ((6, 58, 9), 400, 0), ((6, 105, 16), 407, 0)]
def xt_m : List ((Nat × Nat × Nat) × Nat × Nat) := [((0, 3, 1000), 43, 0), ((0, 24, 54), 50, 1), ((0, 52, 50), 68, 1), ((0, 57, 61), 89, 1), ((0, 58, 58), 150, 1), ((0, 61, 83), 158, 0), ((0, 65, 87), 161, 0), ((0, 75, 84), 165, 0), ((0, 79, 55), 168, 1), ((0, 82, 79), 176, 0), ((0, 86, 95), 183, 0), ((0, 90, 45), 187, 1), ((0, 98, 49), 190, 1), ((0, 105, 2001), 193, 0), ((0, 111, 62), 194, 1), ((0, 114, 43), 202, 1), ((0, 118, 56), 229, 1), ((0, 121, 46), 234, 1), ((0, 124, 82), 243, 0), ((0, 130, 93), 247, 0), ((0, 134, 59), 263, 1), ((0, 138, 80), 283, 0), ((0, 142, 2002), 299, 0), ((0, 145, 60), 304, 1), ((0, 148, 57), 251, 1), ((0, 152, 74), 326, 0), ((0, 156, 40), 342, 0), ((0, 161, 51), 356, 1), ((0, 167, 52), 361, 1), ((0, 170, 85), 330, 0), ((0, 173, 90), 338, 0), ((0, 176, 78), 334, 0), ((1, 11, 84), 205, 1), ((1, 15, 46), 206, 0), ((1, 19, 48), 209, 0), ((1, 22, 47), 212, 0), ((1, 25, 2002), 215, 0), ((1, 30, 44), 218, 0), ((2, 3, 1000), 71, 0), ((2, 11, 54), 73, 1), ((2, 30, 60), 360, 1), ((2, 33, 56), 365, 1), ((2, 37, 53), 366, 0), ((2, 41, 57), 371, 1), ((3, 1, 1000), 53, 0), ((3, 13, 2001), 54, 0), ((3, 23, 2002), 267, 0), ((3, 26, 41), 308, 0), ((3, 32, 2003), 268, 0), ((4, 3, 1000), 92, 0), ((4, 24, 54), 94, 1), ((4, 31, 56), 198, 1), ((5, 9, 63), 40, 0), ((5, 12, 0), 386, 0), ((5, 13, 71), 146, 0), ((5, 17, 11), 444, 0), ((5, 18, 101), 154, 0), ((5, 22, 38), 448, 0), ((5, 23, 72), 172, 0), ((5, 27, 12), 466, 0), ((5, 28, 64), 179, 0), ((5, 32, 1), 470, 0), ((5, 33, 69), 221, 0), ((5, 36, 9), 488, 0), ((5, 37, 77), 225, 0), ((5, 40, 16), 492, 0), ((5, 41, 99), 230, 0), ((5, 45, 36), 496, 0), ((5, 46, 66), 235, 0), ((5, 49, 5), 500, 0), ((5, 50, 70), 239, 0), ((5, 53, 10), 504, 0), ((5, 54, 65), 255, 0), ((5, 57, 4), 508, 0), ((5, 58, 91), 259, 0), ((5, 61, 28), 512, 0), ((5, 62, 89), 271, 0), ((5, 65, 27), 516, 0), ((5, 66, 88), 275, 0), ((5, 69, 26), 520, 0), ((5, 70, 86), 279, 0), ((5, 73, 25), 524, 0), ((5, 74, 96), 287, 0), ((5, 77, 33), 532, 0), ((5, 78, 98), 291, 0), ((5, 81, 35), 536, 0), ((5, 82, 67), 295, 0), ((5, 86, 6), 540, 0), ((5, 87, 97), 300, 0), ((5, 90, 34), 544, 0), ((5, 91, 68), 314, 0), ((5, 94, 8), 548, 0), ((5, 95, 92), 318, 0), ((5, 98, 29), 552, 0), ((5, 99, 75), 322, 0), ((5, 102, 14), 556, 0), ((5, 103, 73), 348, 0), ((5, 106, 13), 569, 0), ((5, 107, 94), 352, 0), ((5, 110, 32), 573, 0), ((5, 111, 81), 372, 0), ((5, 114, 18), 581, 0), ((5, 115, 100), 376, 0), ((5, 118, 37), 585, 0), ((5, 119, 76), 380, 0), ((5, 122, 15), 589, 0), ((6, 1, 1000), 389, 0), ((6, 61, 20), 452, 0), ((6, 65, 3), 455, 0), ((6, 69, 2), 459, 0), ((6, 73, 24), 463, 0), ((6, 77, 31), 485, 0), ((6, 81, 19), 474, 0), ((6, 85, 7), 478, 0), ((6, 88, 17), 482, 0), ((6, 92, 21), 528, 0), ((6, 95, 23), 564, 0), ((6, 98, 25), 568, 0), ((6, 101, 22), 560, 0), ((6, 108, 30), 577, 0), ((8, 13, 42), 311, 0)]
def xt_c : List ((Nat × Nat × Nat) × Nat) := [((0, 9, 4), 46), ((0, 22, 3), 48), ((0, 50, 2), 66), ((2, 9, 3), 72), ((4, 22, 3), 93), ((5, 7, 1), 38), ((5, 10, 0), 384)]
def xt_k : List ((Nat × Nat × Int) × Nat) := [((2, 45, -1640531535), 370), ((6, 17, 98304), 390), ((7, 265, 1431655765), 345), ((7, 266, 858993459), 346), ((7, 267, 252645135), 347)]
/-- places of a method's words: code, its class's start, instance or static, selects -/
def xm_pws : List (Nat × Nat × Nat × Nat) := [(388, 33, 387, 0), (473, 33, 471, 472), (462, 33, 461, 20), (458, 33, 457, 19), (511, 33, 509, 510), (503, 33, 501, 502), (543, 33, 541, 542), (481, 33, 480, 22), (551, 33, 549, 550), (491, 33, 489, 490), (507, 33, 505, 506), (447, 33, 445, 446), (469, 33, 467, 468), (572, 33, 570, 571), (559, 33, 557, 558), (592, 33, 590, 591), (495, 33, 493, 494), (484, 33, 483, 0), (584, 33, 582, 583), (477, 33, 476, 21), (454, 33, 453, 0), (531, 33, 530, 23), (563, 33, 562, 24), (567, 33, 566, 25), (465, 33, 464, 0), (527, 33, 525, 526), (523, 33, 521, 522), (519, 33, 517, 518), (515, 33, 513, 514), (555, 33, 553, 554), (580, 33, 579, 26), (487, 33, 486, 0), (576, 33, 574, 575), (535, 33, 533, 534), (547, 33, 545, 546), (539, 33, 537, 538), (499, 33, 497, 498), (588, 33, 586, 587), (451, 33, 449, 450), (0, 0, 0, 0), (344, 37, 343, 0), (310, 36, 309, 0), (313, 36, 312, 0), (204, 34, 203, 0), (220, 34, 219, 0), (189, 34, 188, 0), (208, 34, 207, 0), (214, 34, 213, 0), (211, 34, 210, 0), (192, 34, 191, 0), (70, 31, 69, 0), (359, 31, 358, 16), (364, 31, 363, 17), (369, 31, 368, 18), (52, 29, 51, 0), (171, 29, 170, 2), (201, 29, 200, 5), (254, 29, 253, 8), (153, 29, 152, 0), (266, 29, 265, 9), (307, 29, 306, 11), (91, 32, 90, 0), (197, 32, 196, 4), (42, 28, 41, 0), (182, 28, 180, 181), (258, 28, 256, 257), (238, 28, 236, 237), (298, 28, 296, 297), (317, 28, 315, 316), (224, 28, 222, 223), (242, 28, 240, 241), (149, 28, 147, 148), (175, 28, 173, 174), (351, 28, 349, 350), (329, 28, 328, 12), (325, 28, 323, 324), (383, 28, 381, 382), (228, 28, 226, 227), (337, 28, 336, 14), (178, 28, 177, 0), (286, 28, 285, 10), (375, 28, 373, 374), (246, 28, 245, 6), (160, 28, 159, 0), (167, 28, 166, 0), (333, 28, 332, 13), (282, 28, 280, 281), (164, 28, 163, 1), (278, 28, 276, 277), (274, 28, 272, 273), (341, 28, 340, 15), (262, 28, 260, 261), (321, 28, 319, 320), (250, 28, 249, 7), (355, 28, 353, 354), (186, 28, 185, 3), (290, 28, 288, 289), (303, 28, 301, 302), (294, 28, 292, 293), (233, 28, 231, 232), (379, 28, 377, 378), (157, 28, 155, 156)]
def xt_a : List (Nat × Nat) := [(2, 47)]
def xt_n : List ((Nat × Nat × Nat) × Nat) := [((0, 9, 2), 46)]
def xm_code (y : Nat) : List Instr := match y with
  | 0 => xk_0
  | 1 => xk_1
  | 2 => xk_2
  | 3 => xk_3
  | 4 => xk_4
  | 5 => xk_5
  | 6 => xk_6
  | 7 => xk_7
  | 8 => xk_8
  | 9 => xk_9
  | 10 => xk_10
  | 11 => xk_11
  | 12 => xk_12
  | 13 => xk_13
  | 14 => xk_14
  | 15 => xk_15
  | 16 => xk_16
  | 17 => xk_17
  | 18 => xk_18
  | 19 => xk_19
  | 20 => xk_20
  | 21 => xk_21
  | 22 => xk_22
  | 23 => xk_23
  | 24 => xk_24
  | 25 => xk_25
  | 26 => xk_26
  | 27 => xk_27
  | 28 => xk_28
  | 29 => xk_29
  | 30 => xk_30
  | 31 => xk_31
  | 32 => xk_32
  | 33 => xk_33
  | 34 => xk_34
  | 35 => xk_35
  | 36 => xk_36
  | 37 => xk_37
  | 38 => xk_38
  | 39 => xk_39
  | 40 => xk_40
  | 41 => xk_41
  | 42 => xk_42
  | 43 => xk_43
  | 44 => xk_44
  | 45 => xk_45
  | 46 => xk_46
  | 47 => xk_47
  | 48 => xk_48
  | 49 => xk_49
  | 50 => xk_50
  | 51 => xk_51
  | 52 => xk_52
  | 53 => xk_53
  | 54 => xk_54
  | 55 => xk_55
  | 56 => xk_56
  | 57 => xk_57
  | 58 => xk_58
  | 59 => xk_59
  | 60 => xk_60
  | 61 => xk_61
  | 62 => xk_62
  | 63 => xk_63
  | 64 => xk_64
  | 65 => xk_65
  | 66 => xk_66
  | 67 => xk_67
  | 68 => xk_68
  | 69 => xk_69
  | 70 => xk_70
  | 71 => xk_71
  | 72 => xk_72
  | 73 => xk_73
  | 74 => xk_74
  | 75 => xk_75
  | 76 => xk_76
  | 77 => xk_77
  | 78 => xk_78
  | 79 => xk_79
  | 80 => xk_80
  | 81 => xk_81
  | 82 => xk_82
  | 83 => xk_83
  | 84 => xk_84
  | 85 => xk_85
  | 86 => xk_86
  | 87 => xk_87
  | 88 => xk_88
  | 89 => xk_89
  | 90 => xk_90
  | 91 => xk_91
  | 92 => xk_92
  | 93 => xk_93
  | 94 => xk_94
  | 95 => xk_95
  | 96 => xk_96
  | 97 => xk_97
  | 98 => xk_98
  | 99 => xk_99
  | 100 => xk_100
  | 101 => xk_101
  | _ => []
def xm_bps (y : Nat) : List Nat := match y with
  | 0 => xb_0
  | 1 => xb_1
  | 2 => xb_2
  | 3 => xb_3
  | 4 => xb_4
  | 5 => xb_5
  | 6 => xb_6
  | 7 => xb_7
  | 8 => xb_8
  | 9 => xb_9
  | 10 => xb_10
  | 11 => xb_11
  | 12 => xb_12
  | 13 => xb_13
  | 14 => xb_14
  | 15 => xb_15
  | 16 => xb_16
  | 17 => xb_17
  | 18 => xb_18
  | 19 => xb_19
  | 20 => xb_20
  | 21 => xb_21
  | 22 => xb_22
  | 23 => xb_23
  | 24 => xb_24
  | 25 => xb_25
  | 26 => xb_26
  | 27 => xb_27
  | 28 => xb_28
  | 29 => xb_29
  | 30 => xb_30
  | 31 => xb_31
  | 32 => xb_32
  | 33 => xb_33
  | 34 => xb_34
  | 35 => xb_35
  | 36 => xb_36
  | 37 => xb_37
  | 38 => xb_38
  | 39 => xb_39
  | 40 => xb_40
  | 41 => xb_41
  | 42 => xb_42
  | 43 => xb_43
  | 44 => xb_44
  | 45 => xb_45
  | 46 => xb_46
  | 47 => xb_47
  | 48 => xb_48
  | 49 => xb_49
  | 50 => xb_50
  | 51 => xb_51
  | 52 => xb_52
  | 53 => xb_53
  | 54 => xb_54
  | 55 => xb_55
  | 56 => xb_56
  | 57 => xb_57
  | 58 => xb_58
  | 59 => xb_59
  | 60 => xb_60
  | 61 => xb_61
  | 62 => xb_62
  | 63 => xb_63
  | 64 => xb_64
  | 65 => xb_65
  | 66 => xb_66
  | 67 => xb_67
  | 68 => xb_68
  | 69 => xb_69
  | 70 => xb_70
  | 71 => xb_71
  | 72 => xb_72
  | 73 => xb_73
  | 74 => xb_74
  | 75 => xb_75
  | 76 => xb_76
  | 77 => xb_77
  | 78 => xb_78
  | 79 => xb_79
  | 80 => xb_80
  | 81 => xb_81
  | 82 => xb_82
  | 83 => xb_83
  | 84 => xb_84
  | 85 => xb_85
  | 86 => xb_86
  | 87 => xb_87
  | 88 => xb_88
  | 89 => xb_89
  | 90 => xb_90
  | 91 => xb_91
  | 92 => xb_92
  | 93 => xb_93
  | 94 => xb_94
  | 95 => xb_95
  | 96 => xb_96
  | 97 => xb_97
  | 98 => xb_98
  | 99 => xb_99
  | 100 => xb_100
  | 101 => xb_101
  | _ => []
end
section
/-! ===== an abstract machine for the program's methods: a heap of plain cells, frames of plain values ===== -/
abbrev xm_O : Type := (Nat × vp_A) ⊕ (Nat × List Value)
abbrev xm_S : Type := (Nat → Option xm_O) × Nat × Nat
abbrev xm_L : Type := List (Option Value)
abbrev xm_R : Type := (Nat × xm_L × List Value × xm_S) ⊕ ((Nat × List Value × List Value) ⊕ (Option Value))
def xm_name (y : Nat) : MethodName := (xm_names[y]?).getD ⟨"", "", ""⟩
def xm_bytes (y : Nat) : ByteArray := (xm_byteses[y]?).getD ⟨#[]⟩
def xm_maxL (y : Nat) : Nat := (xm_maxLs[y]?).getD 0
def xm_ret (y : Nat) : Option FieldType := (xm_rets[y]?).getD none
def xm_ar (y : Nat) : Nat := (xm_arities[y]?).getD 0
def xm_rv (y : Nat) : Option Nat := (xm_recvs[y]?).getD none
def xm_bp (y i : Nat) : Nat := ((xm_bps y)[i]?).getD 0
def xm_put (h : xm_S) (a : Nat) (o : xm_O) : xm_S := (fun q => if q = a then some o else h.1 q, h.2.1, h.2.2)
def xm_push (h : xm_S) (o : xm_O) (n : Nat) : xm_S := (fun q => if q = h.2.1 then some o else h.1 q, h.2.1 + 1, h.2.2 + n)
def xm_cond (c : Jvm.ClassFile.Cond) (x y : Int32) : Bool := match c with
  | .eq => decide (x = y)
  | .ne => decide (¬ x = y)
  | .lt => decide (x < y)
  | .ge => decide (y ≤ x)
  | .gt => decide (y < x)
  | .le => decide (x ≤ y)
def xm_b2 (f : Int32 → Int32 → Int32) (i : Nat) (ls : xm_L) (st : List Value) (h : xm_S) : Option xm_R := match st with
  | .int y :: .int x :: r => some (.inl (i + 1, ls, .int (f x y) :: r, h))
  | _ => none
def xm_call (y n : Nat) (st : List Value) (h : xm_S) : Option xm_R :=
  if n ≤ st.length ∧ (st.drop n).length ≤ 8 ∧ (∀ v ∈ st, v.category = 1) then
    match xm_rv y with
    | none => some (.inr (.inl (y, (st.take n).reverse, st.drop n)))
    | some ci => match (st.take n).reverse with
      | .ref a :: _ => match h.1 a with
        | some (.inr (cj, _)) => if cj = ci then some (.inr (.inl (y, (st.take n).reverse, st.drop n))) else none
        | _ => none
      | _ => none
  else none
/-- one instruction: the next state, a call, or the end -/
def xm_do (sc : Nat × Nat × (Nat → Int32)) (ins : Instr) (i : Nat) (ls : xm_L) (st : List Value) (h : xm_S) : Option xm_R :=
  match ins with
  | .iconst v => some (.inl (i + 1, ls, .int (Int32.ofInt v) :: st, h))
  | .aconst_null => some (.inl (i + 1, ls, .null :: st, h))
  | .iload k => match ls[k]? with
    | some (some (.int x)) => some (.inl (i + 1, ls, .int x :: st, h))
    | _ => none
  | .aload k => match ls[k]? with
    | some (some (.ref x)) => some (.inl (i + 1, ls, .ref x :: st, h))
    | some (some .null) => some (.inl (i + 1, ls, .null :: st, h))
    | _ => none
  | .istore k => match st with
    | .int x :: r => if k < ls.length then some (.inl (i + 1, ls.set k (some (.int x)), r, h)) else none
    | _ => none
  | .astore k => match st with
    | .ref x :: r => if k < ls.length then some (.inl (i + 1, ls.set k (some (.ref x)), r, h)) else none
    | .null :: r => if k < ls.length then some (.inl (i + 1, ls.set k (some .null), r, h)) else none
    | _ => none
  | .iinc k c => match ls[k]? with
    | some (some (.int x)) => some (.inl (i + 1, ls.set k (some (.int (x + Int32.ofInt c))), st, h))
    | _ => none
  | .dup => match st with
    | .int x :: r => some (.inl (i + 1, ls, .int x :: .int x :: r, h))
    | .ref x :: r => some (.inl (i + 1, ls, .ref x :: .ref x :: r, h))
    | _ => none
  | .pop => match st with
    | .int _ :: r => some (.inl (i + 1, ls, r, h))
    | .ref _ :: r => some (.inl (i + 1, ls, r, h))
    | _ => none
  | .iadd => xm_b2 (fun x y => x + y) i ls st h
  | .isub => xm_b2 (fun x y => x - y) i ls st h
  | .imul => xm_b2 (fun x y => x * y) i ls st h
  | .iand => xm_b2 (fun x y => x &&& y) i ls st h
  | .ior => xm_b2 (fun x y => x ||| y) i ls st h
  | .ixor => xm_b2 (fun x y => x ^^^ y) i ls st h
  | .ishl => xm_b2 (fun x y => x <<< (y &&& 31)) i ls st h
  | .ishr => xm_b2 (fun x y => x >>> (y &&& 31)) i ls st h
  | .iushr => xm_b2 (fun x y => (x.toUInt32 >>> (y.toUInt32 &&& Int32.toUInt32 31)).toInt32) i ls st h
  | .ineg => match st with
    | .int x :: r => some (.inl (i + 1, ls, .int (-x) :: r, h))
    | _ => none
  | .idiv => match st with
    | .int y :: .int x :: r => if y = 0 then none else some (.inl (i + 1, ls, .int (x / y) :: r, h))
    | _ => none
  | .irem => match st with
    | .int y :: .int x :: r => if y = 0 then none else some (.inl (i + 1, ls, .int (x - x / y * y) :: r, h))
    | _ => none
  | .ifCond c t => match st with
    | .int x :: r => some (.inl (if xm_cond c x 0 then t.toNat else i + 1, ls, r, h))
    | _ => none
  | .if_icmp c t => match st with
    | .int y :: .int x :: r => some (.inl (if xm_cond c x y then t.toNat else i + 1, ls, r, h))
    | _ => none
  | .ifnull t => match st with
    | .null :: r => some (.inl (t.toNat, ls, r, h))
    | .ref _ :: r => some (.inl (i + 1, ls, r, h))
    | _ => none
  | .ifnonnull t => match st with
    | .null :: r => some (.inl (i + 1, ls, r, h))
    | .ref _ :: r => some (.inl (t.toNat, ls, r, h))
    | _ => none
  | .goto t => some (.inl (t.toNat, ls, st, h))
  | .tableswitch d lo hi offs => match st with
    | .int x :: r => if x.toInt < lo ∨ hi < x.toInt then some (.inl (d.toNat, ls, r, h)) else match offs[(x.toInt - lo).toNat]? with
      | some t => some (.inl (t.toNat, ls, r, h))
      | none => none
    | _ => none
  | .getfield n => match st with
    | .ref a :: r => match h.1 a with
      | some (.inr (ci, fs)) => if ci = n / 32 then match fs[n % 32]? with
          | some v => some (.inl (i + 1, ls, v :: r, h))
          | none => none
        else none
      | _ => none
    | _ => none
  | .putfield n => match st with
    | v :: .ref a :: r => match h.1 a with
      | some (.inr (ci, fs)) => if ci = n / 32 ∧ n % 32 < fs.length ∧ narrow (xc_ty ci (n % 32)) v = v ∧ fits (xc_ty ci (n % 32)) v = true then some (.inl (i + 1, ls, r, xm_put h a (.inr (ci, fs.set (n % 32) v)))) else none
      | _ => none
    | _ => none
  | .arraylength => match st with
    | .ref a :: r => match h.1 a with
      | some (.inl (t, n, _)) => if t < xc_arr.length then some (.inl (i + 1, ls, .int (nI n) :: r, h)) else none
      | some (.inr _) => none
      | none => if a = sc.1 then some (.inl (i + 1, ls, .int (nI sc.2.1) :: r, h)) else none
    | _ => none
  | .iaload => match st with
    | .int j :: .ref a :: r => match h.1 a with
      | some (.inl (0, n, .inl f)) => if j < 0 ∨ n ≤ j.toNatClampNeg then none else some (.inl (i + 1, ls, .int (f j.toNatClampNeg) :: r, h))
      | some _ => none
      | none => if a = sc.1 then (if j < 0 ∨ sc.2.1 ≤ j.toNatClampNeg then none else some (.inl (i + 1, ls, .int (sc.2.2 j.toNatClampNeg) :: r, h))) else none
    | _ => none
  | .baload => match st with
    | .int j :: .ref a :: r => match h.1 a with
      | some (.inl (1, n, .inl f)) => if j < 0 ∨ n ≤ j.toNatClampNeg then none else some (.inl (i + 1, ls, .int (f j.toNatClampNeg) :: r, h))
      | _ => none
    | _ => none
  | .aaload => match st with
    | .int j :: .ref a :: r => match h.1 a with
      | some (.inl (t, n, .inr (.inr (.inr (.inr f))))) => if j < 0 ∨ n ≤ j.toNatClampNeg ∨ t < 2 ∨ xc_arr.length ≤ t then none else some (.inl (i + 1, ls, va_rf (f j.toNatClampNeg) :: r, h))
      | _ => none
    | _ => none
  | .iastore => match st with
    | .int x :: .int j :: .ref a :: r => match h.1 a with
      | some (.inl (0, n, .inl f)) => if j < 0 ∨ n ≤ j.toNatClampNeg then none else some (.inl (i + 1, ls, r, xm_put h a (.inl (0, n, .inl (upd f j.toNatClampNeg x)))))
      | _ => none
    | _ => none
  | .bastore => match st with
    | .int x :: .int j :: .ref a :: r => match h.1 a with
      | some (.inl (1, n, .inl f)) => if j < 0 ∨ n ≤ j.toNatClampNeg then none else some (.inl (i + 1, ls, r, xm_put h a (.inl (1, n, .inl (upd f j.toNatClampNeg (vp_nar .boolean x))))))
      | _ => none
    | _ => none
  | .aastore => match st with
    | .ref v :: .int j :: .ref a :: r => match h.1 a with
      | some (.inl (t, n, .inr (.inr (.inr (.inr f))))) => match h.1 v with
        | some (.inr (ci, _)) => if j < 0 ∨ n ≤ j.toNatClampNeg ∨ t < 2 ∨ xc_arr.length ≤ t ∨ xc_comp t ≠ ci then none else some (.inl (i + 1, ls, r, xm_put h a (.inl (t, n, .inr (.inr (.inr (.inr (va_up f j.toNatClampNeg (some v)))))))))
        | _ => none
      | _ => none
    | _ => none
  | .newarray .int => match st with
    | .int n :: r => if n < 0 ∨ 134217728 < n.toNatClampNeg then none else some (.inl (i + 1, ls, .ref h.2.1 :: r, xm_push h (.inl (0, n.toNatClampNeg, .inl (fun _ => 0))) n.toNatClampNeg))
    | _ => none
  | .newarray .boolean => match st with
    | .int n :: r => if n < 0 ∨ 134217728 < n.toNatClampNeg then none else some (.inl (i + 1, ls, .ref h.2.1 :: r, xm_push h (.inl (1, n.toNatClampNeg, .inl (fun _ => 0))) n.toNatClampNeg))
    | _ => none
  | .anewarray t => match st with
    | .int n :: r => if n < 0 ∨ 134217728 < n.toNatClampNeg then none else some (.inl (i + 1, ls, .ref h.2.1 :: r, xm_push h (.inl (t, n.toNatClampNeg, .inr (.inr (.inr (.inr (fun _ => none)))))) n.toNatClampNeg))
    | _ => none
  | .new ci => some (.inl (i + 1, ls, .ref h.2.1 :: st, xm_push h (.inr (ci, xc_def ci)) (xc_def ci).length))
  | .invokespecial y => if y = 1000 then (match st with
      | .ref _ :: r => if r.length ≤ 8 ∧ (∀ v ∈ r, v.category = 1) then some (.inl (i + 1, ls, r, h)) else none
      | _ => none) else xm_call y (xm_ar y) st h
  | .invokevirtual y => xm_call y (xm_ar y) st h
  | .invokestatic y => if y = 2001 then (match st with
      | .int b :: .int a :: r => if r.length ≤ 8 ∧ (∀ v ∈ r, v.category = 1) then some (.inl (i + 1, ls, .int (if a < b then b else a) :: r, h)) else none
      | _ => none) else if y = 2002 then (match st with
      | .int b :: .int a :: r => if r.length ≤ 8 ∧ (∀ v ∈ r, v.category = 1) then some (.inl (i + 1, ls, .int (if b < a then b else a) :: r, h)) else none
      | _ => none) else if y = 2003 then (match st with
      | .int n :: .int dp :: .ref a :: .int sp :: .ref a0 :: r => match h.1 a0, h.1 a with
        | some (.inl (0, n0, .inl f)), some (.inl (0, n1, .inl g)) => if sp < 0 ∨ dp < 0 ∨ n < 0 ∨ n0 < sp.toNatClampNeg + n.toNatClampNeg ∨ n1 < dp.toNatClampNeg + n.toNatClampNeg ∨ 8 < r.length ∨ ¬ (∀ v ∈ r, v.category = 1) then none else some (.inl (i + 1, ls, r, xm_put h a (.inl (0, n1, .inl (va_cpy f g sp.toNatClampNeg dp.toNatClampNeg n.toNatClampNeg)))))
        | _, _ => none
      | _ => none) else xm_call y (xm_ar y) st h
  | .areturn => match st with
    | [.ref a] => some (.inr (.inr (some (.ref a))))
    | [.null] => some (.inr (.inr (some .null)))
    | _ => none
  | .return_ => match st with
    | [] => some (.inr (.inr none))
    | _ => none
  | _ => none
def xm_act (sc : Nat × Nat × (Nat → Int32)) (y i : Nat) (ls : xm_L) (st : List Value) (h : xm_S) : Option xm_R := match (xm_code y)[i]? with
  | some .ireturn => match st with
    | [.int v] => if xm_ret y = some .boolean ∧ ¬ narrow .boolean (.int v) = .int v then none else some (.inr (.inr (some (.int v))))
    | _ => none
  | some ins => xm_do sc ins i ls st h
  | none => none
def xm_entry (y : Nat) (as : List Value) : xm_L := as.map some ++ List.replicate (xm_maxL y - as.length) none
/-- the machine: fuel n, calls at most d deep; the answer and the heap behind it -/
def xm_ev (sc : Nat × Nat × (Nat → Int32)) : Nat → Nat → Nat → Nat → xm_L → List Value → xm_S → Option (Option Value × xm_S)
  | 0, _, _, _, _, _, _ => none
  | n + 1, d, y, i, ls, st, h => match xm_act sc y i ls st h with
    | none => none
    | some (.inl (i', ls', st', h')) => xm_ev sc n d y i' ls' st' h'
    | some (.inr (.inl (y', as, rest))) => match d with
      | 0 => none
      | d' + 1 => match xm_ev sc n d' y' 0 (xm_entry y' as) [] h with
        | none => none
        | some (r, h') => xm_ev sc n (d' + 1) y (i + 1) ls (r.toList ++ rest) h'
    | some (.inr (.inr r)) => some (r, h)
end
section
/-! ===== what the abstract machine comes to ===== -/
theorem xm_ev_mono {sc : Nat × Nat × (Nat → Int32)} : ∀ (n d y i : Nat) (ls : xm_L) (st : List Value) (h : xm_S) (r : Option Value × xm_S), xm_ev sc n d y i ls st h = some r → ∀ n' d' : Nat, n ≤ n' → d ≤ d' → xm_ev sc n' d' y i ls st h = some r := by
  intro n
  induction n with
  | zero => intro d y i ls st h r e; cases e
  | succ n ih =>
    intro d y i ls st h r e n' d' hn hd
    obtain ⟨n'', rfl⟩ : ∃ k, n' = k + 1 := ⟨n' - 1, by omega⟩
    unfold xm_ev at e ⊢
    split at e
    · cases e
    · rename_i i1 ls1 st1 h1 hact
      try rw [hact]
      exact ih _ _ _ _ _ _ _ e _ _ (by omega) hd
    · rename_i y1 as1 rest1 hact
      try rw [hact]
      cases d with
      | zero => cases e
      | succ d0 =>
        obtain ⟨d'', rfl⟩ : ∃ k, d' = k + 1 := ⟨d' - 1, by omega⟩
        dsimp only at e ⊢
        split at e
        · cases e
        · rename_i r1 h1 hev
          rw [ih _ _ _ _ _ _ _ hev n'' d'' (by omega) (by omega)]
          exact ih _ _ _ _ _ _ _ e _ _ (by omega) (by omega)
    · rename_i r1 hact
      try rw [hact]
      exact e
def xm_wp (sc : Nat × Nat × (Nat → Int32)) (d y i : Nat) (ls : xm_L) (st : List Value) (h : xm_S) (Q : Option Value → xm_S → Prop) : Prop := ∃ (n : Nat) (r : Option Value) (h' : xm_S), xm_ev sc n d y i ls st h = some (r, h') ∧ Q r h'
def xm_run (sc : Nat × Nat × (Nat → Int32)) : Nat → Nat → Nat → xm_L → List Value → xm_S → Option (Nat × xm_L × List Value × xm_S)
  | 0, _, i, ls, st, h => some (i, ls, st, h)
  | k + 1, y, i, ls, st, h => match xm_act sc y i ls st h with
    | some (.inl (i', ls', st', h')) => xm_run sc k y i' ls' st' h'
    | _ => none
section WP
variable {sc : Nat × Nat × (Nat → Int32)} {d y i i' : Nat} {ls ls' : xm_L} {st st' r rest : List Value} {h h' : xm_S} {Q Q' : Option Value → xm_S → Prop}
theorem wp_mono (k : xm_wp sc d y i ls st h Q) (hq : ∀ r h', Q r h' → Q' r h') : xm_wp sc d y i ls st h Q' := by
  obtain ⟨n, r, h', e, q⟩ := k
  exact ⟨n, r, h', e, hq r h' q⟩
theorem wp_deep {d' : Nat} (k : xm_wp sc d y i ls st h Q) (hd : d ≤ d') : xm_wp sc d' y i ls st h Q := by
  obtain ⟨n, r, h', e, q⟩ := k
  exact ⟨n, r, h', xm_ev_mono _ _ _ _ _ _ _ _ e _ _ (Nat.le_refl _) hd, q⟩
theorem wp_step (hs : xm_act sc y i ls st h = some (.inl (i', ls', st', h'))) (k : xm_wp sc d y i' ls' st' h' Q) : xm_wp sc d y i ls st h Q := by
  obtain ⟨n, r, h1, e, q⟩ := k
  exact ⟨n + 1, r, h1, by unfold xm_ev; rw [hs]; exact e, q⟩
theorem wp_ret {v : Option Value} (hs : xm_act sc y i ls st h = some (.inr (.inr v))) (hq : Q v h) : xm_wp sc d y i ls st h Q :=
  ⟨1, v, h, by unfold xm_ev; rw [hs], hq⟩
theorem wp_call {y' : Nat} {as : List Value} (hs : xm_act sc y i ls st h = some (.inr (.inl (y', as, rest)))) (k : xm_wp sc d y' 0 (xm_entry y' as) [] h (fun v h' => xm_wp sc (d + 1) y (i + 1) ls (v.toList ++ rest) h' Q)) : xm_wp sc (d + 1) y i ls st h Q := by
  obtain ⟨n, r, h1, e, n2, r2, h2, e2, q⟩ := k
  refine ⟨(n + n2) + 1, r2, h2, ?_, q⟩
  unfold xm_ev
  rw [hs]
  dsimp only
  rw [xm_ev_mono _ _ _ _ _ _ _ _ e (n + n2) d (by omega) (Nat.le_refl _)]
  exact xm_ev_mono _ _ _ _ _ _ _ _ e2 _ _ (by omega) (Nat.le_refl _)
theorem wp_run (k : Nat) : ∀ {i i' : Nat} {ls ls' : xm_L} {st st' : List Value} {h h' : xm_S}, xm_run sc k y i ls st h = some (i', ls', st', h') → xm_wp sc d y i' ls' st' h' Q → xm_wp sc d y i ls st h Q := by
  induction k with
  | zero =>
    intro i i' ls ls' st st' h h' e w
    cases e
    exact w
  | succ k ih =>
    intro i i' ls ls' st st' h h' e w
    unfold xm_run at e
    split at e
    · rename_i i1 ls1 st1 h1 hact
      exact wp_step hact (ih e w)
    · cases e
theorem wp_if_eq {x : Int32} {t : Int} (hc : (xm_code y)[i]? = some (.ifCond .eq t)) (kt : x = 0 → xm_wp sc d y t.toNat ls r h Q) (kf : ¬ x = 0 → xm_wp sc d y (i + 1) ls r h Q) : xm_wp sc d y i ls (.int x :: r) h Q := by
  by_cases hq : x = 0
  · exact wp_step (by unfold xm_act; rw [hc]; simp only [xm_do, xm_cond, hq, decide_true, if_true, not_false_eq_true]) (kt hq)
  · exact wp_step (by unfold xm_act; rw [hc]; simp only [xm_do, xm_cond, hq, decide_false, if_false, Bool.false_eq_true, not_false_eq_true]) (kf hq)
theorem wp_ic_eq {x z : Int32} {t : Int} (hc : (xm_code y)[i]? = some (.if_icmp .eq t)) (kt : x = z → xm_wp sc d y t.toNat ls r h Q) (kf : ¬ x = z → xm_wp sc d y (i + 1) ls r h Q) : xm_wp sc d y i ls (.int z :: .int x :: r) h Q := by
  by_cases hq : x = z
  · exact wp_step (by unfold xm_act; rw [hc]; simp only [xm_do, xm_cond, hq, decide_true, if_true, not_false_eq_true]) (kt hq)
  · exact wp_step (by unfold xm_act; rw [hc]; simp only [xm_do, xm_cond, hq, decide_false, if_false, Bool.false_eq_true, not_false_eq_true]) (kf hq)
theorem wp_if_ne {x : Int32} {t : Int} (hc : (xm_code y)[i]? = some (.ifCond .ne t)) (kt : ¬ x = 0 → xm_wp sc d y t.toNat ls r h Q) (kf : x = 0 → xm_wp sc d y (i + 1) ls r h Q) : xm_wp sc d y i ls (.int x :: r) h Q := by
  by_cases hq : ¬ x = 0
  · exact wp_step (by unfold xm_act; rw [hc]; simp only [xm_do, xm_cond, hq, decide_true, if_true, not_false_eq_true]) (kt hq)
  · exact wp_step (by unfold xm_act; rw [hc]; simp only [xm_do, xm_cond, hq, decide_false, if_false, Bool.false_eq_true, not_false_eq_true]) (kf (Classical.not_not.mp hq))
theorem wp_ic_ne {x z : Int32} {t : Int} (hc : (xm_code y)[i]? = some (.if_icmp .ne t)) (kt : ¬ x = z → xm_wp sc d y t.toNat ls r h Q) (kf : x = z → xm_wp sc d y (i + 1) ls r h Q) : xm_wp sc d y i ls (.int z :: .int x :: r) h Q := by
  by_cases hq : ¬ x = z
  · exact wp_step (by unfold xm_act; rw [hc]; simp only [xm_do, xm_cond, hq, decide_true, if_true, not_false_eq_true]) (kt hq)
  · exact wp_step (by unfold xm_act; rw [hc]; simp only [xm_do, xm_cond, hq, decide_false, if_false, Bool.false_eq_true, not_false_eq_true]) (kf (Classical.not_not.mp hq))
theorem wp_if_lt {x : Int32} {t : Int} (hc : (xm_code y)[i]? = some (.ifCond .lt t)) (kt : x < 0 → xm_wp sc d y t.toNat ls r h Q) (kf : ¬ x < 0 → xm_wp sc d y (i + 1) ls r h Q) : xm_wp sc d y i ls (.int x :: r) h Q := by
  by_cases hq : x < 0
  · exact wp_step (by unfold xm_act; rw [hc]; simp only [xm_do, xm_cond, hq, decide_true, if_true, not_false_eq_true]) (kt hq)
  · exact wp_step (by unfold xm_act; rw [hc]; simp only [xm_do, xm_cond, hq, decide_false, if_false, Bool.false_eq_true, not_false_eq_true]) (kf hq)
theorem wp_ic_lt {x z : Int32} {t : Int} (hc : (xm_code y)[i]? = some (.if_icmp .lt t)) (kt : x < z → xm_wp sc d y t.toNat ls r h Q) (kf : ¬ x < z → xm_wp sc d y (i + 1) ls r h Q) : xm_wp sc d y i ls (.int z :: .int x :: r) h Q := by
  by_cases hq : x < z
  · exact wp_step (by unfold xm_act; rw [hc]; simp only [xm_do, xm_cond, hq, decide_true, if_true, not_false_eq_true]) (kt hq)
  · exact wp_step (by unfold xm_act; rw [hc]; simp only [xm_do, xm_cond, hq, decide_false, if_false, Bool.false_eq_true, not_false_eq_true]) (kf hq)
theorem wp_if_ge {x : Int32} {t : Int} (hc : (xm_code y)[i]? = some (.ifCond .ge t)) (kt : 0 ≤ x → xm_wp sc d y t.toNat ls r h Q) (kf : ¬ 0 ≤ x → xm_wp sc d y (i + 1) ls r h Q) : xm_wp sc d y i ls (.int x :: r) h Q := by
  by_cases hq : 0 ≤ x
  · exact wp_step (by unfold xm_act; rw [hc]; simp only [xm_do, xm_cond, hq, decide_true, if_true, not_false_eq_true]) (kt hq)
  · exact wp_step (by unfold xm_act; rw [hc]; simp only [xm_do, xm_cond, hq, decide_false, if_false, Bool.false_eq_true, not_false_eq_true]) (kf hq)
theorem wp_ic_ge {x z : Int32} {t : Int} (hc : (xm_code y)[i]? = some (.if_icmp .ge t)) (kt : z ≤ x → xm_wp sc d y t.toNat ls r h Q) (kf : ¬ z ≤ x → xm_wp sc d y (i + 1) ls r h Q) : xm_wp sc d y i ls (.int z :: .int x :: r) h Q := by
  by_cases hq : z ≤ x
  · exact wp_step (by unfold xm_act; rw [hc]; simp only [xm_do, xm_cond, hq, decide_true, if_true, not_false_eq_true]) (kt hq)
  · exact wp_step (by unfold xm_act; rw [hc]; simp only [xm_do, xm_cond, hq, decide_false, if_false, Bool.false_eq_true, not_false_eq_true]) (kf hq)
theorem wp_if_gt {x : Int32} {t : Int} (hc : (xm_code y)[i]? = some (.ifCond .gt t)) (kt : 0 < x → xm_wp sc d y t.toNat ls r h Q) (kf : ¬ 0 < x → xm_wp sc d y (i + 1) ls r h Q) : xm_wp sc d y i ls (.int x :: r) h Q := by
  by_cases hq : 0 < x
  · exact wp_step (by unfold xm_act; rw [hc]; simp only [xm_do, xm_cond, hq, decide_true, if_true, not_false_eq_true]) (kt hq)
  · exact wp_step (by unfold xm_act; rw [hc]; simp only [xm_do, xm_cond, hq, decide_false, if_false, Bool.false_eq_true, not_false_eq_true]) (kf hq)
theorem wp_ic_gt {x z : Int32} {t : Int} (hc : (xm_code y)[i]? = some (.if_icmp .gt t)) (kt : z < x → xm_wp sc d y t.toNat ls r h Q) (kf : ¬ z < x → xm_wp sc d y (i + 1) ls r h Q) : xm_wp sc d y i ls (.int z :: .int x :: r) h Q := by
  by_cases hq : z < x
  · exact wp_step (by unfold xm_act; rw [hc]; simp only [xm_do, xm_cond, hq, decide_true, if_true, not_false_eq_true]) (kt hq)
  · exact wp_step (by unfold xm_act; rw [hc]; simp only [xm_do, xm_cond, hq, decide_false, if_false, Bool.false_eq_true, not_false_eq_true]) (kf hq)
theorem wp_if_le {x : Int32} {t : Int} (hc : (xm_code y)[i]? = some (.ifCond .le t)) (kt : x ≤ 0 → xm_wp sc d y t.toNat ls r h Q) (kf : ¬ x ≤ 0 → xm_wp sc d y (i + 1) ls r h Q) : xm_wp sc d y i ls (.int x :: r) h Q := by
  by_cases hq : x ≤ 0
  · exact wp_step (by unfold xm_act; rw [hc]; simp only [xm_do, xm_cond, hq, decide_true, if_true, not_false_eq_true]) (kt hq)
  · exact wp_step (by unfold xm_act; rw [hc]; simp only [xm_do, xm_cond, hq, decide_false, if_false, Bool.false_eq_true, not_false_eq_true]) (kf hq)
theorem wp_ic_le {x z : Int32} {t : Int} (hc : (xm_code y)[i]? = some (.if_icmp .le t)) (kt : x ≤ z → xm_wp sc d y t.toNat ls r h Q) (kf : ¬ x ≤ z → xm_wp sc d y (i + 1) ls r h Q) : xm_wp sc d y i ls (.int z :: .int x :: r) h Q := by
  by_cases hq : x ≤ z
  · exact wp_step (by unfold xm_act; rw [hc]; simp only [xm_do, xm_cond, hq, decide_true, if_true, not_false_eq_true]) (kt hq)
  · exact wp_step (by unfold xm_act; rw [hc]; simp only [xm_do, xm_cond, hq, decide_false, if_false, Bool.false_eq_true, not_false_eq_true]) (kf hq)
theorem wp_goto {t : Int} (hc : (xm_code y)[i]? = some (.goto t)) (k : xm_wp sc d y t.toNat ls st h Q) : xm_wp sc d y i ls st h Q := wp_step (by unfold xm_act; rw [hc]; rfl) k
theorem wp_get {n a : Nat} {fs : List Value} {v : Value} (hc : (xm_code y)[i]? = some (.getfield n)) (ha : h.1 a = some (.inr (n / 32, fs))) (hv : fs[n % 32]? = some v) (k : xm_wp sc d y (i + 1) ls (v :: r) h Q) : xm_wp sc d y i ls (.ref a :: r) h Q :=
  wp_step (by unfold xm_act; rw [hc]; simp only [xm_do, ha, hv, if_true]) k
theorem wp_putf {n a : Nat} {fs : List Value} {v : Value} (hc : (xm_code y)[i]? = some (.putfield n)) (ha : h.1 a = some (.inr (n / 32, fs))) (hk : n % 32 < fs.length) (hn : narrow (xc_ty (n / 32) (n % 32)) v = v) (hf : fits (xc_ty (n / 32) (n % 32)) v = true) (k : xm_wp sc d y (i + 1) ls r (xm_put h a (.inr (n / 32, fs.set (n % 32) v))) Q) : xm_wp sc d y i ls (v :: .ref a :: r) h Q :=
  wp_step (by unfold xm_act; rw [hc]; simp only [xm_do, ha, hk, hn, hf, and_self, if_true]) k
theorem wp_iald {n a : Nat} {f : Nat → Int32} {j : Int32} (hc : (xm_code y)[i]? = some .iaload) (ha : h.1 a = some (.inl (0, n, .inl f))) (hj : vp_in j n) (k : xm_wp sc d y (i + 1) ls (.int (f j.toNatClampNeg) :: r) h Q) : xm_wp sc d y i ls (.int j :: .ref a :: r) h Q :=
  wp_step (by unfold xm_act; rw [hc]; simp only [xm_do, ha]; rw [if_neg hj]) k
theorem wp_bald {n a : Nat} {f : Nat → Int32} {j : Int32} (hc : (xm_code y)[i]? = some .baload) (ha : h.1 a = some (.inl (1, n, .inl f))) (hj : vp_in j n) (k : xm_wp sc d y (i + 1) ls (.int (f j.toNatClampNeg) :: r) h Q) : xm_wp sc d y i ls (.int j :: .ref a :: r) h Q :=
  wp_step (by unfold xm_act; rw [hc]; simp only [xm_do, ha]; rw [if_neg hj]) k
theorem wp_iast {n a : Nat} {f : Nat → Int32} {j x : Int32} (hc : (xm_code y)[i]? = some .iastore) (ha : h.1 a = some (.inl (0, n, .inl f))) (hj : vp_in j n) (k : xm_wp sc d y (i + 1) ls r (xm_put h a (.inl (0, n, .inl (upd f j.toNatClampNeg x)))) Q) : xm_wp sc d y i ls (.int x :: .int j :: .ref a :: r) h Q :=
  wp_step (by unfold xm_act; rw [hc]; simp only [xm_do, ha]; rw [if_neg hj]) k
theorem wp_bast {n a : Nat} {f : Nat → Int32} {j x : Int32} (hc : (xm_code y)[i]? = some .bastore) (ha : h.1 a = some (.inl (1, n, .inl f))) (hj : vp_in j n) (k : xm_wp sc d y (i + 1) ls r (xm_put h a (.inl (1, n, .inl (upd f j.toNatClampNeg (vp_nar .boolean x))))) Q) : xm_wp sc d y i ls (.int x :: .int j :: .ref a :: r) h Q :=
  wp_step (by unfold xm_act; rw [hc]; simp only [xm_do, ha]; rw [if_neg hj]) k
theorem wp_alen {n t a : Nat} {z : (Nat → Int32) ⊕ (Nat → Int64) ⊕ (Nat → UInt32) ⊕ (Nat → UInt64) ⊕ (Nat → Option Nat)} (hc : (xm_code y)[i]? = some .arraylength) (ha : h.1 a = some (.inl (t, n, z))) (ht : t < xc_arr.length) (k : xm_wp sc d y (i + 1) ls (.int (nI n) :: r) h Q) : xm_wp sc d y i ls (.ref a :: r) h Q :=
  wp_step (by unfold xm_act; rw [hc]; simp only [xm_do, ha, ht, if_true]) k
theorem wp_idiv {x z : Int32} (hc : (xm_code y)[i]? = some .idiv) (hz : ¬ z = 0) (k : xm_wp sc d y (i + 1) ls (.int (x / z) :: r) h Q) : xm_wp sc d y i ls (.int z :: .int x :: r) h Q :=
  wp_step (by unfold xm_act; rw [hc]; simp only [xm_do, hz, if_false]) k
theorem wp_irem {x z : Int32} (hc : (xm_code y)[i]? = some .irem) (hz : ¬ z = 0) (k : xm_wp sc d y (i + 1) ls (.int (x - x / z * z) :: r) h Q) : xm_wp sc d y i ls (.int z :: .int x :: r) h Q :=
  wp_step (by unfold xm_act; rw [hc]; simp only [xm_do, hz, if_false]) k
theorem wp_retZ {v : Int32} (hc : (xm_code y)[i]? = some .ireturn) (hv : v = 0 ∨ v = 1) (hq : Q (some (.int v)) h) : xm_wp sc d y i ls [.int v] h Q :=
  wp_ret (by unfold xm_act; rw [hc]; dsimp only; rw [if_neg]; rintro ⟨-, q⟩; rcases hv with rfl | rfl <;> exact q rfl) hq
theorem wp_retI {v : Int32} (hc : (xm_code y)[i]? = some .ireturn) (hr : xm_ret y = some .int) (hq : Q (some (.int v)) h) : xm_wp sc d y i ls [.int v] h Q :=
  wp_ret (by unfold xm_act; rw [hc]; dsimp only; rw [if_neg]; rintro ⟨q, -⟩; rw [hr] at q; cases q) hq
/-- the value on top gets a name -/
theorem wp_nm {v : Int32} (k : ∀ x : Int32, x = v → xm_wp sc d y i ls (.int x :: r) h Q) : xm_wp sc d y i ls (.int v :: r) h Q := k v rfl
end WP
end
section
/-! ===== the normalised code is the code: decided by the kernel ===== -/
def xc_host : String := "BitSolver"
def xm_isN : Cond → Bool
  | .methodLinkNest .. => true
  | .fieldLinkNest .. => true
  | .arrayOver (.object _) => true
  | _ => false
def xm_atG (pos : Nat) (w : Cond) : Bool := decide (lw_tbl[pos]? = some w) && goodWord w
def xm_atN (pos : Nat) (w : Cond) : Bool := decide (lw_tbl[pos]? = some w) && xm_isN w
def xm_own (y : Nat) : String := (xm_name y).cls
def xm_oc (y : Nat) : Nat := (xm_ocs[y]?).getD 0
def xm_own1 (oc : Nat) : String := (xc_owns[oc]?).getD ""
def xm_nx (y i len : Nat) : Bool := decide (xm_bp y (i + 1) = xm_bp y i + len)
def xm_tg (y i : Nat) (off t : Int) : Bool := decide ((xm_bp y i : Int) + off = (xm_bp y t.toNat : Int))
/-- a field's link -/
def xm_flw (own : String) (n ix pos nest : Nat) : Bool := match xc_cl[n / 32]? with
  | some q => decide (n % 32 < q.2.2) && (decide ((q.2.1 (n % 32)).1 = q.1) && (if nest = 0 then xm_atG pos (.fieldLink own ix q.1 (q.2.1 (n % 32)).2.1 (q.2.1 (n % 32)).2.2.1) else xm_atN pos (.fieldLinkNest own ix q.1 (q.2.1 (n % 32)).2.1 (q.2.1 (n % 32)).2.2.1 xc_host) && decide (own ≠ q.1)))
  | none => false
def xm_fl (y n ix : Nat) : Bool := xt_f.any (fun q => decide (q.1 = (xm_oc y, ix, n)))
/-- a final field is written in its own class's constructor -/
def xm_fin (y n : Nat) : Bool := match xc_cl[n / 32]? with
  | some q => decide ((q.2.1 (n % 32)).2.2.2 = false) || (decide ((xm_name y).name = "<init>") && decide (q.1 = xm_own y))
  | none => false
def xm_flp (y n ix : Nat) : Bool := xm_fl y n ix && xm_fin y n
def xm_mnm (y' : Nat) : MethodName := if y' = 1000 then objectInit else if y' = 2001 then Lib.Math.max.name else if y' = 2002 then Lib.Math.min.name else if y' = 2003 then arraycopyName else xm_name y'
def xm_mlw (own : String) (y' ix pos nest : Nat) : Bool := if nest = 0 then xm_atG pos (.methodLink own ix (xm_mnm y')) else xm_atN pos (.methodLinkNest own ix (xm_mnm y') xc_host) && decide (y' < 1000)
def xm_ml (y y' ix : Nat) : Bool := xt_m.any (fun q => decide (q.1 = (xm_oc y, ix, y')))
def xm_clw (own : String) (ci ix pos : Nat) : Bool := match xc_cl[ci]? with
  | some q => xm_atG pos (.classLink own ix q.1)
  | none => false
theorem xt_f_ok : xt_f.all (fun q => xm_flw (xm_own1 q.1.1) q.1.2.2 q.1.2.1 q.2.1 q.2.2) = true := by decide +kernel
theorem xt_m_ok : xt_m.all (fun q => xm_mlw (xm_own1 q.1.1) q.1.2.2 q.1.2.1 q.2.1 q.2.2) = true := by decide +kernel
theorem xt_c_ok : xt_c.all (fun q => xm_clw (xm_own1 q.1.1) q.1.2.2 q.1.2.1 q.2) = true := by decide +kernel
theorem xt_k_ok : xt_k.all (fun q => xm_atG q.2 (.constant (xm_own1 q.1.1) q.1.2.1 (Int32.ofInt q.1.2.2))) = true := by decide +kernel
theorem xt_o_ok : (List.range xm_names.length).all (fun y => decide (xm_own1 (xm_oc y) = xm_own y)) = true := by decide +kernel
def xm_anw (own : String) (t ix pos : Nat) : Bool := match xc_arr[t]? with
  | some (.object C) => xm_atG pos (.classLink own ix C) && decide (2 ≤ t)
  | _ => false
theorem xt_n_ok : xt_n.all (fun q => xm_anw (xm_own1 q.1.1) q.1.2.2 q.1.2.1 q.2) = true := by decide +kernel
def xm_aow (t pos : Nat) : Bool := match xc_arr[t]?, xc_cl[xc_comp t]? with
  | some (.object C), some q => xm_atN pos (.arrayOver (.object C)) && decide (q.1 = C)
  | _, _ => false
theorem xt_a_ok : xt_a.all (fun q => xm_aow q.1 q.2) = true := by decide +kernel
theorem xt_a_all : (List.range xc_arr.length).all (fun t => decide (t < 2) || xt_a.any (fun q => decide (q.1 = t))) = true := by decide +kernel
def xm_np (y n : Nat) : Bool := decide ((parseMethodDescriptor (xm_name y).desc).map (fun d => d.parameters.length) = some n)
def xm_pw (y : Nat) : Nat × Nat × Nat × Nat := (xm_pws[y]?).getD (0, 0, 0, 0)
/-- what a callee's own words are -/
def xm_cf (y : Nat) : Bool := xm_atG (xm_pw y).1 (.code (xm_name y) (xm_bytes y) (xm_maxL y) (xm_ret y)) && (xm_atG (xm_pw y).2.1 (.initialized (xm_name y).cls) && (decide ((xm_name y).cls ≠ "java/lang/invoke/MethodHandle") && (decide ((xm_name y).cls ≠ "java/lang/invoke/VarHandle") && (decide (xm_maxL y ≤ 11) && (decide (xm_ar y ≤ xm_maxL y) && plainName (xm_name y).cls)))))
def xm_ck (y : Nat) : Bool := match xm_rv y with
  | some ci => xm_atG (xm_pw y).2.2.1 (.instanceMethod (xm_name y)) && (decide (0 < xm_ar y) && (xm_np y (xm_ar y - 1) && (if (xm_name y).name = "<init>" then decide (xm_ret y = none) else xm_atG (xm_pw y).2.2.2 (.selects (xm_name y).cls (xm_name y) (xm_name y)) && match xc_cl[ci]? with
    | some q => decide (q.1 = (xm_name y).cls)
    | none => false)))
  | none => xm_atG (xm_pw y).2.2.1 (.static (xm_name y)) && xm_np y (xm_ar y)
def xm_law : Nat := 39
theorem xq_0 : (List.range 20).all (fun j => decide (0 + j = xm_law) || (decide (xm_names.length ≤ 0 + j) || (xm_cf (0 + j) && xm_ck (0 + j)))) = true := by decide +kernel
theorem xq_20 : (List.range 20).all (fun j => decide (20 + j = xm_law) || (decide (xm_names.length ≤ 20 + j) || (xm_cf (20 + j) && xm_ck (20 + j)))) = true := by decide +kernel
theorem xq_40 : (List.range 20).all (fun j => decide (40 + j = xm_law) || (decide (xm_names.length ≤ 40 + j) || (xm_cf (40 + j) && xm_ck (40 + j)))) = true := by decide +kernel
theorem xq_60 : (List.range 20).all (fun j => decide (60 + j = xm_law) || (decide (xm_names.length ≤ 60 + j) || (xm_cf (60 + j) && xm_ck (60 + j)))) = true := by decide +kernel
theorem xq_80 : (List.range 20).all (fun j => decide (80 + j = xm_law) || (decide (xm_names.length ≤ 80 + j) || (xm_cf (80 + j) && xm_ck (80 + j)))) = true := by decide +kernel
theorem xq_100 : (List.range 20).all (fun j => decide (100 + j = xm_law) || (decide (xm_names.length ≤ 100 + j) || (xm_cf (100 + j) && xm_ck (100 + j)))) = true := by decide +kernel
def xm_isS (y : Nat) : Bool := decide (y < xm_names.length) && (decide (y ≠ xm_law) && decide (xm_rv y = none))
def xm_isI (y : Nat) : Bool := decide (y < xm_names.length) && (decide (y ≠ xm_law) && ((xm_rv y).isSome && decide ((xm_name y).name = "<init>")))
def xm_isV (y : Nat) : Bool := decide (y < xm_names.length) && (decide (y ≠ xm_law) && ((xm_rv y).isSome && decide ((xm_name y).name ≠ "<init>")))
end
section
def xm_k (y i : Nat) (ins : Instr) : Bool := match ins with
  | .nop => true
  | .iconst v => match decode (xm_bytes y) (xm_bp y i) with
    | .ok (.iconst w, 1) => decide (w = v) && xm_nx y i 1
    | .ok (.bipush w, 2) => decide ((Int8.ofInt w).toInt32 = Int32.ofInt v) && xm_nx y i 2
    | .ok (.sipush w, 3) => decide ((Int16.ofInt w).toInt32 = Int32.ofInt v) && xm_nx y i 3
    | .ok (.ldc ix, 2) => xt_k.any (fun q => decide (q.1 = (xm_oc y, ix, v))) && xm_nx y i 2
    | .ok (.ldc_w ix, 3) => xt_k.any (fun q => decide (q.1 = (xm_oc y, ix, v))) && xm_nx y i 3
    | _ => false
  | .iload k => match decode (xm_bytes y) (xm_bp y i) with
    | .ok (.iload_n n, 1) => decide (n.val = k) && xm_nx y i 1
    | .ok (.iload n, 2) => decide (n = k) && xm_nx y i 2
    | _ => false
  | .aload k => match decode (xm_bytes y) (xm_bp y i) with
    | .ok (.aload_n n, 1) => decide (n.val = k) && xm_nx y i 1
    | .ok (.aload n, 2) => decide (n = k) && xm_nx y i 2
    | _ => false
  | .istore k => match decode (xm_bytes y) (xm_bp y i) with
    | .ok (.istore_n n, 1) => decide (n.val = k) && xm_nx y i 1
    | .ok (.istore n, 2) => decide (n = k) && xm_nx y i 2
    | _ => false
  | .astore k => match decode (xm_bytes y) (xm_bp y i) with
    | .ok (.astore_n n, 1) => decide (n.val = k) && xm_nx y i 1
    | .ok (.astore n, 2) => decide (n = k) && xm_nx y i 2
    | _ => false
  | .iinc k c => match decode (xm_bytes y) (xm_bp y i) with
    | .ok (.iinc n w, 3) => decide (n = k) && (decide (w = c) && xm_nx y i 3)
    | _ => false
  | .ifCond c t => match decode (xm_bytes y) (xm_bp y i) with
    | .ok (.ifCond c' off, 3) => decide (c' = c) && (xm_tg y i off t && xm_nx y i 3)
    | _ => false
  | .if_icmp c t => match decode (xm_bytes y) (xm_bp y i) with
    | .ok (.if_icmp c' off, 3) => decide (c' = c) && (xm_tg y i off t && xm_nx y i 3)
    | _ => false
  | .ifnull t => match decode (xm_bytes y) (xm_bp y i) with
    | .ok (.ifnull off, 3) => xm_tg y i off t && xm_nx y i 3
    | _ => false
  | .ifnonnull t => match decode (xm_bytes y) (xm_bp y i) with
    | .ok (.ifnonnull off, 3) => xm_tg y i off t && xm_nx y i 3
    | _ => false
  | .goto t => match decode (xm_bytes y) (xm_bp y i) with
    | .ok (.goto off, 3) => xm_tg y i off t
    | _ => false
  | .tableswitch dd lo hi offs => match decode (xm_bytes y) (xm_bp y i) with
    | .ok (.tableswitch d' lo' hi' offs', _) => decide (lo' = lo) && (decide (hi' = hi) && (xm_tg y i d' dd && (decide (offs'.size = offs.size) && (List.range offs.size).all (fun j => match offs'[j]?, offs[j]? with
      | some o, some t => xm_tg y i o t
      | _, _ => false))))
    | _ => false
  | .getfield n => match decode (xm_bytes y) (xm_bp y i) with
    | .ok (.getfield ix, 3) => xm_fl y n ix && xm_nx y i 3
    | _ => false
  | .putfield n => match decode (xm_bytes y) (xm_bp y i) with
    | .ok (.putfield ix, 3) => xm_flp y n ix && xm_nx y i 3
    | _ => false
  | .new ci => match decode (xm_bytes y) (xm_bp y i), xc_cl[ci]? with
    | .ok (.new ix, 3), some _ => xt_c.any (fun q => decide (q.1 = (xm_oc y, ix, ci))) && xm_nx y i 3
    | _, _ => false
  | .newarray a => match decode (xm_bytes y) (xm_bp y i) with
    | .ok (.newarray a', 2) => decide (a' = a) && xm_nx y i 2
    | _ => false
  | .anewarray t => match decode (xm_bytes y) (xm_bp y i) with
    | .ok (.anewarray ix, 3) => xt_n.any (fun q => decide (q.1 = (xm_oc y, ix, t))) && xm_nx y i 3
    | _ => false
  | .invokespecial y' => match decode (xm_bytes y) (xm_bp y i) with
    | .ok (.invokespecial ix, 3) => xm_nx y i 3 && (xm_ml y y' ix && (decide (y' = 1000) || xm_isI y'))
    | _ => false
  | .invokevirtual y' => match decode (xm_bytes y) (xm_bp y i) with
    | .ok (.invokevirtual ix, 3) => xm_nx y i 3 && (xm_ml y y' ix && xm_isV y')
    | _ => false
  | .invokestatic y' => match decode (xm_bytes y) (xm_bp y i) with
    | .ok (.invokestatic ix, 3) => xm_nx y i 3 && (xm_ml y y' ix && (decide (y' = 2001) || (decide (y' = 2002) || (decide (y' = 2003) || xm_isS y'))))
    | _ => false
  | .ireturn => match decode (xm_bytes y) (xm_bp y i) with
    | .ok (.ireturn, 1) => decide (xm_ret y = some .int) || decide (xm_ret y = some .boolean)
    | _ => false
  | .areturn => match decode (xm_bytes y) (xm_bp y i) with
    | .ok (.areturn, 1) => match xm_ret y with
      | some (.object _) => true
      | _ => false
    | _ => false
  | .return_ => match decode (xm_bytes y) (xm_bp y i) with
    | .ok (.return_, 1) => decide (xm_ret y = none)
    | _ => false
  | ins => match decode (xm_bytes y) (xm_bp y i) with
    | .ok (r, 1) => decide (r = ins) && xm_nx y i 1
    | _ => false
def xm_ki (y i : Nat) : Bool := match (xm_code y)[i]? with
  | some ins => xm_k y i ins
  | none => true
def xm_rng (y a n : Nat) : Bool := (List.range n).all (fun i => xm_ki y (a + i))
theorem xm_rng_at {y a n i : Nat} (h : xm_rng y a n = true) (h1 : a ≤ i) (h2 : i < a + n) : xm_ki y i = true := by
  have := List.all_eq_true.mp h (i - a) (List.mem_range.mpr (by omega))
  rwa [show a + (i - a) = i by omega] at this
end
section
theorem xo_0_0 : xm_rng 0 0 47 = true := by decide +kernel
theorem xo_1_0 : xm_rng 1 0 60 = true := by decide +kernel
theorem xo_1_60 : xm_rng 1 60 60 = true := by decide +kernel
theorem xo_1_120 : xm_rng 1 120 13 = true := by decide +kernel
theorem xo_2_0 : xm_rng 2 0 23 = true := by decide +kernel
theorem xo_3_0 : xm_rng 3 0 5 = true := by decide +kernel
theorem xo_4_0 : xm_rng 4 0 33 = true := by decide +kernel
theorem xo_5_0 : xm_rng 5 0 11 = true := by decide +kernel
theorem xo_6_0 : xm_rng 6 0 43 = true := by decide +kernel
theorem xo_7_0 : xm_rng 7 0 9 = true := by decide +kernel
theorem xo_8_0 : xm_rng 8 0 54 = true := by decide +kernel
theorem xo_9_0 : xm_rng 9 0 60 = true := by decide +kernel
theorem xo_9_60 : xm_rng 9 60 16 = true := by decide +kernel
theorem xo_10_0 : xm_rng 10 0 33 = true := by decide +kernel
theorem xo_11_0 : xm_rng 11 0 20 = true := by decide +kernel
theorem xo_12_0 : xm_rng 12 0 43 = true := by decide +kernel
theorem xo_13_0 : xm_rng 13 0 37 = true := by decide +kernel
theorem xo_14_0 : xm_rng 14 0 32 = true := by decide +kernel
theorem xo_15_0 : xm_rng 15 0 19 = true := by decide +kernel
theorem xo_16_0 : xm_rng 16 0 60 = true := by decide +kernel
theorem xo_16_60 : xm_rng 16 60 3 = true := by decide +kernel
theorem xo_17_0 : xm_rng 17 0 60 = true := by decide +kernel
theorem xo_17_60 : xm_rng 17 60 60 = true := by decide +kernel
theorem xo_17_120 : xm_rng 17 120 25 = true := by decide +kernel
theorem xo_18_0 : xm_rng 18 0 22 = true := by decide +kernel
theorem xo_19_0 : xm_rng 19 0 8 = true := by decide +kernel
theorem xo_20_0 : xm_rng 20 0 10 = true := by decide +kernel
theorem xo_21_0 : xm_rng 21 0 55 = true := by decide +kernel
theorem xo_22_0 : xm_rng 22 0 32 = true := by decide +kernel
theorem xo_23_0 : xm_rng 23 0 13 = true := by decide +kernel
theorem xo_24_0 : xm_rng 24 0 6 = true := by decide +kernel
theorem xo_25_0 : xm_rng 25 0 22 = true := by decide +kernel
theorem xo_26_0 : xm_rng 26 0 29 = true := by decide +kernel
theorem xo_27_0 : xm_rng 27 0 22 = true := by decide +kernel
theorem xo_28_0 : xm_rng 28 0 8 = true := by decide +kernel
theorem xo_29_0 : xm_rng 29 0 54 = true := by decide +kernel
theorem xo_30_0 : xm_rng 30 0 60 = true := by decide +kernel
theorem xo_30_60 : xm_rng 30 60 35 = true := by decide +kernel
theorem xo_31_0 : xm_rng 31 0 10 = true := by decide +kernel
theorem xo_32_0 : xm_rng 32 0 39 = true := by decide +kernel
theorem xo_33_0 : xm_rng 33 0 31 = true := by decide +kernel
theorem xo_34_0 : xm_rng 34 0 51 = true := by decide +kernel
theorem xo_35_0 : xm_rng 35 0 40 = true := by decide +kernel
theorem xo_36_0 : xm_rng 36 0 60 = true := by decide +kernel
theorem xo_36_60 : xm_rng 36 60 2 = true := by decide +kernel
theorem xo_37_0 : xm_rng 37 0 60 = true := by decide +kernel
theorem xo_37_60 : xm_rng 37 60 49 = true := by decide +kernel
theorem xo_38_0 : xm_rng 38 0 60 = true := by decide +kernel
theorem xo_38_60 : xm_rng 38 60 27 = true := by decide +kernel
theorem xo_39_0 : xm_rng 39 0 60 = true := by decide +kernel
theorem xo_39_60 : xm_rng 39 60 60 = true := by decide +kernel
theorem xo_39_120 : xm_rng 39 120 60 = true := by decide +kernel
theorem xo_39_180 : xm_rng 39 180 60 = true := by decide +kernel
theorem xo_39_240 : xm_rng 39 240 60 = true := by decide +kernel
theorem xo_39_300 : xm_rng 39 300 60 = true := by decide +kernel
theorem xo_39_360 : xm_rng 39 360 60 = true := by decide +kernel
theorem xo_39_420 : xm_rng 39 420 60 = true := by decide +kernel
theorem xo_39_480 : xm_rng 39 480 60 = true := by decide +kernel
theorem xo_39_540 : xm_rng 39 540 32 = true := by decide +kernel
theorem xo_40_0 : xm_rng 40 0 42 = true := by decide +kernel
theorem xo_41_0 : xm_rng 41 0 17 = true := by decide +kernel
theorem xo_42_0 : xm_rng 42 0 37 = true := by decide +kernel
theorem xo_43_0 : xm_rng 43 0 60 = true := by decide +kernel
theorem xo_43_60 : xm_rng 43 60 60 = true := by decide +kernel
theorem xo_43_120 : xm_rng 43 120 30 = true := by decide +kernel
theorem xo_44_0 : xm_rng 44 0 22 = true := by decide +kernel
theorem xo_45_0 : xm_rng 45 0 9 = true := by decide +kernel
theorem xo_46_0 : xm_rng 46 0 10 = true := by decide +kernel
theorem xo_47_0 : xm_rng 47 0 8 = true := by decide +kernel
theorem xo_48_0 : xm_rng 48 0 12 = true := by decide +kernel
theorem xo_49_0 : xm_rng 49 0 29 = true := by decide +kernel
theorem xo_50_0 : xm_rng 50 0 24 = true := by decide +kernel
theorem xo_51_0 : xm_rng 51 0 18 = true := by decide +kernel
theorem xo_52_0 : xm_rng 52 0 43 = true := by decide +kernel
theorem xo_53_0 : xm_rng 53 0 60 = true := by decide +kernel
theorem xo_53_60 : xm_rng 53 60 14 = true := by decide +kernel
theorem xo_54_0 : xm_rng 54 0 12 = true := by decide +kernel
theorem xo_55_0 : xm_rng 55 0 19 = true := by decide +kernel
theorem xo_56_0 : xm_rng 56 0 13 = true := by decide +kernel
theorem xo_57_0 : xm_rng 57 0 12 = true := by decide +kernel
theorem xo_58_0 : xm_rng 58 0 10 = true := by decide +kernel
theorem xo_59_0 : xm_rng 59 0 18 = true := by decide +kernel
theorem xo_60_0 : xm_rng 60 0 17 = true := by decide +kernel
theorem xo_61_0 : xm_rng 61 0 18 = true := by decide +kernel
theorem xo_62_0 : xm_rng 62 0 10 = true := by decide +kernel
theorem xo_63_0 : xm_rng 63 0 60 = true := by decide +kernel
theorem xo_63_60 : xm_rng 63 60 13 = true := by decide +kernel
theorem xo_64_0 : xm_rng 64 0 60 = true := by decide +kernel
theorem xo_64_60 : xm_rng 64 60 17 = true := by decide +kernel
theorem xo_65_0 : xm_rng 65 0 29 = true := by decide +kernel
theorem xo_66_0 : xm_rng 66 0 11 = true := by decide +kernel
theorem xo_67_0 : xm_rng 67 0 52 = true := by decide +kernel
theorem xo_68_0 : xm_rng 68 0 54 = true := by decide +kernel
theorem xo_69_0 : xm_rng 69 0 60 = true := by decide +kernel
theorem xo_69_60 : xm_rng 69 60 22 = true := by decide +kernel
theorem xo_70_0 : xm_rng 70 0 34 = true := by decide +kernel
theorem xo_71_0 : xm_rng 71 0 26 = true := by decide +kernel
theorem xo_72_0 : xm_rng 72 0 27 = true := by decide +kernel
theorem xo_73_0 : xm_rng 73 0 40 = true := by decide +kernel
theorem xo_74_0 : xm_rng 74 0 32 = true := by decide +kernel
theorem xo_75_0 : xm_rng 75 0 10 = true := by decide +kernel
theorem xo_76_0 : xm_rng 76 0 22 = true := by decide +kernel
theorem xo_77_0 : xm_rng 77 0 56 = true := by decide +kernel
theorem xo_78_0 : xm_rng 78 0 34 = true := by decide +kernel
theorem xo_79_0 : xm_rng 79 0 10 = true := by decide +kernel
theorem xo_80_0 : xm_rng 80 0 60 = true := by decide +kernel
theorem xo_80_60 : xm_rng 80 60 6 = true := by decide +kernel
theorem xo_81_0 : xm_rng 81 0 30 = true := by decide +kernel
theorem xo_82_0 : xm_rng 82 0 14 = true := by decide +kernel
theorem xo_83_0 : xm_rng 83 0 10 = true := by decide +kernel
theorem xo_84_0 : xm_rng 84 0 6 = true := by decide +kernel
theorem xo_85_0 : xm_rng 85 0 28 = true := by decide +kernel
theorem xo_86_0 : xm_rng 86 0 4 = true := by decide +kernel
theorem xo_87_0 : xm_rng 87 0 39 = true := by decide +kernel
theorem xo_88_0 : xm_rng 88 0 40 = true := by decide +kernel
theorem xo_89_0 : xm_rng 89 0 17 = true := by decide +kernel
theorem xo_90_0 : xm_rng 90 0 23 = true := by decide +kernel
theorem xo_91_0 : xm_rng 91 0 18 = true := by decide +kernel
theorem xo_92_0 : xm_rng 92 0 49 = true := by decide +kernel
theorem xo_93_0 : xm_rng 93 0 37 = true := by decide +kernel
theorem xo_94_0 : xm_rng 94 0 48 = true := by decide +kernel
theorem xo_95_0 : xm_rng 95 0 18 = true := by decide +kernel
theorem xo_96_0 : xm_rng 96 0 27 = true := by decide +kernel
theorem xo_97_0 : xm_rng 97 0 49 = true := by decide +kernel
theorem xo_98_0 : xm_rng 98 0 37 = true := by decide +kernel
theorem xo_99_0 : xm_rng 99 0 59 = true := by decide +kernel
theorem xo_100_0 : xm_rng 100 0 60 = true := by decide +kernel
theorem xo_100_60 : xm_rng 100 60 35 = true := by decide +kernel
theorem xo_101_0 : xm_rng 101 0 59 = true := by decide +kernel
theorem xo_0 (i : Nat) : xm_ki 0 i = true := by
  by_cases hl : i < 47
  · exact xm_rng_at xo_0_0 (Nat.zero_le _) (by omega)
  · unfold xm_ki
    have hz : (xm_code 0).length = 47 := by decide +kernel
    rw [List.getElem?_eq_none (by omega)]
theorem xo_1 (i : Nat) : xm_ki 1 i = true := by
  by_cases hl : i < 133
  · rcases (show (0 ≤ i ∧ i < 0+60) ∨ (60 ≤ i ∧ i < 60+60) ∨ (120 ≤ i ∧ i < 120+13) by omega) with h | h | h
    · exact xm_rng_at xo_1_0 h.1 h.2
    · exact xm_rng_at xo_1_60 h.1 h.2
    · exact xm_rng_at xo_1_120 h.1 h.2
  · unfold xm_ki
    have hz : (xm_code 1).length = 133 := by decide +kernel
    rw [List.getElem?_eq_none (by omega)]
theorem xo_2 (i : Nat) : xm_ki 2 i = true := by
  by_cases hl : i < 23
  · exact xm_rng_at xo_2_0 (Nat.zero_le _) (by omega)
  · unfold xm_ki
    have hz : (xm_code 2).length = 23 := by decide +kernel
    rw [List.getElem?_eq_none (by omega)]
theorem xo_3 (i : Nat) : xm_ki 3 i = true := by
  by_cases hl : i < 5
  · exact xm_rng_at xo_3_0 (Nat.zero_le _) (by omega)
  · unfold xm_ki
    have hz : (xm_code 3).length = 5 := by decide +kernel
    rw [List.getElem?_eq_none (by omega)]
theorem xo_4 (i : Nat) : xm_ki 4 i = true := by
  by_cases hl : i < 33
  · exact xm_rng_at xo_4_0 (Nat.zero_le _) (by omega)
  · unfold xm_ki
    have hz : (xm_code 4).length = 33 := by decide +kernel
    rw [List.getElem?_eq_none (by omega)]
theorem xo_5 (i : Nat) : xm_ki 5 i = true := by
  by_cases hl : i < 11
  · exact xm_rng_at xo_5_0 (Nat.zero_le _) (by omega)
  · unfold xm_ki
    have hz : (xm_code 5).length = 11 := by decide +kernel
    rw [List.getElem?_eq_none (by omega)]
theorem xo_6 (i : Nat) : xm_ki 6 i = true := by
  by_cases hl : i < 43
  · exact xm_rng_at xo_6_0 (Nat.zero_le _) (by omega)
  · unfold xm_ki
    have hz : (xm_code 6).length = 43 := by decide +kernel
    rw [List.getElem?_eq_none (by omega)]
theorem xo_7 (i : Nat) : xm_ki 7 i = true := by
  by_cases hl : i < 9
  · exact xm_rng_at xo_7_0 (Nat.zero_le _) (by omega)
  · unfold xm_ki
    have hz : (xm_code 7).length = 9 := by decide +kernel
    rw [List.getElem?_eq_none (by omega)]
theorem xo_8 (i : Nat) : xm_ki 8 i = true := by
  by_cases hl : i < 54
  · exact xm_rng_at xo_8_0 (Nat.zero_le _) (by omega)
  · unfold xm_ki
    have hz : (xm_code 8).length = 54 := by decide +kernel
    rw [List.getElem?_eq_none (by omega)]
theorem xo_9 (i : Nat) : xm_ki 9 i = true := by
  by_cases hl : i < 76
  · rcases (show (0 ≤ i ∧ i < 0+60) ∨ (60 ≤ i ∧ i < 60+16) by omega) with h | h
    · exact xm_rng_at xo_9_0 h.1 h.2
    · exact xm_rng_at xo_9_60 h.1 h.2
  · unfold xm_ki
    have hz : (xm_code 9).length = 76 := by decide +kernel
    rw [List.getElem?_eq_none (by omega)]
theorem xo_10 (i : Nat) : xm_ki 10 i = true := by
  by_cases hl : i < 33
  · exact xm_rng_at xo_10_0 (Nat.zero_le _) (by omega)
  · unfold xm_ki
    have hz : (xm_code 10).length = 33 := by decide +kernel
    rw [List.getElem?_eq_none (by omega)]
theorem xo_11 (i : Nat) : xm_ki 11 i = true := by
  by_cases hl : i < 20
  · exact xm_rng_at xo_11_0 (Nat.zero_le _) (by omega)
  · unfold xm_ki
    have hz : (xm_code 11).length = 20 := by decide +kernel
    rw [List.getElem?_eq_none (by omega)]
theorem xo_12 (i : Nat) : xm_ki 12 i = true := by
  by_cases hl : i < 43
  · exact xm_rng_at xo_12_0 (Nat.zero_le _) (by omega)
  · unfold xm_ki
    have hz : (xm_code 12).length = 43 := by decide +kernel
    rw [List.getElem?_eq_none (by omega)]
theorem xo_13 (i : Nat) : xm_ki 13 i = true := by
  by_cases hl : i < 37
  · exact xm_rng_at xo_13_0 (Nat.zero_le _) (by omega)
  · unfold xm_ki
    have hz : (xm_code 13).length = 37 := by decide +kernel
    rw [List.getElem?_eq_none (by omega)]
theorem xo_14 (i : Nat) : xm_ki 14 i = true := by
  by_cases hl : i < 32
  · exact xm_rng_at xo_14_0 (Nat.zero_le _) (by omega)
  · unfold xm_ki
    have hz : (xm_code 14).length = 32 := by decide +kernel
    rw [List.getElem?_eq_none (by omega)]
theorem xo_15 (i : Nat) : xm_ki 15 i = true := by
  by_cases hl : i < 19
  · exact xm_rng_at xo_15_0 (Nat.zero_le _) (by omega)
  · unfold xm_ki
    have hz : (xm_code 15).length = 19 := by decide +kernel
    rw [List.getElem?_eq_none (by omega)]
theorem xo_16 (i : Nat) : xm_ki 16 i = true := by
  by_cases hl : i < 63
  · rcases (show (0 ≤ i ∧ i < 0+60) ∨ (60 ≤ i ∧ i < 60+3) by omega) with h | h
    · exact xm_rng_at xo_16_0 h.1 h.2
    · exact xm_rng_at xo_16_60 h.1 h.2
  · unfold xm_ki
    have hz : (xm_code 16).length = 63 := by decide +kernel
    rw [List.getElem?_eq_none (by omega)]
theorem xo_17 (i : Nat) : xm_ki 17 i = true := by
  by_cases hl : i < 145
  · rcases (show (0 ≤ i ∧ i < 0+60) ∨ (60 ≤ i ∧ i < 60+60) ∨ (120 ≤ i ∧ i < 120+25) by omega) with h | h | h
    · exact xm_rng_at xo_17_0 h.1 h.2
    · exact xm_rng_at xo_17_60 h.1 h.2
    · exact xm_rng_at xo_17_120 h.1 h.2
  · unfold xm_ki
    have hz : (xm_code 17).length = 145 := by decide +kernel
    rw [List.getElem?_eq_none (by omega)]
theorem xo_18 (i : Nat) : xm_ki 18 i = true := by
  by_cases hl : i < 22
  · exact xm_rng_at xo_18_0 (Nat.zero_le _) (by omega)
  · unfold xm_ki
    have hz : (xm_code 18).length = 22 := by decide +kernel
    rw [List.getElem?_eq_none (by omega)]
theorem xo_19 (i : Nat) : xm_ki 19 i = true := by
  by_cases hl : i < 8
  · exact xm_rng_at xo_19_0 (Nat.zero_le _) (by omega)
  · unfold xm_ki
    have hz : (xm_code 19).length = 8 := by decide +kernel
    rw [List.getElem?_eq_none (by omega)]
theorem xo_20 (i : Nat) : xm_ki 20 i = true := by
  by_cases hl : i < 10
  · exact xm_rng_at xo_20_0 (Nat.zero_le _) (by omega)
  · unfold xm_ki
    have hz : (xm_code 20).length = 10 := by decide +kernel
    rw [List.getElem?_eq_none (by omega)]
theorem xo_21 (i : Nat) : xm_ki 21 i = true := by
  by_cases hl : i < 55
  · exact xm_rng_at xo_21_0 (Nat.zero_le _) (by omega)
  · unfold xm_ki
    have hz : (xm_code 21).length = 55 := by decide +kernel
    rw [List.getElem?_eq_none (by omega)]
theorem xo_22 (i : Nat) : xm_ki 22 i = true := by
  by_cases hl : i < 32
  · exact xm_rng_at xo_22_0 (Nat.zero_le _) (by omega)
  · unfold xm_ki
    have hz : (xm_code 22).length = 32 := by decide +kernel
    rw [List.getElem?_eq_none (by omega)]
theorem xo_23 (i : Nat) : xm_ki 23 i = true := by
  by_cases hl : i < 13
  · exact xm_rng_at xo_23_0 (Nat.zero_le _) (by omega)
  · unfold xm_ki
    have hz : (xm_code 23).length = 13 := by decide +kernel
    rw [List.getElem?_eq_none (by omega)]
theorem xo_24 (i : Nat) : xm_ki 24 i = true := by
  by_cases hl : i < 6
  · exact xm_rng_at xo_24_0 (Nat.zero_le _) (by omega)
  · unfold xm_ki
    have hz : (xm_code 24).length = 6 := by decide +kernel
    rw [List.getElem?_eq_none (by omega)]
theorem xo_25 (i : Nat) : xm_ki 25 i = true := by
  by_cases hl : i < 22
  · exact xm_rng_at xo_25_0 (Nat.zero_le _) (by omega)
  · unfold xm_ki
    have hz : (xm_code 25).length = 22 := by decide +kernel
    rw [List.getElem?_eq_none (by omega)]
theorem xo_26 (i : Nat) : xm_ki 26 i = true := by
  by_cases hl : i < 29
  · exact xm_rng_at xo_26_0 (Nat.zero_le _) (by omega)
  · unfold xm_ki
    have hz : (xm_code 26).length = 29 := by decide +kernel
    rw [List.getElem?_eq_none (by omega)]
theorem xo_27 (i : Nat) : xm_ki 27 i = true := by
  by_cases hl : i < 22
  · exact xm_rng_at xo_27_0 (Nat.zero_le _) (by omega)
  · unfold xm_ki
    have hz : (xm_code 27).length = 22 := by decide +kernel
    rw [List.getElem?_eq_none (by omega)]
theorem xo_28 (i : Nat) : xm_ki 28 i = true := by
  by_cases hl : i < 8
  · exact xm_rng_at xo_28_0 (Nat.zero_le _) (by omega)
  · unfold xm_ki
    have hz : (xm_code 28).length = 8 := by decide +kernel
    rw [List.getElem?_eq_none (by omega)]
theorem xo_29 (i : Nat) : xm_ki 29 i = true := by
  by_cases hl : i < 54
  · exact xm_rng_at xo_29_0 (Nat.zero_le _) (by omega)
  · unfold xm_ki
    have hz : (xm_code 29).length = 54 := by decide +kernel
    rw [List.getElem?_eq_none (by omega)]
theorem xo_30 (i : Nat) : xm_ki 30 i = true := by
  by_cases hl : i < 95
  · rcases (show (0 ≤ i ∧ i < 0+60) ∨ (60 ≤ i ∧ i < 60+35) by omega) with h | h
    · exact xm_rng_at xo_30_0 h.1 h.2
    · exact xm_rng_at xo_30_60 h.1 h.2
  · unfold xm_ki
    have hz : (xm_code 30).length = 95 := by decide +kernel
    rw [List.getElem?_eq_none (by omega)]
theorem xo_31 (i : Nat) : xm_ki 31 i = true := by
  by_cases hl : i < 10
  · exact xm_rng_at xo_31_0 (Nat.zero_le _) (by omega)
  · unfold xm_ki
    have hz : (xm_code 31).length = 10 := by decide +kernel
    rw [List.getElem?_eq_none (by omega)]
theorem xo_32 (i : Nat) : xm_ki 32 i = true := by
  by_cases hl : i < 39
  · exact xm_rng_at xo_32_0 (Nat.zero_le _) (by omega)
  · unfold xm_ki
    have hz : (xm_code 32).length = 39 := by decide +kernel
    rw [List.getElem?_eq_none (by omega)]
theorem xo_33 (i : Nat) : xm_ki 33 i = true := by
  by_cases hl : i < 31
  · exact xm_rng_at xo_33_0 (Nat.zero_le _) (by omega)
  · unfold xm_ki
    have hz : (xm_code 33).length = 31 := by decide +kernel
    rw [List.getElem?_eq_none (by omega)]
theorem xo_34 (i : Nat) : xm_ki 34 i = true := by
  by_cases hl : i < 51
  · exact xm_rng_at xo_34_0 (Nat.zero_le _) (by omega)
  · unfold xm_ki
    have hz : (xm_code 34).length = 51 := by decide +kernel
    rw [List.getElem?_eq_none (by omega)]
theorem xo_35 (i : Nat) : xm_ki 35 i = true := by
  by_cases hl : i < 40
  · exact xm_rng_at xo_35_0 (Nat.zero_le _) (by omega)
  · unfold xm_ki
    have hz : (xm_code 35).length = 40 := by decide +kernel
    rw [List.getElem?_eq_none (by omega)]
theorem xo_36 (i : Nat) : xm_ki 36 i = true := by
  by_cases hl : i < 62
  · rcases (show (0 ≤ i ∧ i < 0+60) ∨ (60 ≤ i ∧ i < 60+2) by omega) with h | h
    · exact xm_rng_at xo_36_0 h.1 h.2
    · exact xm_rng_at xo_36_60 h.1 h.2
  · unfold xm_ki
    have hz : (xm_code 36).length = 62 := by decide +kernel
    rw [List.getElem?_eq_none (by omega)]
theorem xo_37 (i : Nat) : xm_ki 37 i = true := by
  by_cases hl : i < 109
  · rcases (show (0 ≤ i ∧ i < 0+60) ∨ (60 ≤ i ∧ i < 60+49) by omega) with h | h
    · exact xm_rng_at xo_37_0 h.1 h.2
    · exact xm_rng_at xo_37_60 h.1 h.2
  · unfold xm_ki
    have hz : (xm_code 37).length = 109 := by decide +kernel
    rw [List.getElem?_eq_none (by omega)]
theorem xo_38 (i : Nat) : xm_ki 38 i = true := by
  by_cases hl : i < 87
  · rcases (show (0 ≤ i ∧ i < 0+60) ∨ (60 ≤ i ∧ i < 60+27) by omega) with h | h
    · exact xm_rng_at xo_38_0 h.1 h.2
    · exact xm_rng_at xo_38_60 h.1 h.2
  · unfold xm_ki
    have hz : (xm_code 38).length = 87 := by decide +kernel
    rw [List.getElem?_eq_none (by omega)]
theorem xo_39 (i : Nat) : xm_ki 39 i = true := by
  by_cases hl : i < 572
  · rcases (show (0 ≤ i ∧ i < 0+60) ∨ (60 ≤ i ∧ i < 60+60) ∨ (120 ≤ i ∧ i < 120+60) ∨ (180 ≤ i ∧ i < 180+60) ∨ (240 ≤ i ∧ i < 240+60) ∨ (300 ≤ i ∧ i < 300+60) ∨ (360 ≤ i ∧ i < 360+60) ∨ (420 ≤ i ∧ i < 420+60) ∨ (480 ≤ i ∧ i < 480+60) ∨ (540 ≤ i ∧ i < 540+32) by omega) with h | h | h | h | h | h | h | h | h | h
    · exact xm_rng_at xo_39_0 h.1 h.2
    · exact xm_rng_at xo_39_60 h.1 h.2
    · exact xm_rng_at xo_39_120 h.1 h.2
    · exact xm_rng_at xo_39_180 h.1 h.2
    · exact xm_rng_at xo_39_240 h.1 h.2
    · exact xm_rng_at xo_39_300 h.1 h.2
    · exact xm_rng_at xo_39_360 h.1 h.2
    · exact xm_rng_at xo_39_420 h.1 h.2
    · exact xm_rng_at xo_39_480 h.1 h.2
    · exact xm_rng_at xo_39_540 h.1 h.2
  · unfold xm_ki
    have hz : (xm_code 39).length = 572 := by decide +kernel
    rw [List.getElem?_eq_none (by omega)]
theorem xo_40 (i : Nat) : xm_ki 40 i = true := by
  by_cases hl : i < 42
  · exact xm_rng_at xo_40_0 (Nat.zero_le _) (by omega)
  · unfold xm_ki
    have hz : (xm_code 40).length = 42 := by decide +kernel
    rw [List.getElem?_eq_none (by omega)]
theorem xo_41 (i : Nat) : xm_ki 41 i = true := by
  by_cases hl : i < 17
  · exact xm_rng_at xo_41_0 (Nat.zero_le _) (by omega)
  · unfold xm_ki
    have hz : (xm_code 41).length = 17 := by decide +kernel
    rw [List.getElem?_eq_none (by omega)]
theorem xo_42 (i : Nat) : xm_ki 42 i = true := by
  by_cases hl : i < 37
  · exact xm_rng_at xo_42_0 (Nat.zero_le _) (by omega)
  · unfold xm_ki
    have hz : (xm_code 42).length = 37 := by decide +kernel
    rw [List.getElem?_eq_none (by omega)]
theorem xo_43 (i : Nat) : xm_ki 43 i = true := by
  by_cases hl : i < 150
  · rcases (show (0 ≤ i ∧ i < 0+60) ∨ (60 ≤ i ∧ i < 60+60) ∨ (120 ≤ i ∧ i < 120+30) by omega) with h | h | h
    · exact xm_rng_at xo_43_0 h.1 h.2
    · exact xm_rng_at xo_43_60 h.1 h.2
    · exact xm_rng_at xo_43_120 h.1 h.2
  · unfold xm_ki
    have hz : (xm_code 43).length = 150 := by decide +kernel
    rw [List.getElem?_eq_none (by omega)]
theorem xo_44 (i : Nat) : xm_ki 44 i = true := by
  by_cases hl : i < 22
  · exact xm_rng_at xo_44_0 (Nat.zero_le _) (by omega)
  · unfold xm_ki
    have hz : (xm_code 44).length = 22 := by decide +kernel
    rw [List.getElem?_eq_none (by omega)]
theorem xo_45 (i : Nat) : xm_ki 45 i = true := by
  by_cases hl : i < 9
  · exact xm_rng_at xo_45_0 (Nat.zero_le _) (by omega)
  · unfold xm_ki
    have hz : (xm_code 45).length = 9 := by decide +kernel
    rw [List.getElem?_eq_none (by omega)]
theorem xo_46 (i : Nat) : xm_ki 46 i = true := by
  by_cases hl : i < 10
  · exact xm_rng_at xo_46_0 (Nat.zero_le _) (by omega)
  · unfold xm_ki
    have hz : (xm_code 46).length = 10 := by decide +kernel
    rw [List.getElem?_eq_none (by omega)]
theorem xo_47 (i : Nat) : xm_ki 47 i = true := by
  by_cases hl : i < 8
  · exact xm_rng_at xo_47_0 (Nat.zero_le _) (by omega)
  · unfold xm_ki
    have hz : (xm_code 47).length = 8 := by decide +kernel
    rw [List.getElem?_eq_none (by omega)]
theorem xo_48 (i : Nat) : xm_ki 48 i = true := by
  by_cases hl : i < 12
  · exact xm_rng_at xo_48_0 (Nat.zero_le _) (by omega)
  · unfold xm_ki
    have hz : (xm_code 48).length = 12 := by decide +kernel
    rw [List.getElem?_eq_none (by omega)]
theorem xo_49 (i : Nat) : xm_ki 49 i = true := by
  by_cases hl : i < 29
  · exact xm_rng_at xo_49_0 (Nat.zero_le _) (by omega)
  · unfold xm_ki
    have hz : (xm_code 49).length = 29 := by decide +kernel
    rw [List.getElem?_eq_none (by omega)]
theorem xo_50 (i : Nat) : xm_ki 50 i = true := by
  by_cases hl : i < 24
  · exact xm_rng_at xo_50_0 (Nat.zero_le _) (by omega)
  · unfold xm_ki
    have hz : (xm_code 50).length = 24 := by decide +kernel
    rw [List.getElem?_eq_none (by omega)]
theorem xo_51 (i : Nat) : xm_ki 51 i = true := by
  by_cases hl : i < 18
  · exact xm_rng_at xo_51_0 (Nat.zero_le _) (by omega)
  · unfold xm_ki
    have hz : (xm_code 51).length = 18 := by decide +kernel
    rw [List.getElem?_eq_none (by omega)]
theorem xo_52 (i : Nat) : xm_ki 52 i = true := by
  by_cases hl : i < 43
  · exact xm_rng_at xo_52_0 (Nat.zero_le _) (by omega)
  · unfold xm_ki
    have hz : (xm_code 52).length = 43 := by decide +kernel
    rw [List.getElem?_eq_none (by omega)]
theorem xo_53 (i : Nat) : xm_ki 53 i = true := by
  by_cases hl : i < 74
  · rcases (show (0 ≤ i ∧ i < 0+60) ∨ (60 ≤ i ∧ i < 60+14) by omega) with h | h
    · exact xm_rng_at xo_53_0 h.1 h.2
    · exact xm_rng_at xo_53_60 h.1 h.2
  · unfold xm_ki
    have hz : (xm_code 53).length = 74 := by decide +kernel
    rw [List.getElem?_eq_none (by omega)]
theorem xo_54 (i : Nat) : xm_ki 54 i = true := by
  by_cases hl : i < 12
  · exact xm_rng_at xo_54_0 (Nat.zero_le _) (by omega)
  · unfold xm_ki
    have hz : (xm_code 54).length = 12 := by decide +kernel
    rw [List.getElem?_eq_none (by omega)]
theorem xo_55 (i : Nat) : xm_ki 55 i = true := by
  by_cases hl : i < 19
  · exact xm_rng_at xo_55_0 (Nat.zero_le _) (by omega)
  · unfold xm_ki
    have hz : (xm_code 55).length = 19 := by decide +kernel
    rw [List.getElem?_eq_none (by omega)]
theorem xo_56 (i : Nat) : xm_ki 56 i = true := by
  by_cases hl : i < 13
  · exact xm_rng_at xo_56_0 (Nat.zero_le _) (by omega)
  · unfold xm_ki
    have hz : (xm_code 56).length = 13 := by decide +kernel
    rw [List.getElem?_eq_none (by omega)]
theorem xo_57 (i : Nat) : xm_ki 57 i = true := by
  by_cases hl : i < 12
  · exact xm_rng_at xo_57_0 (Nat.zero_le _) (by omega)
  · unfold xm_ki
    have hz : (xm_code 57).length = 12 := by decide +kernel
    rw [List.getElem?_eq_none (by omega)]
theorem xo_58 (i : Nat) : xm_ki 58 i = true := by
  by_cases hl : i < 10
  · exact xm_rng_at xo_58_0 (Nat.zero_le _) (by omega)
  · unfold xm_ki
    have hz : (xm_code 58).length = 10 := by decide +kernel
    rw [List.getElem?_eq_none (by omega)]
theorem xo_59 (i : Nat) : xm_ki 59 i = true := by
  by_cases hl : i < 18
  · exact xm_rng_at xo_59_0 (Nat.zero_le _) (by omega)
  · unfold xm_ki
    have hz : (xm_code 59).length = 18 := by decide +kernel
    rw [List.getElem?_eq_none (by omega)]
theorem xo_60 (i : Nat) : xm_ki 60 i = true := by
  by_cases hl : i < 17
  · exact xm_rng_at xo_60_0 (Nat.zero_le _) (by omega)
  · unfold xm_ki
    have hz : (xm_code 60).length = 17 := by decide +kernel
    rw [List.getElem?_eq_none (by omega)]
theorem xo_61 (i : Nat) : xm_ki 61 i = true := by
  by_cases hl : i < 18
  · exact xm_rng_at xo_61_0 (Nat.zero_le _) (by omega)
  · unfold xm_ki
    have hz : (xm_code 61).length = 18 := by decide +kernel
    rw [List.getElem?_eq_none (by omega)]
theorem xo_62 (i : Nat) : xm_ki 62 i = true := by
  by_cases hl : i < 10
  · exact xm_rng_at xo_62_0 (Nat.zero_le _) (by omega)
  · unfold xm_ki
    have hz : (xm_code 62).length = 10 := by decide +kernel
    rw [List.getElem?_eq_none (by omega)]
theorem xo_63 (i : Nat) : xm_ki 63 i = true := by
  by_cases hl : i < 73
  · rcases (show (0 ≤ i ∧ i < 0+60) ∨ (60 ≤ i ∧ i < 60+13) by omega) with h | h
    · exact xm_rng_at xo_63_0 h.1 h.2
    · exact xm_rng_at xo_63_60 h.1 h.2
  · unfold xm_ki
    have hz : (xm_code 63).length = 73 := by decide +kernel
    rw [List.getElem?_eq_none (by omega)]
theorem xo_64 (i : Nat) : xm_ki 64 i = true := by
  by_cases hl : i < 77
  · rcases (show (0 ≤ i ∧ i < 0+60) ∨ (60 ≤ i ∧ i < 60+17) by omega) with h | h
    · exact xm_rng_at xo_64_0 h.1 h.2
    · exact xm_rng_at xo_64_60 h.1 h.2
  · unfold xm_ki
    have hz : (xm_code 64).length = 77 := by decide +kernel
    rw [List.getElem?_eq_none (by omega)]
theorem xo_65 (i : Nat) : xm_ki 65 i = true := by
  by_cases hl : i < 29
  · exact xm_rng_at xo_65_0 (Nat.zero_le _) (by omega)
  · unfold xm_ki
    have hz : (xm_code 65).length = 29 := by decide +kernel
    rw [List.getElem?_eq_none (by omega)]
theorem xo_66 (i : Nat) : xm_ki 66 i = true := by
  by_cases hl : i < 11
  · exact xm_rng_at xo_66_0 (Nat.zero_le _) (by omega)
  · unfold xm_ki
    have hz : (xm_code 66).length = 11 := by decide +kernel
    rw [List.getElem?_eq_none (by omega)]
theorem xo_67 (i : Nat) : xm_ki 67 i = true := by
  by_cases hl : i < 52
  · exact xm_rng_at xo_67_0 (Nat.zero_le _) (by omega)
  · unfold xm_ki
    have hz : (xm_code 67).length = 52 := by decide +kernel
    rw [List.getElem?_eq_none (by omega)]
theorem xo_68 (i : Nat) : xm_ki 68 i = true := by
  by_cases hl : i < 54
  · exact xm_rng_at xo_68_0 (Nat.zero_le _) (by omega)
  · unfold xm_ki
    have hz : (xm_code 68).length = 54 := by decide +kernel
    rw [List.getElem?_eq_none (by omega)]
theorem xo_69 (i : Nat) : xm_ki 69 i = true := by
  by_cases hl : i < 82
  · rcases (show (0 ≤ i ∧ i < 0+60) ∨ (60 ≤ i ∧ i < 60+22) by omega) with h | h
    · exact xm_rng_at xo_69_0 h.1 h.2
    · exact xm_rng_at xo_69_60 h.1 h.2
  · unfold xm_ki
    have hz : (xm_code 69).length = 82 := by decide +kernel
    rw [List.getElem?_eq_none (by omega)]
theorem xo_70 (i : Nat) : xm_ki 70 i = true := by
  by_cases hl : i < 34
  · exact xm_rng_at xo_70_0 (Nat.zero_le _) (by omega)
  · unfold xm_ki
    have hz : (xm_code 70).length = 34 := by decide +kernel
    rw [List.getElem?_eq_none (by omega)]
theorem xo_71 (i : Nat) : xm_ki 71 i = true := by
  by_cases hl : i < 26
  · exact xm_rng_at xo_71_0 (Nat.zero_le _) (by omega)
  · unfold xm_ki
    have hz : (xm_code 71).length = 26 := by decide +kernel
    rw [List.getElem?_eq_none (by omega)]
theorem xo_72 (i : Nat) : xm_ki 72 i = true := by
  by_cases hl : i < 27
  · exact xm_rng_at xo_72_0 (Nat.zero_le _) (by omega)
  · unfold xm_ki
    have hz : (xm_code 72).length = 27 := by decide +kernel
    rw [List.getElem?_eq_none (by omega)]
theorem xo_73 (i : Nat) : xm_ki 73 i = true := by
  by_cases hl : i < 40
  · exact xm_rng_at xo_73_0 (Nat.zero_le _) (by omega)
  · unfold xm_ki
    have hz : (xm_code 73).length = 40 := by decide +kernel
    rw [List.getElem?_eq_none (by omega)]
theorem xo_74 (i : Nat) : xm_ki 74 i = true := by
  by_cases hl : i < 32
  · exact xm_rng_at xo_74_0 (Nat.zero_le _) (by omega)
  · unfold xm_ki
    have hz : (xm_code 74).length = 32 := by decide +kernel
    rw [List.getElem?_eq_none (by omega)]
theorem xo_75 (i : Nat) : xm_ki 75 i = true := by
  by_cases hl : i < 10
  · exact xm_rng_at xo_75_0 (Nat.zero_le _) (by omega)
  · unfold xm_ki
    have hz : (xm_code 75).length = 10 := by decide +kernel
    rw [List.getElem?_eq_none (by omega)]
theorem xo_76 (i : Nat) : xm_ki 76 i = true := by
  by_cases hl : i < 22
  · exact xm_rng_at xo_76_0 (Nat.zero_le _) (by omega)
  · unfold xm_ki
    have hz : (xm_code 76).length = 22 := by decide +kernel
    rw [List.getElem?_eq_none (by omega)]
theorem xo_77 (i : Nat) : xm_ki 77 i = true := by
  by_cases hl : i < 56
  · exact xm_rng_at xo_77_0 (Nat.zero_le _) (by omega)
  · unfold xm_ki
    have hz : (xm_code 77).length = 56 := by decide +kernel
    rw [List.getElem?_eq_none (by omega)]
theorem xo_78 (i : Nat) : xm_ki 78 i = true := by
  by_cases hl : i < 34
  · exact xm_rng_at xo_78_0 (Nat.zero_le _) (by omega)
  · unfold xm_ki
    have hz : (xm_code 78).length = 34 := by decide +kernel
    rw [List.getElem?_eq_none (by omega)]
theorem xo_79 (i : Nat) : xm_ki 79 i = true := by
  by_cases hl : i < 10
  · exact xm_rng_at xo_79_0 (Nat.zero_le _) (by omega)
  · unfold xm_ki
    have hz : (xm_code 79).length = 10 := by decide +kernel
    rw [List.getElem?_eq_none (by omega)]
theorem xo_80 (i : Nat) : xm_ki 80 i = true := by
  by_cases hl : i < 66
  · rcases (show (0 ≤ i ∧ i < 0+60) ∨ (60 ≤ i ∧ i < 60+6) by omega) with h | h
    · exact xm_rng_at xo_80_0 h.1 h.2
    · exact xm_rng_at xo_80_60 h.1 h.2
  · unfold xm_ki
    have hz : (xm_code 80).length = 66 := by decide +kernel
    rw [List.getElem?_eq_none (by omega)]
theorem xo_81 (i : Nat) : xm_ki 81 i = true := by
  by_cases hl : i < 30
  · exact xm_rng_at xo_81_0 (Nat.zero_le _) (by omega)
  · unfold xm_ki
    have hz : (xm_code 81).length = 30 := by decide +kernel
    rw [List.getElem?_eq_none (by omega)]
theorem xo_82 (i : Nat) : xm_ki 82 i = true := by
  by_cases hl : i < 14
  · exact xm_rng_at xo_82_0 (Nat.zero_le _) (by omega)
  · unfold xm_ki
    have hz : (xm_code 82).length = 14 := by decide +kernel
    rw [List.getElem?_eq_none (by omega)]
theorem xo_83 (i : Nat) : xm_ki 83 i = true := by
  by_cases hl : i < 10
  · exact xm_rng_at xo_83_0 (Nat.zero_le _) (by omega)
  · unfold xm_ki
    have hz : (xm_code 83).length = 10 := by decide +kernel
    rw [List.getElem?_eq_none (by omega)]
theorem xo_84 (i : Nat) : xm_ki 84 i = true := by
  by_cases hl : i < 6
  · exact xm_rng_at xo_84_0 (Nat.zero_le _) (by omega)
  · unfold xm_ki
    have hz : (xm_code 84).length = 6 := by decide +kernel
    rw [List.getElem?_eq_none (by omega)]
theorem xo_85 (i : Nat) : xm_ki 85 i = true := by
  by_cases hl : i < 28
  · exact xm_rng_at xo_85_0 (Nat.zero_le _) (by omega)
  · unfold xm_ki
    have hz : (xm_code 85).length = 28 := by decide +kernel
    rw [List.getElem?_eq_none (by omega)]
theorem xo_86 (i : Nat) : xm_ki 86 i = true := by
  by_cases hl : i < 4
  · exact xm_rng_at xo_86_0 (Nat.zero_le _) (by omega)
  · unfold xm_ki
    have hz : (xm_code 86).length = 4 := by decide +kernel
    rw [List.getElem?_eq_none (by omega)]
theorem xo_87 (i : Nat) : xm_ki 87 i = true := by
  by_cases hl : i < 39
  · exact xm_rng_at xo_87_0 (Nat.zero_le _) (by omega)
  · unfold xm_ki
    have hz : (xm_code 87).length = 39 := by decide +kernel
    rw [List.getElem?_eq_none (by omega)]
theorem xo_88 (i : Nat) : xm_ki 88 i = true := by
  by_cases hl : i < 40
  · exact xm_rng_at xo_88_0 (Nat.zero_le _) (by omega)
  · unfold xm_ki
    have hz : (xm_code 88).length = 40 := by decide +kernel
    rw [List.getElem?_eq_none (by omega)]
theorem xo_89 (i : Nat) : xm_ki 89 i = true := by
  by_cases hl : i < 17
  · exact xm_rng_at xo_89_0 (Nat.zero_le _) (by omega)
  · unfold xm_ki
    have hz : (xm_code 89).length = 17 := by decide +kernel
    rw [List.getElem?_eq_none (by omega)]
theorem xo_90 (i : Nat) : xm_ki 90 i = true := by
  by_cases hl : i < 23
  · exact xm_rng_at xo_90_0 (Nat.zero_le _) (by omega)
  · unfold xm_ki
    have hz : (xm_code 90).length = 23 := by decide +kernel
    rw [List.getElem?_eq_none (by omega)]
theorem xo_91 (i : Nat) : xm_ki 91 i = true := by
  by_cases hl : i < 18
  · exact xm_rng_at xo_91_0 (Nat.zero_le _) (by omega)
  · unfold xm_ki
    have hz : (xm_code 91).length = 18 := by decide +kernel
    rw [List.getElem?_eq_none (by omega)]
theorem xo_92 (i : Nat) : xm_ki 92 i = true := by
  by_cases hl : i < 49
  · exact xm_rng_at xo_92_0 (Nat.zero_le _) (by omega)
  · unfold xm_ki
    have hz : (xm_code 92).length = 49 := by decide +kernel
    rw [List.getElem?_eq_none (by omega)]
theorem xo_93 (i : Nat) : xm_ki 93 i = true := by
  by_cases hl : i < 37
  · exact xm_rng_at xo_93_0 (Nat.zero_le _) (by omega)
  · unfold xm_ki
    have hz : (xm_code 93).length = 37 := by decide +kernel
    rw [List.getElem?_eq_none (by omega)]
theorem xo_94 (i : Nat) : xm_ki 94 i = true := by
  by_cases hl : i < 48
  · exact xm_rng_at xo_94_0 (Nat.zero_le _) (by omega)
  · unfold xm_ki
    have hz : (xm_code 94).length = 48 := by decide +kernel
    rw [List.getElem?_eq_none (by omega)]
theorem xo_95 (i : Nat) : xm_ki 95 i = true := by
  by_cases hl : i < 18
  · exact xm_rng_at xo_95_0 (Nat.zero_le _) (by omega)
  · unfold xm_ki
    have hz : (xm_code 95).length = 18 := by decide +kernel
    rw [List.getElem?_eq_none (by omega)]
theorem xo_96 (i : Nat) : xm_ki 96 i = true := by
  by_cases hl : i < 27
  · exact xm_rng_at xo_96_0 (Nat.zero_le _) (by omega)
  · unfold xm_ki
    have hz : (xm_code 96).length = 27 := by decide +kernel
    rw [List.getElem?_eq_none (by omega)]
theorem xo_97 (i : Nat) : xm_ki 97 i = true := by
  by_cases hl : i < 49
  · exact xm_rng_at xo_97_0 (Nat.zero_le _) (by omega)
  · unfold xm_ki
    have hz : (xm_code 97).length = 49 := by decide +kernel
    rw [List.getElem?_eq_none (by omega)]
theorem xo_98 (i : Nat) : xm_ki 98 i = true := by
  by_cases hl : i < 37
  · exact xm_rng_at xo_98_0 (Nat.zero_le _) (by omega)
  · unfold xm_ki
    have hz : (xm_code 98).length = 37 := by decide +kernel
    rw [List.getElem?_eq_none (by omega)]
theorem xo_99 (i : Nat) : xm_ki 99 i = true := by
  by_cases hl : i < 59
  · exact xm_rng_at xo_99_0 (Nat.zero_le _) (by omega)
  · unfold xm_ki
    have hz : (xm_code 99).length = 59 := by decide +kernel
    rw [List.getElem?_eq_none (by omega)]
theorem xo_100 (i : Nat) : xm_ki 100 i = true := by
  by_cases hl : i < 95
  · rcases (show (0 ≤ i ∧ i < 0+60) ∨ (60 ≤ i ∧ i < 60+35) by omega) with h | h
    · exact xm_rng_at xo_100_0 h.1 h.2
    · exact xm_rng_at xo_100_60 h.1 h.2
  · unfold xm_ki
    have hz : (xm_code 100).length = 95 := by decide +kernel
    rw [List.getElem?_eq_none (by omega)]
theorem xo_101 (i : Nat) : xm_ki 101 i = true := by
  by_cases hl : i < 59
  · exact xm_rng_at xo_101_0 (Nat.zero_le _) (by omega)
  · unfold xm_ki
    have hz : (xm_code 101).length = 59 := by decide +kernel
    rw [List.getElem?_eq_none (by omega)]
theorem xm_ok : ∀ y i : Nat, xm_ki y i = true := by
  intro y i
  match y with
  | 0 => exact xo_0 i
  | 1 => exact xo_1 i
  | 2 => exact xo_2 i
  | 3 => exact xo_3 i
  | 4 => exact xo_4 i
  | 5 => exact xo_5 i
  | 6 => exact xo_6 i
  | 7 => exact xo_7 i
  | 8 => exact xo_8 i
  | 9 => exact xo_9 i
  | 10 => exact xo_10 i
  | 11 => exact xo_11 i
  | 12 => exact xo_12 i
  | 13 => exact xo_13 i
  | 14 => exact xo_14 i
  | 15 => exact xo_15 i
  | 16 => exact xo_16 i
  | 17 => exact xo_17 i
  | 18 => exact xo_18 i
  | 19 => exact xo_19 i
  | 20 => exact xo_20 i
  | 21 => exact xo_21 i
  | 22 => exact xo_22 i
  | 23 => exact xo_23 i
  | 24 => exact xo_24 i
  | 25 => exact xo_25 i
  | 26 => exact xo_26 i
  | 27 => exact xo_27 i
  | 28 => exact xo_28 i
  | 29 => exact xo_29 i
  | 30 => exact xo_30 i
  | 31 => exact xo_31 i
  | 32 => exact xo_32 i
  | 33 => exact xo_33 i
  | 34 => exact xo_34 i
  | 35 => exact xo_35 i
  | 36 => exact xo_36 i
  | 37 => exact xo_37 i
  | 38 => exact xo_38 i
  | 39 => exact xo_39 i
  | 40 => exact xo_40 i
  | 41 => exact xo_41 i
  | 42 => exact xo_42 i
  | 43 => exact xo_43 i
  | 44 => exact xo_44 i
  | 45 => exact xo_45 i
  | 46 => exact xo_46 i
  | 47 => exact xo_47 i
  | 48 => exact xo_48 i
  | 49 => exact xo_49 i
  | 50 => exact xo_50 i
  | 51 => exact xo_51 i
  | 52 => exact xo_52 i
  | 53 => exact xo_53 i
  | 54 => exact xo_54 i
  | 55 => exact xo_55 i
  | 56 => exact xo_56 i
  | 57 => exact xo_57 i
  | 58 => exact xo_58 i
  | 59 => exact xo_59 i
  | 60 => exact xo_60 i
  | 61 => exact xo_61 i
  | 62 => exact xo_62 i
  | 63 => exact xo_63 i
  | 64 => exact xo_64 i
  | 65 => exact xo_65 i
  | 66 => exact xo_66 i
  | 67 => exact xo_67 i
  | 68 => exact xo_68 i
  | 69 => exact xo_69 i
  | 70 => exact xo_70 i
  | 71 => exact xo_71 i
  | 72 => exact xo_72 i
  | 73 => exact xo_73 i
  | 74 => exact xo_74 i
  | 75 => exact xo_75 i
  | 76 => exact xo_76 i
  | 77 => exact xo_77 i
  | 78 => exact xo_78 i
  | 79 => exact xo_79 i
  | 80 => exact xo_80 i
  | 81 => exact xo_81 i
  | 82 => exact xo_82 i
  | 83 => exact xo_83 i
  | 84 => exact xo_84 i
  | 85 => exact xo_85 i
  | 86 => exact xo_86 i
  | 87 => exact xo_87 i
  | 88 => exact xo_88 i
  | 89 => exact xo_89 i
  | 90 => exact xo_90 i
  | 91 => exact xo_91 i
  | 92 => exact xo_92 i
  | 93 => exact xo_93 i
  | 94 => exact xo_94 i
  | 95 => exact xo_95 i
  | 96 => exact xo_96 i
  | 97 => exact xo_97 i
  | 98 => exact xo_98 i
  | 99 => exact xo_99 i
  | 100 => exact xo_100 i
  | 101 => exact xo_101 i
  | (k + 102) => rfl
end
section
/-! ===== the abstract machine's heap and frame, and the real one's ===== -/
def xm_goods : List Cond := lw_tbl.filter goodWord
def xm_E (cid : Nat → Nat) (o : xm_O) : va_E := match o with
  | .inl q => .inl (cid q.1, q.2)
  | .inr q => .inr q
def xm_P (D : va_G) (cid : Nat → Nat) (hp : Nat → Option xm_O) (H : Heap) : Prop := ∀ (a : Nat) (o : xm_O), hp a = some o → va_at D xc_cl (a, xm_E cid o) H
def xm_tys (cid : Nat → Nat) : List (ClassId × FieldType) := xc_arr.mapIdx (fun t ty => (cid t, ty))
theorem xm_tys_at (cid : Nat → Nat) {t : Nat} {ty : FieldType} (h : xc_arr[t]? = some ty) : (xm_tys cid)[t]? = some (cid t, ty) := by
  unfold xm_tys
  rw [List.getElem?_mapIdx, h]
  rfl
def xm_LR (ls : xm_L) (n : Nat) (lc : Array Slot) : Prop := ls.length = n ∧ lc.size = n ∧ lv_wf lc ∧ ∀ (i : Nat) (v : Value), ls[i]? = some (some v) → lc[i]? = some (.val v) ∧ v.category = 1
def xm_Ctx (p : Program) (s : State) (m : MethodId) (args : Array Value) (meth : Method) (c : Code) (y : Nat) : Prop :=
  p.tables.exec = Jvm.exec ∧ c.code = xm_bytes y ∧ c.maxLocals = xm_maxL y ∧ s.vm.findClass (xm_own y) = some m.cls ∧ (∀ w ∈ xm_goods, w.before args s = true) ∧ (∀ w ∈ lw_tbl, xm_isN w = true → w.before #[] s = true) ∧ meth.sig.returnType = xm_ret y ∧ meth.locks = false ∧ ((xm_name y).name = "<init>" → meth.name = "<init>")
/-- the heap: what the abstract one says; what is new since the start, and what may change -/
def xm_G (D : va_G) (cid : Nat → Nat) (sc : Nat × Nat × (Nat → Int32)) (A : Nat → Prop) (s : State) (h : xm_S) (H : Heap) (locs : List Loc) : Prop :=
  va_K D xc_cl (xm_tys cid) s ∧ xm_P D cid h.1 H ∧ H.size = h.2.1 ∧ (∀ (a : Nat) (o : xm_O), h.1 a = some o → A a) ∧ (∀ q : Nat, s.heap.size ≤ q → A q) ∧ va_S A s.heap H locs ∧ va_X sc.1 sc.2.1 sc.2.2 s s.heap ∧ sc.1 < s.heap.size ∧ ¬ A sc.1
theorem xm_atG_spec {pos : Nat} {w : Cond} (h : xm_atG pos w = true) : w ∈ xm_goods := by
  unfold xm_atG at h
  rw [Bool.and_eq_true] at h
  exact List.mem_filter.mpr ⟨List.mem_of_getElem? (of_decide_eq_true h.1), h.2⟩
theorem xm_atN_spec {pos : Nat} {w : Cond} (h : xm_atN pos w = true) : w ∈ lw_tbl ∧ xm_isN w = true := by
  unfold xm_atN at h
  rw [Bool.and_eq_true] at h
  exact ⟨List.mem_of_getElem? (of_decide_eq_true h.1), h.2⟩
theorem xm_nx_eq {y i n : Nat} (h : xm_nx y i n = true) : xm_bp y (i + 1) = xm_bp y i + n := of_decide_eq_true h
theorem xm_tg_eq {y i : Nat} {off t : Int} (h : xm_tg y i off t = true) : (xm_bp y i : Int) + off = (xm_bp y t.toNat : Int) := of_decide_eq_true h
theorem xm_own_eq {y : Nat} (hy : y < xm_names.length) : xm_own1 (xm_oc y) = xm_own y := of_decide_eq_true (List.all_eq_true.mp xt_o_ok y (List.mem_range.mpr hy))
/-- storing a local -/
def xm_pairs (ls : xm_L) : List (Nat × Value) := (List.range ls.length).filterMap (fun j => match ls[j]? with
  | some (some w) => some (j, w)
  | _ => none)
theorem xm_pairs_mem {ls : xm_L} {j : Nat} {w : Value} : (j, w) ∈ xm_pairs ls ↔ ls[j]? = some (some w) := by
  unfold xm_pairs
  rw [List.mem_filterMap]
  constructor
  · rintro ⟨k, -, hk⟩
    split at hk
    · rename_i w' hw
      cases hk
      exact hw
    · cases hk
  · intro hw
    refine ⟨j, List.mem_range.mpr (List.getElem?_eq_some_iff.mp hw).1, ?_⟩
    rw [hw]
theorem xm_LR.has {ls : xm_L} {n : Nat} {lc : Array Slot} (hl : xm_LR ls n lc) : lv_has lc n (xm_pairs ls) := by
  obtain ⟨h1, h2, h3, h4⟩ := hl
  exact ⟨h2, h3, fun q hq => (h4 q.1 q.2 (xm_pairs_mem.mp hq)).1⟩
theorem xm_LR.store {ls : xm_L} {n i : Nat} {v : Value} {lc lc' : Array Slot} (hl : xm_LR ls n lc) (hc : v.category = 1) (h : lv_has lc' n ((i, v) :: (xm_pairs ls).filter (fun q => !(q.1 == i) && !(q.1 + 1 == i && q.2.category == 2)))) : xm_LR (ls.set i (some v)) n lc' := by
  obtain ⟨h1, h2, h3, h4⟩ := hl
  refine ⟨by rw [List.length_set]; exact h1, h.1, h.2.1, fun j w hj => ?_⟩
  by_cases hji : j = i
  · subst hji
    rw [List.getElem?_set_self'] at hj
    have hw : w = v := by
      cases hz : ls[j]? with
      | none => rw [hz] at hj; cases hj
      | some z => rw [hz] at hj; cases hj; rfl
    subst hw
    exact ⟨h.2.2 (j, w) List.mem_cons_self, hc⟩
  · rw [List.getElem?_set_ne (Ne.symm hji)] at hj
    have hcat := (h4 j w hj).2
    refine ⟨h.2.2 (j, w) (List.mem_cons_of_mem _ (List.mem_filter.mpr ⟨xm_pairs_mem.mpr hj, ?_⟩)), hcat⟩
    simp [hji, hcat]
section XS
variable {p : Program} {l : Launch} {e : Env} {R : Room} {s : State} {m : MethodId} {args : Array Value} {below : List Frame} {meth : Method} {c : Code} {H : Heap} {locs : List Loc} {cells slots : Nat} {Q : State → Prop}
variable {D : va_G} {cid : Nat → Nat} {sc : Nat × Nat × (Nat → Int32)} {A : Nat → Prop} {y i : Nat} {ls : xm_L} {st rest : List Value} {lc : Array Slot} {h : xm_S}
theorem xs_iconst (C : xm_Ctx p s m args meth c y) {v : Int} (hy : y < xm_names.length) (hk : xm_k y i (.iconst v) = true) (kk : W p l e R s m args below meth c H locs cells slots Q (F0 m (xm_bp y (i + 1)) lc (.int (Int32.ofInt v) :: st))) : W p l e R s m args below meth c H locs cells slots Q (F0 m (xm_bp y i) lc (st)) := by
  obtain ⟨hx, hb, hml, hown, hts, hN, -⟩ := C
  unfold xm_k at hk
  dsimp only at hk
  split at hk
  · rename_i w hd
    simp only [Bool.and_eq_true, decide_eq_true_eq] at hk
    rw [xm_nx_eq hk.2] at kk
    exact lv_iconst hx hb hd (by rw [hk.1]) kk
  · rename_i w hd
    simp only [Bool.and_eq_true, decide_eq_true_eq] at hk
    rw [xm_nx_eq hk.2] at kk
    exact lv_bipush hx hb hd hk.1 kk
  · rename_i w hd
    simp only [Bool.and_eq_true, decide_eq_true_eq] at hk
    rw [xm_nx_eq hk.2] at kk
    exact lv_sipush hx hb hd hk.1 kk
  · rename_i ix hd
    rw [Bool.and_eq_true] at hk
    rw [xm_nx_eq hk.2] at kk
    obtain ⟨q, hq, he⟩ := List.any_eq_true.mp hk.1
    have hw := xm_atG_spec (List.all_eq_true.mp xt_k_ok q hq)
    rw [of_decide_eq_true he] at hw
    dsimp only at hw
    rw [xm_own_eq hy] at hw
    exact lv_ldc hx hb hown (hts _ hw) hd kk
  · rename_i ix hd
    rw [Bool.and_eq_true] at hk
    rw [xm_nx_eq hk.2] at kk
    obtain ⟨q, hq, he⟩ := List.any_eq_true.mp hk.1
    have hw := xm_atG_spec (List.all_eq_true.mp xt_k_ok q hq)
    rw [of_decide_eq_true he] at hw
    dsimp only at hw
    rw [xm_own_eq hy] at hw
    exact lv_ldcw hx hb hown (hts _ hw) hd kk
  · cases hk
theorem xs_iload (C : xm_Ctx p s m args meth c y) {k : Nat} {x : Int32} (hk : xm_k y i (.iload k) = true) (hl : xm_LR ls (xm_maxL y) lc) (hv : ls[k]? = some (some (.int x))) (kk : W p l e R s m args below meth c H locs cells slots Q (F0 m (xm_bp y (i + 1)) lc (.int x :: st))) : W p l e R s m args below meth c H locs cells slots Q (F0 m (xm_bp y i) lc (st)) := by
  obtain ⟨hx, hb, hml, hown, hts, hN, -⟩ := C
  unfold xm_k at hk
  dsimp only at hk
  split at hk
  · rename_i w hd
    simp only [Bool.and_eq_true, decide_eq_true_eq] at hk
    rw [xm_nx_eq hk.2] at kk
    exact lv_iload_n hx hb hd hk.1 (hl.2.2.2 k _ hv).1 kk
  · rename_i w hd
    simp only [Bool.and_eq_true, decide_eq_true_eq] at hk
    rw [xm_nx_eq hk.2] at kk
    have hd2 := hd
    rw [hk.1] at hd2
    exact lv_iload hx hb hd2 (hl.2.2.2 k _ hv).1 kk
  · cases hk
theorem xs_aload (C : xm_Ctx p s m args meth c y) {k : Nat} {x : Nat} (hk : xm_k y i (.aload k) = true) (hl : xm_LR ls (xm_maxL y) lc) (hv : ls[k]? = some (some (.ref x))) (kk : W p l e R s m args below meth c H locs cells slots Q (F0 m (xm_bp y (i + 1)) lc (.ref x :: st))) : W p l e R s m args below meth c H locs cells slots Q (F0 m (xm_bp y i) lc (st)) := by
  obtain ⟨hx, hb, hml, hown, hts, hN, -⟩ := C
  unfold xm_k at hk
  dsimp only at hk
  split at hk
  · rename_i w hd
    simp only [Bool.and_eq_true, decide_eq_true_eq] at hk
    rw [xm_nx_eq hk.2] at kk
    exact lv_aload_n hx hb hd hk.1 (hl.2.2.2 k _ hv).1 kk
  · rename_i w hd
    simp only [Bool.and_eq_true, decide_eq_true_eq] at hk
    rw [xm_nx_eq hk.2] at kk
    have hd2 := hd
    rw [hk.1] at hd2
    exact lv_aload hx hb hd2 (hl.2.2.2 k _ hv).1 kk
  · cases hk
theorem xs_aloadN (C : xm_Ctx p s m args meth c y) {k : Nat} (hk : xm_k y i (.aload k) = true) (hl : xm_LR ls (xm_maxL y) lc) (hv : ls[k]? = some (some (.null))) (kk : W p l e R s m args below meth c H locs cells slots Q (F0 m (xm_bp y (i + 1)) lc (.null :: st))) : W p l e R s m args below meth c H locs cells slots Q (F0 m (xm_bp y i) lc (st)) := by
  obtain ⟨hx, hb, hml, hown, hts, hN, -⟩ := C
  unfold xm_k at hk
  dsimp only at hk
  split at hk
  · rename_i w hd
    simp only [Bool.and_eq_true, decide_eq_true_eq] at hk
    rw [xm_nx_eq hk.2] at kk
    exact lv_aload_nN hx hb hd hk.1 (hl.2.2.2 k _ hv).1 kk
  · rename_i w hd
    simp only [Bool.and_eq_true, decide_eq_true_eq] at hk
    rw [xm_nx_eq hk.2] at kk
    have hd2 := hd
    rw [hk.1] at hd2
    exact lv_aloadN hx hb hd2 (hl.2.2.2 k _ hv).1 kk
  · cases hk
theorem xs_istore (C : xm_Ctx p s m args meth c y) {k : Nat} {x : Int32} (hk : xm_k y i (.istore k) = true) (hl : xm_LR ls (xm_maxL y) lc) (hv : k < ls.length) (kk : ∀ lc' : Array Slot, xm_LR (ls.set k (some (.int x))) (xm_maxL y) lc' → W p l e R s m args below meth c H locs cells slots Q (F0 m (xm_bp y (i + 1)) lc' (st))) : W p l e R s m args below meth c H locs cells slots Q (F0 m (xm_bp y i) lc (.int x :: st)) := by
  obtain ⟨hx, hb, hml, hown, hts, hN, -⟩ := C
  unfold xm_k at hk
  dsimp only at hk
  have hn : k < xm_maxL y := by rw [← hl.1]; exact hv
  split at hk
  · rename_i w hd
    simp only [Bool.and_eq_true, decide_eq_true_eq] at hk
    rw [xm_nx_eq hk.2] at kk
    exact lv_istore_n hx hb hd hk.1 hl.has hn rfl (fun ls' h' => kk ls' (hl.store rfl h'))
  · rename_i w hd
    simp only [Bool.and_eq_true, decide_eq_true_eq] at hk
    rw [xm_nx_eq hk.2] at kk
    have hd2 := hd
    rw [hk.1] at hd2
    exact lv_istore hx hb hd2 hl.has hn rfl (fun ls' h' => kk ls' (hl.store rfl h'))
  · cases hk
theorem xs_astore (C : xm_Ctx p s m args meth c y) {k : Nat} {x : Nat} (hk : xm_k y i (.astore k) = true) (hl : xm_LR ls (xm_maxL y) lc) (hv : k < ls.length) (kk : ∀ lc' : Array Slot, xm_LR (ls.set k (some (.ref x))) (xm_maxL y) lc' → W p l e R s m args below meth c H locs cells slots Q (F0 m (xm_bp y (i + 1)) lc' (st))) : W p l e R s m args below meth c H locs cells slots Q (F0 m (xm_bp y i) lc (.ref x :: st)) := by
  obtain ⟨hx, hb, hml, hown, hts, hN, -⟩ := C
  unfold xm_k at hk
  dsimp only at hk
  have hn : k < xm_maxL y := by rw [← hl.1]; exact hv
  split at hk
  · rename_i w hd
    simp only [Bool.and_eq_true, decide_eq_true_eq] at hk
    rw [xm_nx_eq hk.2] at kk
    exact lv_astore_n hx hb hd hk.1 hl.has hn rfl (fun ls' h' => kk ls' (hl.store rfl h'))
  · rename_i w hd
    simp only [Bool.and_eq_true, decide_eq_true_eq] at hk
    rw [xm_nx_eq hk.2] at kk
    have hd2 := hd
    rw [hk.1] at hd2
    exact lv_astore hx hb hd2 hl.has hn rfl (fun ls' h' => kk ls' (hl.store rfl h'))
  · cases hk
theorem xs_astoreN (C : xm_Ctx p s m args meth c y) {k : Nat} (hk : xm_k y i (.astore k) = true) (hl : xm_LR ls (xm_maxL y) lc) (hv : k < ls.length) (kk : ∀ lc' : Array Slot, xm_LR (ls.set k (some (.null))) (xm_maxL y) lc' → W p l e R s m args below meth c H locs cells slots Q (F0 m (xm_bp y (i + 1)) lc' (st))) : W p l e R s m args below meth c H locs cells slots Q (F0 m (xm_bp y i) lc (.null :: st)) := by
  obtain ⟨hx, hb, hml, hown, hts, hN, -⟩ := C
  unfold xm_k at hk
  dsimp only at hk
  have hn : k < xm_maxL y := by rw [← hl.1]; exact hv
  split at hk
  · rename_i w hd
    simp only [Bool.and_eq_true, decide_eq_true_eq] at hk
    rw [xm_nx_eq hk.2] at kk
    exact lv_astore_nN hx hb hd hk.1 hl.has hn rfl (fun ls' h' => kk ls' (hl.store rfl h'))
  · rename_i w hd
    simp only [Bool.and_eq_true, decide_eq_true_eq] at hk
    rw [xm_nx_eq hk.2] at kk
    have hd2 := hd
    rw [hk.1] at hd2
    exact lv_astoreN hx hb hd2 hl.has hn rfl (fun ls' h' => kk ls' (hl.store rfl h'))
  · cases hk
theorem xs_iinc (C : xm_Ctx p s m args meth c y) {k : Nat} {cst : Int} {x : Int32} (hk : xm_k y i (.iinc k cst) = true) (hl : xm_LR ls (xm_maxL y) lc) (hv : ls[k]? = some (some (.int x))) (kk : ∀ lc' : Array Slot, xm_LR (ls.set k (some (.int (x + Int32.ofInt cst)))) (xm_maxL y) lc' → W p l e R s m args below meth c H locs cells slots Q (F0 m (xm_bp y (i + 1)) lc' (st))) : W p l e R s m args below meth c H locs cells slots Q (F0 m (xm_bp y i) lc (st)) := by
  obtain ⟨hx, hb, hml, hown, hts, hN, -⟩ := C
  unfold xm_k at hk
  dsimp only at hk
  have hn : k < xm_maxL y := by rw [← hl.1]; exact (List.getElem?_eq_some_iff.mp hv).1
  split at hk
  · rename_i w v hd
    simp only [Bool.and_eq_true, decide_eq_true_eq] at hk
    rw [xm_nx_eq hk.2.2] at kk
    have hd2 := hd
    rw [hk.1, hk.2.1] at hd2
    obtain ⟨q, hq⟩ := List.getElem?_of_mem (xm_pairs_mem.mpr hv)
    exact lv_iinc hx hb hd2 hl.has hq rfl hn rfl (fun ls' h' => kk ls' (hl.store rfl h'))
  · cases hk
theorem xs_iadd (C : xm_Ctx p s m args meth c y) {x z : Int32} (hk : xm_k y i .iadd = true) (kk : W p l e R s m args below meth c H locs cells slots Q (F0 m (xm_bp y (i + 1)) lc (.int (x + z) :: st))) : W p l e R s m args below meth c H locs cells slots Q (F0 m (xm_bp y i) lc (.int z :: .int x :: st)) := by
  obtain ⟨hx, hb, hml, hown, hts, hN, -⟩ := C
  unfold xm_k at hk
  dsimp only at hk
  split at hk
  · rename_i r hd
    simp only [Bool.and_eq_true, decide_eq_true_eq] at hk
    rw [xm_nx_eq hk.2] at kk
    have hd2 := hd
    rw [hk.1] at hd2
    exact lv_iadd hx hb hd2 kk
  · cases hk
theorem xs_isub (C : xm_Ctx p s m args meth c y) {x z : Int32} (hk : xm_k y i .isub = true) (kk : W p l e R s m args below meth c H locs cells slots Q (F0 m (xm_bp y (i + 1)) lc (.int (x - z) :: st))) : W p l e R s m args below meth c H locs cells slots Q (F0 m (xm_bp y i) lc (.int z :: .int x :: st)) := by
  obtain ⟨hx, hb, hml, hown, hts, hN, -⟩ := C
  unfold xm_k at hk
  dsimp only at hk
  split at hk
  · rename_i r hd
    simp only [Bool.and_eq_true, decide_eq_true_eq] at hk
    rw [xm_nx_eq hk.2] at kk
    have hd2 := hd
    rw [hk.1] at hd2
    exact lv_isub hx hb hd2 kk
  · cases hk
theorem xs_imul (C : xm_Ctx p s m args meth c y) {x z : Int32} (hk : xm_k y i .imul = true) (kk : W p l e R s m args below meth c H locs cells slots Q (F0 m (xm_bp y (i + 1)) lc (.int (x * z) :: st))) : W p l e R s m args below meth c H locs cells slots Q (F0 m (xm_bp y i) lc (.int z :: .int x :: st)) := by
  obtain ⟨hx, hb, hml, hown, hts, hN, -⟩ := C
  unfold xm_k at hk
  dsimp only at hk
  split at hk
  · rename_i r hd
    simp only [Bool.and_eq_true, decide_eq_true_eq] at hk
    rw [xm_nx_eq hk.2] at kk
    have hd2 := hd
    rw [hk.1] at hd2
    exact lv_imul hx hb hd2 kk
  · cases hk
theorem xs_iand (C : xm_Ctx p s m args meth c y) {x z : Int32} (hk : xm_k y i .iand = true) (kk : W p l e R s m args below meth c H locs cells slots Q (F0 m (xm_bp y (i + 1)) lc (.int (x &&& z) :: st))) : W p l e R s m args below meth c H locs cells slots Q (F0 m (xm_bp y i) lc (.int z :: .int x :: st)) := by
  obtain ⟨hx, hb, hml, hown, hts, hN, -⟩ := C
  unfold xm_k at hk
  dsimp only at hk
  split at hk
  · rename_i r hd
    simp only [Bool.and_eq_true, decide_eq_true_eq] at hk
    rw [xm_nx_eq hk.2] at kk
    have hd2 := hd
    rw [hk.1] at hd2
    exact lv_iand hx hb hd2 kk
  · cases hk
theorem xs_ior (C : xm_Ctx p s m args meth c y) {x z : Int32} (hk : xm_k y i .ior = true) (kk : W p l e R s m args below meth c H locs cells slots Q (F0 m (xm_bp y (i + 1)) lc (.int (x ||| z) :: st))) : W p l e R s m args below meth c H locs cells slots Q (F0 m (xm_bp y i) lc (.int z :: .int x :: st)) := by
  obtain ⟨hx, hb, hml, hown, hts, hN, -⟩ := C
  unfold xm_k at hk
  dsimp only at hk
  split at hk
  · rename_i r hd
    simp only [Bool.and_eq_true, decide_eq_true_eq] at hk
    rw [xm_nx_eq hk.2] at kk
    have hd2 := hd
    rw [hk.1] at hd2
    exact lv_ior hx hb hd2 kk
  · cases hk
theorem xs_ixor (C : xm_Ctx p s m args meth c y) {x z : Int32} (hk : xm_k y i .ixor = true) (kk : W p l e R s m args below meth c H locs cells slots Q (F0 m (xm_bp y (i + 1)) lc (.int (x ^^^ z) :: st))) : W p l e R s m args below meth c H locs cells slots Q (F0 m (xm_bp y i) lc (.int z :: .int x :: st)) := by
  obtain ⟨hx, hb, hml, hown, hts, hN, -⟩ := C
  unfold xm_k at hk
  dsimp only at hk
  split at hk
  · rename_i r hd
    simp only [Bool.and_eq_true, decide_eq_true_eq] at hk
    rw [xm_nx_eq hk.2] at kk
    have hd2 := hd
    rw [hk.1] at hd2
    exact lv_ixor hx hb hd2 kk
  · cases hk
theorem xs_ishl (C : xm_Ctx p s m args meth c y) {x z : Int32} (hk : xm_k y i .ishl = true) (kk : W p l e R s m args below meth c H locs cells slots Q (F0 m (xm_bp y (i + 1)) lc (.int (x <<< (z &&& 31)) :: st))) : W p l e R s m args below meth c H locs cells slots Q (F0 m (xm_bp y i) lc (.int z :: .int x :: st)) := by
  obtain ⟨hx, hb, hml, hown, hts, hN, -⟩ := C
  unfold xm_k at hk
  dsimp only at hk
  split at hk
  · rename_i r hd
    simp only [Bool.and_eq_true, decide_eq_true_eq] at hk
    rw [xm_nx_eq hk.2] at kk
    have hd2 := hd
    rw [hk.1] at hd2
    exact lv_ishl hx hb hd2 kk
  · cases hk
theorem xs_ishr (C : xm_Ctx p s m args meth c y) {x z : Int32} (hk : xm_k y i .ishr = true) (kk : W p l e R s m args below meth c H locs cells slots Q (F0 m (xm_bp y (i + 1)) lc (.int (x >>> (z &&& 31)) :: st))) : W p l e R s m args below meth c H locs cells slots Q (F0 m (xm_bp y i) lc (.int z :: .int x :: st)) := by
  obtain ⟨hx, hb, hml, hown, hts, hN, -⟩ := C
  unfold xm_k at hk
  dsimp only at hk
  split at hk
  · rename_i r hd
    simp only [Bool.and_eq_true, decide_eq_true_eq] at hk
    rw [xm_nx_eq hk.2] at kk
    have hd2 := hd
    rw [hk.1] at hd2
    exact lv_ishr hx hb hd2 kk
  · cases hk
theorem xs_iushr (C : xm_Ctx p s m args meth c y) {x z : Int32} (hk : xm_k y i .iushr = true) (kk : W p l e R s m args below meth c H locs cells slots Q (F0 m (xm_bp y (i + 1)) lc (.int ((x.toUInt32 >>> (z.toUInt32 &&& Int32.toUInt32 31)).toInt32) :: st))) : W p l e R s m args below meth c H locs cells slots Q (F0 m (xm_bp y i) lc (.int z :: .int x :: st)) := by
  obtain ⟨hx, hb, hml, hown, hts, hN, -⟩ := C
  unfold xm_k at hk
  dsimp only at hk
  split at hk
  · rename_i r hd
    simp only [Bool.and_eq_true, decide_eq_true_eq] at hk
    rw [xm_nx_eq hk.2] at kk
    have hd2 := hd
    rw [hk.1] at hd2
    exact lv_iushr hx hb hd2 rfl kk
  · cases hk
theorem xs_idiv (C : xm_Ctx p s m args meth c y) {x z : Int32} (hk : xm_k y i .idiv = true) (hz : ¬ z = 0) (kk : W p l e R s m args below meth c H locs cells slots Q (F0 m (xm_bp y (i + 1)) lc (.int (x / z) :: st))) : W p l e R s m args below meth c H locs cells slots Q (F0 m (xm_bp y i) lc (.int z :: .int x :: st)) := by
  obtain ⟨hx, hb, hml, hown, hts, hN, -⟩ := C
  unfold xm_k at hk
  dsimp only at hk
  split at hk
  · rename_i r hd
    simp only [Bool.and_eq_true, decide_eq_true_eq] at hk
    rw [xm_nx_eq hk.2] at kk
    have hd2 := hd
    rw [hk.1] at hd2
    exact lv_idiv hx hb hd2 hz kk
  · cases hk
theorem xs_irem (C : xm_Ctx p s m args meth c y) {x z : Int32} (hk : xm_k y i .irem = true) (hz : ¬ z = 0) (kk : W p l e R s m args below meth c H locs cells slots Q (F0 m (xm_bp y (i + 1)) lc (.int (x - x / z * z) :: st))) : W p l e R s m args below meth c H locs cells slots Q (F0 m (xm_bp y i) lc (.int z :: .int x :: st)) := by
  obtain ⟨hx, hb, hml, hown, hts, hN, -⟩ := C
  unfold xm_k at hk
  dsimp only at hk
  split at hk
  · rename_i r hd
    simp only [Bool.and_eq_true, decide_eq_true_eq] at hk
    rw [xm_nx_eq hk.2] at kk
    have hd2 := hd
    rw [hk.1] at hd2
    exact lv_irem hx hb hd2 hz kk
  · cases hk
theorem xs_ineg (C : xm_Ctx p s m args meth c y) {x : Int32} (hk : xm_k y i .ineg = true) (kk : W p l e R s m args below meth c H locs cells slots Q (F0 m (xm_bp y (i + 1)) lc (.int (-x) :: st))) : W p l e R s m args below meth c H locs cells slots Q (F0 m (xm_bp y i) lc (.int x :: st)) := by
  obtain ⟨hx, hb, hml, hown, hts, hN, -⟩ := C
  unfold xm_k at hk
  dsimp only at hk
  split at hk
  · rename_i r hd
    simp only [Bool.and_eq_true, decide_eq_true_eq] at hk
    rw [xm_nx_eq hk.2] at kk
    have hd2 := hd
    rw [hk.1] at hd2
    exact lv_ineg hx hb hd2 kk
  · cases hk
theorem xs_dup (C : xm_Ctx p s m args meth c y) {v : Value} (hv : v.category = 1) (hk : xm_k y i .dup = true) (kk : W p l e R s m args below meth c H locs cells slots Q (F0 m (xm_bp y (i + 1)) lc (v :: v :: st))) : W p l e R s m args below meth c H locs cells slots Q (F0 m (xm_bp y i) lc (v :: st)) := by
  obtain ⟨hx, hb, hml, hown, hts, hN, -⟩ := C
  unfold xm_k at hk
  dsimp only at hk
  split at hk
  · rename_i r hd
    simp only [Bool.and_eq_true, decide_eq_true_eq] at hk
    rw [xm_nx_eq hk.2] at kk
    have hd2 := hd
    rw [hk.1] at hd2
    exact lv_dup hx hb hd2 hv kk
  · cases hk
theorem xs_pop (C : xm_Ctx p s m args meth c y) {v : Value} (hv : v.category = 1) (hk : xm_k y i .pop = true) (kk : W p l e R s m args below meth c H locs cells slots Q (F0 m (xm_bp y (i + 1)) lc (st))) : W p l e R s m args below meth c H locs cells slots Q (F0 m (xm_bp y i) lc (v :: st)) := by
  obtain ⟨hx, hb, hml, hown, hts, hN, -⟩ := C
  unfold xm_k at hk
  dsimp only at hk
  split at hk
  · rename_i r hd
    simp only [Bool.and_eq_true, decide_eq_true_eq] at hk
    rw [xm_nx_eq hk.2] at kk
    have hd2 := hd
    rw [hk.1] at hd2
    exact lv_pop hx hb hd2 hv kk
  · cases hk
theorem xs_null (C : xm_Ctx p s m args meth c y)  (hk : xm_k y i .aconst_null = true) (kk : W p l e R s m args below meth c H locs cells slots Q (F0 m (xm_bp y (i + 1)) lc (.null :: st))) : W p l e R s m args below meth c H locs cells slots Q (F0 m (xm_bp y i) lc (st)) := by
  obtain ⟨hx, hb, hml, hown, hts, hN, -⟩ := C
  unfold xm_k at hk
  dsimp only at hk
  split at hk
  · rename_i r hd
    simp only [Bool.and_eq_true, decide_eq_true_eq] at hk
    rw [xm_nx_eq hk.2] at kk
    have hd2 := hd
    rw [hk.1] at hd2
    exact lv_null hx hb hd2 kk
  · cases hk
theorem xs_if (C : xm_Ctx p s m args meth c y) {x : Int32} {cd : Jvm.ClassFile.Cond} {t : Int} (hk : xm_k y i (.ifCond cd t) = true) (kk : W p l e R s m args below meth c H locs cells slots Q (F0 m (xm_bp y (if xm_cond cd x 0 then t.toNat else i + 1)) lc (st))) : W p l e R s m args below meth c H locs cells slots Q (F0 m (xm_bp y i) lc (.int x :: st)) := by
  obtain ⟨hx, hb, hml, hown, hts, hN, -⟩ := C
  unfold xm_k at hk
  dsimp only at hk
  split at hk
  · rename_i c' off hd
    simp only [Bool.and_eq_true, decide_eq_true_eq] at hk
    have hd2 := hd
    rw [hk.1] at hd2
    have ht := xm_tg_eq hk.2.1
    have hn := xm_nx_eq hk.2.2
    cases cd with
    | eq =>
      refine lv_if_eq hx hb hd2 ht (fun hq => ?_) (fun hq => ?_)
      · simpa [xm_cond, hq] using kk
      · rw [← hn]
        simpa [xm_cond, hq] using kk
    | ne =>
      refine lv_if_ne hx hb hd2 ht (fun hq => ?_) (fun hq => ?_)
      · simpa [xm_cond, hq] using kk
      · rw [← hn]
        simpa [xm_cond, hq] using kk
    | lt =>
      refine lv_if_lt hx hb hd2 ht (fun hq => ?_) (fun hq => ?_)
      · simpa [xm_cond, hq] using kk
      · rw [← hn]
        simpa [xm_cond, hq] using kk
    | ge =>
      refine lv_if_ge hx hb hd2 ht (fun hq => ?_) (fun hq => ?_)
      · simpa [xm_cond, hq] using kk
      · rw [← hn]
        simpa [xm_cond, hq] using kk
    | gt =>
      refine lv_if_gt hx hb hd2 ht (fun hq => ?_) (fun hq => ?_)
      · simpa [xm_cond, hq] using kk
      · rw [← hn]
        simpa [xm_cond, hq] using kk
    | le =>
      refine lv_if_le hx hb hd2 ht (fun hq => ?_) (fun hq => ?_)
      · simpa [xm_cond, hq] using kk
      · rw [← hn]
        simpa [xm_cond, hq] using kk
  · cases hk
theorem xs_ic (C : xm_Ctx p s m args meth c y) {x z : Int32} {cd : Jvm.ClassFile.Cond} {t : Int} (hk : xm_k y i (.if_icmp cd t) = true) (kk : W p l e R s m args below meth c H locs cells slots Q (F0 m (xm_bp y (if xm_cond cd x z then t.toNat else i + 1)) lc (st))) : W p l e R s m args below meth c H locs cells slots Q (F0 m (xm_bp y i) lc (.int z :: .int x :: st)) := by
  obtain ⟨hx, hb, hml, hown, hts, hN, -⟩ := C
  unfold xm_k at hk
  dsimp only at hk
  split at hk
  · rename_i c' off hd
    simp only [Bool.and_eq_true, decide_eq_true_eq] at hk
    have hd2 := hd
    rw [hk.1] at hd2
    have ht := xm_tg_eq hk.2.1
    have hn := xm_nx_eq hk.2.2
    cases cd with
    | eq =>
      refine lv_icmp_eq hx hb hd2 ht (fun hq => ?_) (fun hq => ?_)
      · simpa [xm_cond, hq] using kk
      · rw [← hn]
        simpa [xm_cond, hq] using kk
    | ne =>
      refine lv_icmp_ne hx hb hd2 ht (fun hq => ?_) (fun hq => ?_)
      · simpa [xm_cond, hq] using kk
      · rw [← hn]
        simpa [xm_cond, hq] using kk
    | lt =>
      refine lv_icmp_lt hx hb hd2 ht (fun hq => ?_) (fun hq => ?_)
      · simpa [xm_cond, hq] using kk
      · rw [← hn]
        simpa [xm_cond, hq] using kk
    | ge =>
      refine lv_icmp_ge hx hb hd2 ht (fun hq => ?_) (fun hq => ?_)
      · simpa [xm_cond, hq] using kk
      · rw [← hn]
        simpa [xm_cond, hq] using kk
    | gt =>
      refine lv_icmp_gt hx hb hd2 ht (fun hq => ?_) (fun hq => ?_)
      · simpa [xm_cond, hq] using kk
      · rw [← hn]
        simpa [xm_cond, hq] using kk
    | le =>
      refine lv_icmp_le hx hb hd2 ht (fun hq => ?_) (fun hq => ?_)
      · simpa [xm_cond, hq] using kk
      · rw [← hn]
        simpa [xm_cond, hq] using kk
  · cases hk
theorem xs_goto (C : xm_Ctx p s m args meth c y) {t : Int} (hk : xm_k y i (.goto t) = true) (kk : W p l e R s m args below meth c H locs cells slots Q (F0 m (xm_bp y t.toNat) lc (st))) : W p l e R s m args below meth c H locs cells slots Q (F0 m (xm_bp y i) lc (st)) := by
  obtain ⟨hx, hb, hml, hown, hts, hN, -⟩ := C
  unfold xm_k at hk
  dsimp only at hk
  split at hk
  · rename_i off hd
    exact lv_goto hx hb hd (xm_tg_eq hk) kk
  · cases hk
theorem xs_ifnull (C : xm_Ctx p s m args meth c y) {x : Nat} {t : Int} (hk : xm_k y i (.ifnull t) = true) (kk : W p l e R s m args below meth c H locs cells slots Q (F0 m (xm_bp y (i + 1)) lc (st))) : W p l e R s m args below meth c H locs cells slots Q (F0 m (xm_bp y i) lc (.ref x :: st)) := by
  obtain ⟨hx, hb, hml, hown, hts, hN, -⟩ := C
  unfold xm_k at hk
  dsimp only at hk
  split at hk
  · rename_i off hd
    rw [Bool.and_eq_true] at hk
    rw [xm_nx_eq hk.2] at kk
    exact lv_ifnull hx hb hd kk
  · cases hk
theorem xs_ifnullN (C : xm_Ctx p s m args meth c y) {t : Int} (hk : xm_k y i (.ifnull t) = true) (kk : W p l e R s m args below meth c H locs cells slots Q (F0 m (xm_bp y t.toNat) lc (st))) : W p l e R s m args below meth c H locs cells slots Q (F0 m (xm_bp y i) lc (.null :: st)) := by
  obtain ⟨hx, hb, hml, hown, hts, hN, -⟩ := C
  unfold xm_k at hk
  dsimp only at hk
  split at hk
  · rename_i off hd
    rw [Bool.and_eq_true] at hk
    exact lv_ifnullN hx hb hd (xm_tg_eq hk.1) kk
  · cases hk
theorem xs_ifnonnull (C : xm_Ctx p s m args meth c y) {x : Nat} {t : Int} (hk : xm_k y i (.ifnonnull t) = true) (kk : W p l e R s m args below meth c H locs cells slots Q (F0 m (xm_bp y t.toNat) lc (st))) : W p l e R s m args below meth c H locs cells slots Q (F0 m (xm_bp y i) lc (.ref x :: st)) := by
  obtain ⟨hx, hb, hml, hown, hts, hN, -⟩ := C
  unfold xm_k at hk
  dsimp only at hk
  split at hk
  · rename_i off hd
    rw [Bool.and_eq_true] at hk
    exact lv_ifnonnull hx hb hd (xm_tg_eq hk.1) kk
  · cases hk
theorem xs_ifnonnullN (C : xm_Ctx p s m args meth c y) {t : Int} (hk : xm_k y i (.ifnonnull t) = true) (kk : W p l e R s m args below meth c H locs cells slots Q (F0 m (xm_bp y (i + 1)) lc (st))) : W p l e R s m args below meth c H locs cells slots Q (F0 m (xm_bp y i) lc (.null :: st)) := by
  obtain ⟨hx, hb, hml, hown, hts, hN, -⟩ := C
  unfold xm_k at hk
  dsimp only at hk
  split at hk
  · rename_i off hd
    rw [Bool.and_eq_true] at hk
    rw [xm_nx_eq hk.2] at kk
    exact lv_ifnonnullN hx hb hd kk
  · cases hk
theorem xs_switchOut (C : xm_Ctx p s m args meth c y) {x : Int32} {dd lo hi : Int} {offs : Array Int} (hk : xm_k y i (.tableswitch dd lo hi offs) = true) (hz : x.toInt < lo ∨ hi < x.toInt) (kk : W p l e R s m args below meth c H locs cells slots Q (F0 m (xm_bp y dd.toNat) lc (st))) : W p l e R s m args below meth c H locs cells slots Q (F0 m (xm_bp y i) lc (.int x :: st)) := by
  obtain ⟨hx, hb, hml, hown, hts, hN, -⟩ := C
  unfold xm_k at hk
  dsimp only at hk
  split at hk
  · rename_i d' lo' hi' offs' len hd
    simp only [Bool.and_eq_true, decide_eq_true_eq] at hk
    obtain ⟨e1, e2, e3, e4, e5⟩ := hk
    subst e1; subst e2
    exact lv_tableOut hx hb hd hz (xm_tg_eq e3) kk
  · cases hk
theorem xs_switchIn (C : xm_Ctx p s m args meth c y) {x : Int32} {dd lo hi t : Int} {offs : Array Int} (hk : xm_k y i (.tableswitch dd lo hi offs) = true) (hz : ¬ (x.toInt < lo ∨ hi < x.toInt)) (ht : offs[(x.toInt - lo).toNat]? = some t) (kk : W p l e R s m args below meth c H locs cells slots Q (F0 m (xm_bp y t.toNat) lc (st))) : W p l e R s m args below meth c H locs cells slots Q (F0 m (xm_bp y i) lc (.int x :: st)) := by
  obtain ⟨hx, hb, hml, hown, hts, hN, -⟩ := C
  unfold xm_k at hk
  dsimp only at hk
  split at hk
  · rename_i d' lo' hi' offs' len hd
    simp only [Bool.and_eq_true, decide_eq_true_eq] at hk
    obtain ⟨e1, e2, e3, e4, e5⟩ := hk
    subst e1; subst e2
    have hj := (Array.getElem?_eq_some_iff.mp ht).1
    have e6 := List.all_eq_true.mp e5 _ (List.mem_range.mpr hj)
    split at e6
    · rename_i o t' ho ht'
      cases ht.symm.trans ht'
      exact lv_tableIn hx hb hd (fun q => hz (Or.inl q)) (fun q => hz (Or.inr q)) ho (xm_tg_eq e6) kk
    · cases e6
  · cases hk
end XS
end
section
/-! ===== fields, arrays, new cells ===== -/
theorem xc_in_ok : xc_cl.all (fun q => (u_ws q.1 q.2.1 q.2.2).all (fun w => decide (w ∈ lw_tbl) && goodWord w)) = true := by decide +kernel
theorem xc_in {ci : Nat} {q : vw_C} (h : xc_cl[ci]? = some q) : ∀ w ∈ u_ws q.1 q.2.1 q.2.2, w ∈ xm_goods := by
  intro w hw
  have h1 := List.all_eq_true.mp (List.all_eq_true.mp xc_in_ok q (List.mem_of_getElem? h)) w hw
  rw [Bool.and_eq_true] at h1
  exact List.mem_filter.mpr ⟨of_decide_eq_true h1.1, h1.2⟩
theorem xc_ini_ok : xc_cl.all (fun q => (decide (Cond.instantiable q.1 q.2.2 ∈ lw_tbl) && goodWord (Cond.instantiable q.1 q.2.2)) && (decide (Cond.initialized q.1 ∈ lw_tbl) && goodWord (Cond.initialized q.1))) = true := by decide +kernel
theorem xc_ini {ci : Nat} {q : vw_C} (h : xc_cl[ci]? = some q) : Cond.instantiable q.1 q.2.2 ∈ xm_goods ∧ Cond.initialized q.1 ∈ xm_goods := by
  have h1 := List.all_eq_true.mp xc_ini_ok q (List.mem_of_getElem? h)
  simp only [Bool.and_eq_true] at h1
  exact ⟨List.mem_filter.mpr ⟨of_decide_eq_true h1.1.1, h1.1.2⟩, List.mem_filter.mpr ⟨of_decide_eq_true h1.2.1, h1.2.2⟩⟩
theorem xc_ty_ok : (List.range xc_cl.length).all (fun ci => match xc_cl[ci]? with
  | some q => (List.range q.2.2).all (fun k => decide (parseFieldDescriptor (q.2.1 k).2.2.1 = some (xc_ty ci k)) && (decide (defaultValue (xc_ty ci k) = vp_V (xc_def ci) k) && (List.range q.2.2).all (fun j => decide (k = j) || decide ((q.2.1 k).2.1 ≠ (q.2.1 j).2.1)))) && decide ((xc_def ci).length = q.2.2)
  | none => true) = true := by decide +kernel
theorem xc_ty_spec {ci : Nat} {q : vw_C} (h : xc_cl[ci]? = some q) : (∀ k, k < q.2.2 → parseFieldDescriptor (q.2.1 k).2.2.1 = some (xc_ty ci k)) ∧ (∀ k, k < q.2.2 → defaultValue (xc_ty ci k) = vp_V (xc_def ci) k) ∧ (∀ a, a < q.2.2 → ∀ b, b < q.2.2 → a ≠ b → (q.2.1 a).2.1 ≠ (q.2.1 b).2.1) ∧ (xc_def ci).length = q.2.2 := by
  have h1 := List.all_eq_true.mp xc_ty_ok ci (List.mem_range.mpr (List.getElem?_eq_some_iff.mp h).1)
  rw [h] at h1
  simp only [Bool.and_eq_true, List.all_eq_true, List.mem_range, decide_eq_true_eq, Bool.or_eq_true] at h1
  refine ⟨fun k hk => (h1.1 k hk).1, fun k hk => (h1.1 k hk).2.1, fun a ha b hb hab => ?_, h1.2⟩
  rcases (h1.1 a ha).2.2 b hb with h2 | h2
  · exact absurd h2 hab
  · exact h2
theorem xc_aI : Cond.arrayClass FieldType.int ∈ xm_goods ∧ Cond.arrayClass FieldType.boolean ∈ xm_goods := by
  refine ⟨List.mem_filter.mpr ⟨by decide +kernel, rfl⟩, List.mem_filter.mpr ⟨by decide +kernel, rfl⟩⟩
section XG
variable {D : va_G} {cid : Nat → Nat} {sc : Nat × Nat × (Nat → Int32)} {A : Nat → Prop} {s : State} {h : xm_S} {H H' : Heap} {locs : List Loc}
theorem xm_G.put (G : xm_G D cid sc A s h H locs) {a k : Nat} {o0 o : xm_O} (ha : h.1 a = some o0) (he : va_at D xc_cl (a, xm_E cid o) H') (hz : H'.size = H.size) (oq : ∀ q : Nat, q ≠ a → H'[q]? = H[q]?) : xm_G D cid sc A s (xm_put h a o) H' (locs ++ [⟨a, k⟩]) := by
  obtain ⟨g1, g2, g3, g4, g5, g6, g7⟩ := G
  refine ⟨g1, fun a' o' ho => ?_, hz.trans g3, fun a' o' ho => ?_, g5, g6.put hz oq (g4 a o0 ha), g7⟩
  · by_cases haa : a' = a
    · subst haa
      simp only [xm_put, if_true, Option.some.injEq] at ho
      subst ho
      exact he
    · simp only [xm_put, haa, if_false] at ho
      exact (g2 a' o' ho).kept (oq a' haa)
  · by_cases haa : a' = a
    · subst haa
      exact g4 _ _ ha
    · simp only [xm_put, haa, if_false] at ho
      exact g4 a' o' ho
theorem xm_G.push (G : xm_G D cid sc A s h H locs) {n : Nat} {o : xm_O} (he : va_at D xc_cl (h.2.1, xm_E cid o) H') (hz : H'.size = H.size + 1) (oq : ∀ q : Nat, q < H.size → H'[q]? = H[q]?) : xm_G D cid sc A s (xm_push h o n) H' locs := by
  obtain ⟨g1, g2, g3, g4, g5, g6, g7⟩ := G
  have hge : s.heap.size ≤ h.2.1 := by rw [← g3]; exact g6.1
  refine ⟨g1, fun a' o' ho => ?_, by rw [hz, g3]; rfl, fun a' o' ho => ?_, g5, ⟨Nat.le_trans g6.1 (by omega), fun x h1 h2 => (oq x (Nat.lt_of_lt_of_le h1 g6.1)).trans (g6.2.1 x h1 h2), g6.2.2⟩, g7⟩
  · by_cases haa : a' = h.2.1
    · subst haa
      simp only [xm_push, if_true, Option.some.injEq] at ho
      subst ho
      exact he
    · simp only [xm_push, haa, if_false] at ho
      exact (g2 a' o' ho).kept (oq a' (g2 a' o' ho).lt)
  · by_cases haa : a' = h.2.1
    · rw [haa]
      exact g5 _ hge
    · simp only [xm_push, haa, if_false] at ho
      exact g4 a' o' ho
theorem xm_G.at (G : xm_G D cid sc A s h H locs) {a : Nat} {o : xm_O} (ha : h.1 a = some o) : va_P D xc_cl [(a, xm_E cid o)] H := by
  intro k q hq
  match k, hq with
  | 0, hq => cases hq; exact G.2.1 a o ha
  | k + 1, hq => simp at hq
end XG
section XH
variable {p : Program} {l : Launch} {e : Env} {R : Room} {s : State} {m : MethodId} {args : Array Value} {below : List Frame} {meth : Method} {c : Code} {H : Heap} {locs : List Loc} {cells slots : Nat} {Q : State → Prop}
variable {D : va_G} {cid : Nat → Nat} {sc : Nat × Nat × (Nat → Int32)} {A : Nat → Prop} {y i : Nat} {ls : xm_L} {st rest : List Value} {lc : Array Slot} {h : xm_S}
/-- a field's link, as the tables have it -/
theorem xm_fl_spec {n ix : Nat} (hy : y < xm_names.length) (hf : xm_fl y n ix = true) (hts : ∀ w ∈ xm_goods, w.before args s = true) (hN : ∀ w ∈ lw_tbl, xm_isN w = true → w.before #[] s = true) : ∃ (C : String) (T : u_T) (N : Nat), xc_cl[n / 32]? = some (C, T, N) ∧ n % 32 < N ∧ (T (n % 32)).1 = C ∧ ((Cond.fieldLink (xm_own y) ix C (T (n % 32)).2.1 (T (n % 32)).2.2.1).before args s = true ∨ ((Cond.fieldLinkNest (xm_own y) ix C (T (n % 32)).2.1 (T (n % 32)).2.2.1 xc_host).before args s = true ∧ xm_own y ≠ C)) := by
  obtain ⟨q, hq, he⟩ := List.any_eq_true.mp hf
  have hw := List.all_eq_true.mp xt_f_ok q hq
  rw [of_decide_eq_true he] at hw
  dsimp only at hw
  rw [xm_own_eq hy] at hw
  unfold xm_flw at hw
  split at hw
  · rename_i r hr
    obtain ⟨C, T, N⟩ := r
    simp only [Bool.and_eq_true, decide_eq_true_eq] at hw
    refine ⟨C, T, N, hr, hw.1, hw.2.1, ?_⟩
    have h3 := hw.2.2
    split at h3
    · exact Or.inl (hts _ (xm_atG_spec h3))
    · simp only [Bool.and_eq_true, decide_eq_true_eq] at h3
      have h4 := xm_atN_spec h3.1
      exact Or.inr ⟨va_Nw.use rfl (hN _ h4.1 h4.2), h3.2⟩
  · cases hw
theorem xs_get (C : xm_Ctx p s m args meth c y) (G : xm_G D cid sc A s h H locs) (hy : y < xm_names.length) {n a : Nat} {fs : List Value} {v : Value} (hk : xm_k y i (.getfield n) = true) (ha : h.1 a = some (.inr (n / 32, fs))) (hv : fs[n % 32]? = some v) (kk : W p l e R s m args below meth c H locs cells slots Q (F0 m (xm_bp y (i + 1)) lc (v :: st))) : W p l e R s m args below meth c H locs cells slots Q (F0 m (xm_bp y i) lc (.ref a :: st)) := by
  obtain ⟨hx, hb, hml, hown, hts, hN, -⟩ := C
  unfold xm_k at hk
  dsimp only at hk
  split at hk
  · rename_i ix hd
    rw [Bool.and_eq_true] at hk
    rw [xm_nx_eq hk.2] at kk
    obtain ⟨Cn, T, N, hc, hkN, hT, hlink⟩ := xm_fl_spec (args := args) hy hk.1 hts hN
    rcases hlink with hlink | ⟨hlink, -⟩
    · exact va_get hx hb hts (xc_in hc) hown G.1 (G.at ha) 0 rfl hc (n % 32) hkN hlink (fun x hx' => by rw [hT] at hx'; exact hx') hv hd kk
    · exact va_getN hx hb hts (xc_in hc) hown G.1 (G.at ha) 0 rfl hc (n % 32) hkN hlink (fun x hx' => by rw [hT] at hx'; exact hx') hv hd kk
  · cases hk
theorem xs_put (C : xm_Ctx p s m args meth c y) (G : xm_G D cid sc A s h H locs) (hy : y < xm_names.length) {n a : Nat} {fs : List Value} {v : Value} (hk : xm_k y i (.putfield n) = true) (ha : h.1 a = some (.inr (n / 32, fs))) (hl : n % 32 < fs.length) (hn : narrow (xc_ty (n / 32) (n % 32)) v = v) (hfit : fits (xc_ty (n / 32) (n % 32)) v = true) (kk : ∀ (H' : Heap) (locs' : List Loc), xm_G D cid sc A s (xm_put h a (.inr (n / 32, fs.set (n % 32) v))) H' locs' → W p l e R s m args below meth c H' locs' cells slots Q (F0 m (xm_bp y (i + 1)) lc st)) : W p l e R s m args below meth c H locs cells slots Q (F0 m (xm_bp y i) lc (v :: .ref a :: st)) := by
  obtain ⟨hx, hb, hml, hown, hts, hN, -, -, hnm⟩ := C
  unfold xm_k at hk
  dsimp only at hk
  split at hk
  · rename_i ix hd
    rw [Bool.and_eq_true] at hk
    rw [xm_nx_eq hk.2] at kk
    have hf := hk.1
    unfold xm_flp at hf
    rw [Bool.and_eq_true] at hf
    obtain ⟨Cn, T, N, hc, hkN, hT, hlink⟩ := xm_fl_spec (args := args) hy hf.1 hts hN
    have hfin := hf.2
    unfold xm_fin at hfin
    rw [hc] at hfin
    simp only [Bool.or_eq_true, Bool.and_eq_true, decide_eq_true_eq] at hfin
    obtain ⟨hty, -, hnmd, -⟩ := xc_ty_spec hc
    have hap := va_apart (own := xm_own y) hts (xc_in hc) (xc_ty (n / 32)) hty hnmd G.1 hc
    have hK := G.1
    obtain ⟨r, h1, cell, q1, q2, q3, q4⟩ := G.2.1 a _ ha
    have hr : r = (Cn, T, N) := Option.some.inj (h1.symm.trans hc)
    subst hr
    obtain ⟨hS, hfc, kC, hkC, hkind⟩ := hK.1 (n / 32) _ hc
    obtain ⟨cf, kf, fi, f, hi, hsl⟩ := hS (n % 32) hkN
    have hlay := hts _ (xc_in hc _ (u_in_lay hkN))
    have hst := (u_facts hfc hkC (u_lays hts (xc_in hc) hkN) hi).1
    have hsame : s.fieldFound? Cn (T (n % 32)).2.1 (T (n % 32)).2.2.1 = some (cf, kf, fi, f) := by
      have := hi
      dsimp only at this
      rw [hT] at this
      exact this
    have fin : ∀ H' : Heap, H'[a]? = some (cell.setSlot f.slot v) → H'.size = H.size → (∀ q, q ≠ a → H'[q]? = H[q]?) → W p l e R s m args below meth c H' (locs ++ [⟨a, f.slot⟩]) cells slots Q (F0 m (xm_bp y i + 3) lc st) := by
      intro H' e1 e2 e3
      rw [hsl] at e1 ⊢
      exact kk H' _ (G.put ha ⟨_, hc, t_OB.to (V := updV (vp_V fs) (n % 32) v) ⟨_, e1, q2, q3, t_set q4 hap hkN v⟩ (fun j _ => vp_updV_set hl v j)⟩ e2 e3)
    by_cases hF : (T (n % 32)).2.2.2 = true
    · rw [hF] at hfin
      obtain ⟨hin, hCn⟩ := hfin.resolve_left (by simp)
      unfold u_lay at hlay
      rw [if_pos hF] at hlay
      have hlink' := hlink.resolve_right (fun q => q.2 hCn.symm)
      have hcf : m.cls = cf := by
        obtain ⟨_, _, c', _, _, _, -, -, hf', -, -, -, hown2, -⟩ := Cond.laysFinal_spec hlay
        have e1 : c' = cf := by have := hi.symm.trans hf'; simp at this; exact this.1.symm
        dsimp only at hown2
        rw [hT, hCn] at hown2
        rw [← e1]; exact Option.some.inj (hown.symm.trans hown2)
      have h6 := u_fits hfc hkC hkind (Or.inr hlay) hi (hty _ hkN) hn hfit
      exact W.putFinK hx hb hown hlink' hsame hst hcf (hnm hin) (by rw [q2]; exact h6) q1 q3 (by rw [hsl]; exact k2_hasslot (q4 _ hkN)) rfl rfl hd fin
    · have hF' : (T (n % 32)).2.2.2 = false := by simpa using hF
      unfold u_lay at hlay
      rw [if_neg hF] at hlay
      have h6 := u_store hfc hkC hkind hlay hi (hty _ hkN) hn hfit
      rcases hlink with hlink | ⟨hlink, -⟩
      · exact W.putK hx hb (f := f) ⟨hown, hlink, ⟨_, _, _, hsame⟩, hst⟩ (by rw [q2]; exact h6) q1 q3 (by rw [hsl]; exact k2_hasslot (q4 _ hkN)) rfl rfl hd fin
      · exact va_WputK hx hb (f := f) hown hlink hsame hst (by rw [q2]; exact h6) q1 q3 (by rw [hsl]; exact k2_hasslot (q4 _ hkN)) rfl rfl hd fin
  · cases hk
/-- an instruction that stands for itself -/
theorem xm_k_same {ins : Instr} (hk : (match decode (xm_bytes y) (xm_bp y i) with
    | .ok (r, 1) => decide (r = ins) && xm_nx y i 1
    | _ => false) = true) : decode (xm_bytes y) (xm_bp y i) = .ok (ins, 1) ∧ xm_bp y (i + 1) = xm_bp y i + 1 := by
  split at hk
  · rename_i r hd
    simp only [Bool.and_eq_true, decide_eq_true_eq] at hk
    rw [hk.1] at hd
    exact ⟨hd, xm_nx_eq hk.2⟩
  · cases hk
theorem xs_alen (C : xm_Ctx p s m args meth c y) (G : xm_G D cid sc A s h H locs) {a t n : Nat} {z : (Nat → Int32) ⊕ (Nat → Int64) ⊕ (Nat → UInt32) ⊕ (Nat → UInt64) ⊕ (Nat → Option Nat)} (hk : xm_k y i .arraylength = true) (ha : h.1 a = some (.inl (t, n, z))) (ht : t < xc_arr.length) (kk : W p l e R s m args below meth c H locs cells slots Q (F0 m (xm_bp y (i + 1)) lc (.int (nI n) :: st))) : W p l e R s m args below meth c H locs cells slots Q (F0 m (xm_bp y i) lc (.ref a :: st)) := by
  obtain ⟨hx, hb, hml, hown, hts, hN, -⟩ := C
  obtain ⟨hd, hn⟩ := xm_k_same hk
  rw [hn] at kk
  obtain ⟨ty, hty⟩ : ∃ ty, xc_arr[t]? = some ty := ⟨_, List.getElem?_eq_getElem ht⟩
  exact va_alen hx hb G.1 (G.at ha) 0 t rfl (xm_tys_at cid hty) rfl hd kk
theorem xs_alenS (C : xm_Ctx p s m args meth c y) (G : xm_G D cid sc A s h H locs) (hk : xm_k y i .arraylength = true) (kk : W p l e R s m args below meth c H locs cells slots Q (F0 m (xm_bp y (i + 1)) lc (.int (nI sc.2.1) :: st))) : W p l e R s m args below meth c H locs cells slots Q (F0 m (xm_bp y i) lc (.ref sc.1 :: st)) := by
  obtain ⟨hx, hb, hml, hown, hts, hN, -⟩ := C
  obtain ⟨hd, hn⟩ := xm_k_same hk
  rw [hn] at kk
  obtain ⟨g1, g2, g3, g4, g5, g6, g7, g8, g9⟩ := G
  exact va_slen hx hb g7 g8 g9 g6 hd kk
theorem xs_iald (C : xm_Ctx p s m args meth c y) (G : xm_G D cid sc A s h H locs) {a n : Nat} {f : Nat → Int32} {j : Int32} (hk : xm_k y i .iaload = true) (ha : h.1 a = some (.inl (0, n, .inl f))) (hj : vp_in j n) (kk : W p l e R s m args below meth c H locs cells slots Q (F0 m (xm_bp y (i + 1)) lc (.int (f j.toNatClampNeg) :: st))) : W p l e R s m args below meth c H locs cells slots Q (F0 m (xm_bp y i) lc (.int j :: .ref a :: st)) := by
  obtain ⟨hx, hb, hml, hown, hts, hN, -⟩ := C
  obtain ⟨hd, hn⟩ := xm_k_same hk
  rw [hn] at kk
  exact va_iald hx hb G.1 (G.at ha) 0 0 rfl (xm_tys_at cid (t := 0) rfl) hj hd kk
theorem xs_ialdS (C : xm_Ctx p s m args meth c y) (G : xm_G D cid sc A s h H locs) {j : Int32} (hk : xm_k y i .iaload = true) (hj : vp_in j sc.2.1) (kk : W p l e R s m args below meth c H locs cells slots Q (F0 m (xm_bp y (i + 1)) lc (.int (sc.2.2 j.toNatClampNeg) :: st))) : W p l e R s m args below meth c H locs cells slots Q (F0 m (xm_bp y i) lc (.int j :: .ref sc.1 :: st)) := by
  obtain ⟨hx, hb, hml, hown, hts, hN, -⟩ := C
  obtain ⟨hd, hn⟩ := xm_k_same hk
  rw [hn] at kk
  obtain ⟨g1, g2, g3, g4, g5, g6, g7, g8, g9⟩ := G
  exact va_sld hx hb g7 g8 g9 g6 hj hd kk
theorem xs_bald (C : xm_Ctx p s m args meth c y) (G : xm_G D cid sc A s h H locs) {a n : Nat} {f : Nat → Int32} {j : Int32} (hk : xm_k y i .baload = true) (ha : h.1 a = some (.inl (1, n, .inl f))) (hj : vp_in j n) (kk : W p l e R s m args below meth c H locs cells slots Q (F0 m (xm_bp y (i + 1)) lc (.int (f j.toNatClampNeg) :: st))) : W p l e R s m args below meth c H locs cells slots Q (F0 m (xm_bp y i) lc (.int j :: .ref a :: st)) := by
  obtain ⟨hx, hb, hml, hown, hts, hN, -⟩ := C
  obtain ⟨hd, hn⟩ := xm_k_same hk
  rw [hn] at kk
  exact va_zald hx hb G.1 (G.at ha) 0 1 rfl (xm_tys_at cid (t := 1) rfl) hj hd kk
theorem xs_aald (C : xm_Ctx p s m args meth c y) (G : xm_G D cid sc A s h H locs) {a t n : Nat} {f : Nat → Option Nat} {j : Int32} (hk : xm_k y i .aaload = true) (ha : h.1 a = some (.inl (t, n, .inr (.inr (.inr (.inr f)))))) (h2 : 2 ≤ t) (ht : t < xc_arr.length) (hj : vp_in j n) (kk : W p l e R s m args below meth c H locs cells slots Q (F0 m (xm_bp y (i + 1)) lc (va_rf (f j.toNatClampNeg) :: st))) : W p l e R s m args below meth c H locs cells slots Q (F0 m (xm_bp y i) lc (.int j :: .ref a :: st)) := by
  obtain ⟨hx, hb, hml, hown, hts, hN, -⟩ := C
  obtain ⟨hd, hn⟩ := xm_k_same hk
  rw [hn] at kk
  have h1 := List.all_eq_true.mp xt_a_all t (List.mem_range.mpr ht)
  simp only [Bool.or_eq_true, decide_eq_true_eq] at h1
  obtain ⟨q, hq, he⟩ := List.any_eq_true.mp (h1.resolve_left (by omega))
  have h3 := List.all_eq_true.mp xt_a_ok q hq
  rw [of_decide_eq_true he] at h3
  unfold xm_aow at h3
  split at h3
  · rename_i Cn r hty hcl
    exact va_aldq hx hb G.1 (G.at ha) 0 t rfl (xm_tys_at cid hty) hj hd kk
  · cases h3
theorem xs_iast (C : xm_Ctx p s m args meth c y) (G : xm_G D cid sc A s h H locs) {a n : Nat} {f : Nat → Int32} {j x : Int32} (hk : xm_k y i .iastore = true) (ha : h.1 a = some (.inl (0, n, .inl f))) (hj : vp_in j n) (kk : ∀ (H' : Heap) (locs' : List Loc), xm_G D cid sc A s (xm_put h a (.inl (0, n, .inl (upd f j.toNatClampNeg x)))) H' locs' → W p l e R s m args below meth c H' locs' cells slots Q (F0 m (xm_bp y (i + 1)) lc st)) : W p l e R s m args below meth c H locs cells slots Q (F0 m (xm_bp y i) lc (.int x :: .int j :: .ref a :: st)) := by
  obtain ⟨hx, hb, hml, hown, hts, hN, -⟩ := C
  obtain ⟨hd, hn⟩ := xm_k_same hk
  rw [hn] at kk
  refine W.iast hx hb (G.2.1 a _ ha) ((G.1.2 0 _ (xm_tys_at cid (t := 0) rfl)).1 n (fun j => .int (f j))) (fun q => by cases q) (by show ¬ (j < 0 ∨ (arrV _ _ _).slots.size ≤ _); rw [arrV_size]; exact hj) rfl rfl hd fun H1 e z oq => ?_
  refine kk H1 _ (G.put ha ?_ z oq)
  show H1[a]? = some (vp_cell _ _)
  rw [e]
  show some ((vp_cell (cid 0) (n, .inl f)).setSlot _ _) = _
  rw [vp_cell_i, vp_cell_i, arrV_store]
  congr 2
  funext q
  by_cases hq : q = j.toNatClampNeg
  · subst hq
    simp [updV, upd]
  · simp [updV, upd, hq]
theorem xs_bast (C : xm_Ctx p s m args meth c y) (G : xm_G D cid sc A s h H locs) {a n : Nat} {f : Nat → Int32} {j x : Int32} (hk : xm_k y i .bastore = true) (ha : h.1 a = some (.inl (1, n, .inl f))) (hj : vp_in j n) (kk : ∀ (H' : Heap) (locs' : List Loc), xm_G D cid sc A s (xm_put h a (.inl (1, n, .inl (upd f j.toNatClampNeg (vp_nar .boolean x))))) H' locs' → W p l e R s m args below meth c H' locs' cells slots Q (F0 m (xm_bp y (i + 1)) lc st)) : W p l e R s m args below meth c H locs cells slots Q (F0 m (xm_bp y i) lc (.int x :: .int j :: .ref a :: st)) := by
  obtain ⟨hx, hb, hml, hown, hts, hN, -⟩ := C
  obtain ⟨hd, hn⟩ := xm_k_same hk
  rw [hn] at kk
  refine W.zast hx hb (G.2.1 a _ ha) ((G.1.2 1 _ (xm_tys_at cid (t := 1) rfl)).1 n (fun j => .int (f j))) (fun q => by cases q) (by show ¬ (j < 0 ∨ (arrV _ _ _).slots.size ≤ _); rw [arrV_size]; exact hj) rfl rfl hd fun H1 e z oq => ?_
  refine kk H1 _ (G.put ha ?_ z oq)
  show H1[a]? = some (vp_cell _ _)
  rw [e]
  show some ((vp_cell (cid 1) (n, .inl f)).setSlot _ _) = _
  rw [vp_cell_i, vp_cell_i, arrV_store]
  congr 2
  funext q
  by_cases hq : q = j.toNatClampNeg
  · subst hq
    simp [updV, upd, vp_nar]
    try rfl
  · simp [updV, upd, hq]
theorem xs_aast (C : xm_Ctx p s m args meth c y) (G : xm_G D cid sc A s h H locs) {a t n v ci : Nat} {vs : List Value} {f : Nat → Option Nat} {j : Int32} (hk : xm_k y i .aastore = true) (ha : h.1 a = some (.inl (t, n, .inr (.inr (.inr (.inr f)))))) (hv : h.1 v = some (.inr (ci, vs))) (h2 : 2 ≤ t) (ht : t < xc_arr.length) (hcomp : xc_comp t = ci) (hj : vp_in j n) (kk : ∀ (H' : Heap) (locs' : List Loc), xm_G D cid sc A s (xm_put h a (.inl (t, n, .inr (.inr (.inr (.inr (va_up f j.toNatClampNeg (some v)))))))) H' locs' → W p l e R s m args below meth c H' locs' cells slots Q (F0 m (xm_bp y (i + 1)) lc st)) : W p l e R s m args below meth c H locs cells slots Q (F0 m (xm_bp y i) lc (.ref v :: .int j :: .ref a :: st)) := by
  obtain ⟨hx, hb, hml, hown, hts, hN, -⟩ := C
  obtain ⟨hd, hn⟩ := xm_k_same hk
  rw [hn] at kk
  have hlt : j.toNatClampNeg < n := Nat.not_le.mp fun q => hj (Or.inr q)
  have h0 : ¬ j < 0 := fun q => hj (Or.inl q)
  have h1 := List.all_eq_true.mp xt_a_all t (List.mem_range.mpr ht)
  simp only [Bool.or_eq_true, decide_eq_true_eq] at h1
  obtain ⟨q, hq, he⟩ := List.any_eq_true.mp (h1.resolve_left (by omega))
  have h3 := List.all_eq_true.mp xt_a_ok q hq
  rw [of_decide_eq_true he] at h3
  unfold xm_aow at h3
  split at h3
  · rename_i Cn r hty hcl
    simp only [Bool.and_eq_true, decide_eq_true_eq] at h3
    rw [hcomp] at hcl
    obtain ⟨r', hr', cellV, g1, g2, g3, -⟩ := G.2.1 v _ hv
    have hcls := (G.1.1 ci r hcl).2
    have hRA := (G.1.2 t _ (xm_tys_at cid hty)).2
    obtain ⟨kA, comp, k1, k2, k3, -⟩ := hRA
    have hcm : comp = D.1 ci := Option.some.inj (k3.symm.trans (by rw [← h3.2]; exact hcls.1))
    subst hcm
    obtain ⟨kC, hkC, hkd⟩ := hcls.2
    refine W.aast hx hb (G.2.1 a _ ha) (fun q h => by cases h) (fun h => by cases h) k1 k2 rfl hkC ⟨h0, by show _ < (arrV _ _ _).slots.size; rw [arrV_size]; exact hlt⟩ g1 (fun q h => by rw [g3] at h; cases h) (by rw [g2]; exact hkC) (by rw [g2]; exact va_assign hcls) rfl rfl hd fun H1 e z oq => ?_
    refine kk H1 _ (G.put ha ?_ z oq)
    show H1[a]? = some (vp_cell _ _)
    rw [e]
    show some ((vp_cell (cid t) (n, .inr (.inr (.inr (.inr f))))).setSlot _ _) = _
    rw [vp_cell_q, vp_cell_q, arrV_store]
    congr 2
    funext q
    by_cases hq : q = j.toNatClampNeg
    · subst hq
      simp [updV, va_up, va_rf]
    · simp [updV, va_up, hq]
  · cases h3
theorem xs_new (C : xm_Ctx p s m args meth c y) (G : xm_G D cid sc A s h H locs) (hy : y < xm_names.length) {ci : Nat} (hk : xm_k y i (.new ci) = true) (hcells : cells + 1 ≤ R.cells) (hslots : slots + (xc_def ci).length ≤ R.slots) (kk : ∀ (H' : Heap), xm_G D cid sc A s (xm_push h (.inr (ci, xc_def ci)) (xc_def ci).length) H' locs → W p l e R s m args below meth c H' locs (cells + 1) (slots + (xc_def ci).length) Q (F0 m (xm_bp y (i + 1)) lc (.ref h.2.1 :: st))) : W p l e R s m args below meth c H locs cells slots Q (F0 m (xm_bp y i) lc st) := by
  obtain ⟨hx, hb, hml, hown, hts, hN, -⟩ := C
  unfold xm_k at hk
  dsimp only at hk
  split at hk
  · rename_i ix r hd hr
    rw [Bool.and_eq_true] at hk
    rw [xm_nx_eq hk.2] at kk
    obtain ⟨q, hq, he⟩ := List.any_eq_true.mp hk.1
    have hw := List.all_eq_true.mp xt_c_ok q hq
    rw [of_decide_eq_true he] at hw
    dsimp only at hw
    rw [xm_own_eq hy] at hw
    unfold xm_clw at hw
    rw [hr] at hw
    have hcl := hts _ (xm_atG_spec hw)
    obtain ⟨Cn, T, N⟩ := r
    obtain ⟨hty, hdf, -, hlen⟩ := xc_ty_spec hr
    obtain ⟨hi1, hi2⟩ := xc_ini hr
    dsimp only at hlen hi1 hi2 hcl
    have hKn := G.1.1 ci _ hr
    have g3 := G.2.2.1
    rw [hlen] at hslots kk
    refine W.newcK hx hb hown hcl (hts _ hi1) (hts _ hi2) rfl hd hcells hslots hKn.2.1 g3 fun H1 kC hkC e1 z1 o1 => ?_
    refine kk H1 (G.push ?_ (by rw [z1, g3]) (fun q hq => o1 q (by rw [← g3]; exact hq)))
    exact ⟨_, hr, (u_born (xc_ty ci) hts (xc_in hr) hKn hkC e1 hty).to hdf⟩
  · cases hk
end XH
end
section
/-! ===== new arrays, library members, calls, ends ===== -/
section XI
variable {p : Program} {l : Launch} {e : Env} {R : Room} {s : State} {m : MethodId} {args : Array Value} {below : List Frame} {meth : Method} {c : Code} {H : Heap} {locs : List Loc} {cells slots : Nat} {Q : State → Prop}
variable {D : va_G} {cid : Nat → Nat} {sc : Nat × Nat × (Nat → Int32)} {A : Nat → Prop} {y i : Nat} {ls : xm_L} {st rest : List Value} {lc : Array Slot} {h : xm_S}
theorem xs_newI (C : xm_Ctx p s m args meth c y) (G : xm_G D cid sc A s h H locs) {n : Int32} (hk : xm_k y i (.newarray .int) = true) (h0 : ¬ n < 0) (hb4 : n.toNatClampNeg ≤ 134217728) (hcells : cells + 1 ≤ R.cells) (hslots : slots + n.toNatClampNeg ≤ R.slots) (kk : ∀ (H' : Heap), xm_G D cid sc A s (xm_push h (.inl (0, n.toNatClampNeg, .inl (fun _ => 0))) n.toNatClampNeg) H' locs → W p l e R s m args below meth c H' locs (cells + 1) (slots + n.toNatClampNeg) Q (F0 m (xm_bp y (i + 1)) lc (.ref h.2.1 :: st))) : W p l e R s m args below meth c H locs cells slots Q (F0 m (xm_bp y i) lc (.int n :: st)) := by
  obtain ⟨hx, hb, hml, hown, hts, hN, -⟩ := C
  unfold xm_k at hk
  dsimp only at hk
  split at hk
  · rename_i a' hd
    simp only [Bool.and_eq_true, decide_eq_true_eq] at hk
    rw [xm_nx_eq hk.2] at kk
    have hd2 := hd
    rw [hk.1] at hd2
    have g3 := G.2.2.1
    refine va_newaK hx hb (atype := .int) (hts _ xc_aI.1) rfl hd2 rfl h0 rfl (by show _ * 4 ≤ _; omega) hcells hslots g3 fun H1 cA e1 z1 o1 hAr hNm => ?_
    have hRA : s.vm.findClass ("[" ++ FieldType.int.toString) = some (cid 0) := (G.1.2 0 _ (xm_tys_at cid (t := 0) rfl)).2
    have hcA : cA = cid 0 := Option.some.inj (hNm.symm.trans hRA)
    subst hcA
    exact kk H1 (G.push e1 (by rw [z1, g3]) (fun q hq => o1 q (by rw [← g3]; exact hq)))
  · cases hk
theorem xs_newZ (C : xm_Ctx p s m args meth c y) (G : xm_G D cid sc A s h H locs) {n : Int32} (hk : xm_k y i (.newarray .boolean) = true) (h0 : ¬ n < 0) (hb4 : n.toNatClampNeg ≤ 134217728) (hcells : cells + 1 ≤ R.cells) (hslots : slots + n.toNatClampNeg ≤ R.slots) (kk : ∀ (H' : Heap), xm_G D cid sc A s (xm_push h (.inl (1, n.toNatClampNeg, .inl (fun _ => 0))) n.toNatClampNeg) H' locs → W p l e R s m args below meth c H' locs (cells + 1) (slots + n.toNatClampNeg) Q (F0 m (xm_bp y (i + 1)) lc (.ref h.2.1 :: st))) : W p l e R s m args below meth c H locs cells slots Q (F0 m (xm_bp y i) lc (.int n :: st)) := by
  obtain ⟨hx, hb, hml, hown, hts, hN, -⟩ := C
  unfold xm_k at hk
  dsimp only at hk
  split at hk
  · rename_i a' hd
    simp only [Bool.and_eq_true, decide_eq_true_eq] at hk
    rw [xm_nx_eq hk.2] at kk
    have hd2 := hd
    rw [hk.1] at hd2
    have g3 := G.2.2.1
    refine va_newaK hx hb (atype := .boolean) (hts _ xc_aI.2) rfl hd2 rfl h0 rfl (by show _ * 1 ≤ _; omega) hcells hslots g3 fun H1 cA e1 z1 o1 hAr hNm => ?_
    have hRA : s.vm.findClass ("[" ++ FieldType.boolean.toString) = some (cid 1) := (G.1.2 1 _ (xm_tys_at cid (t := 1) rfl)).2
    have hcA : cA = cid 1 := Option.some.inj (hNm.symm.trans hRA)
    subst hcA
    exact kk H1 (G.push e1 (by rw [z1, g3]) (fun q hq => o1 q (by rw [← g3]; exact hq)))
  · cases hk
theorem xs_newA (C : xm_Ctx p s m args meth c y) (G : xm_G D cid sc A s h H locs) (hy : y < xm_names.length) {n : Int32} {t : Nat} (hk : xm_k y i (.anewarray t) = true) (h0 : ¬ n < 0) (hb4 : n.toNatClampNeg ≤ 134217728) (hcells : cells + 1 ≤ R.cells) (hslots : slots + n.toNatClampNeg ≤ R.slots) (kk : ∀ (H' : Heap), xm_G D cid sc A s (xm_push h (.inl (t, n.toNatClampNeg, .inr (.inr (.inr (.inr (fun _ => none)))))) n.toNatClampNeg) H' locs → W p l e R s m args below meth c H' locs (cells + 1) (slots + n.toNatClampNeg) Q (F0 m (xm_bp y (i + 1)) lc (.ref h.2.1 :: st))) : W p l e R s m args below meth c H locs cells slots Q (F0 m (xm_bp y i) lc (.int n :: st)) := by
  obtain ⟨hx, hb, hml, hown, hts, hN, -⟩ := C
  unfold xm_k at hk
  dsimp only at hk
  split at hk
  · rename_i ix hd
    rw [Bool.and_eq_true] at hk
    rw [xm_nx_eq hk.2] at kk
    obtain ⟨q, hq, he⟩ := List.any_eq_true.mp hk.1
    have hw := List.all_eq_true.mp xt_n_ok q hq
    rw [of_decide_eq_true he] at hw
    dsimp only at hw
    rw [xm_own_eq hy] at hw
    unfold xm_anw at hw
    split at hw
    · rename_i Cn hty
      simp only [Bool.and_eq_true, decide_eq_true_eq] at hw
      have hcl := hts _ (xm_atG_spec hw.1)
      have ht : t < xc_arr.length := (List.getElem?_eq_some_iff.mp hty).1
      have h1 := List.all_eq_true.mp xt_a_all t (List.mem_range.mpr ht)
      simp only [Bool.or_eq_true, decide_eq_true_eq] at h1
      obtain ⟨q2, hq2, he2⟩ := List.any_eq_true.mp (h1.resolve_left (by omega))
      have h3 := List.all_eq_true.mp xt_a_ok q2 hq2
      rw [of_decide_eq_true he2] at h3
      unfold xm_aow at h3
      rw [hty] at h3
      split at h3
      · rename_i Cn2 r hty2 hcl2
        cases hty2
        simp only [Bool.and_eq_true, decide_eq_true_eq] at h3
        have h4 := xm_atN_spec h3.1
        have hover : (Cond.arrayOver (.object Cn)).before args s = true := hN _ h4.1 h4.2
        have g3 := G.2.2.1
        refine W.anew hx hb hown hcl hover rfl hd rfl h0 (by omega) hcells hslots fun cA kA comp f1 f2 f3 f4 => ?_
        obtain ⟨kA', comp', k1, k2, k3, k4⟩ := (G.1.2 t _ (xm_tys_at cid hty)).2
        have hcA : cA = cid t := Option.some.inj (f1.symm.trans k4)
        subst hcA
        rw [g3]
        refine kk _ (G.push ?_ (by simp) (fun q hq => by rw [Array.getElem?_push, if_neg (Nat.ne_of_lt hq)]))
        show (H.push _)[h.2.1]? = some (vp_cell _ _)
        rw [vp_cell_q, ← g3, Array.getElem?_push_size, arrV_new]
        rfl
      · cases h3
    · cases hw
  · cases hk
/-- a method's link, as the tables have it -/
theorem xm_ml_spec {y' ix : Nat} (hy : y < xm_names.length) (hf : xm_ml y y' ix = true) (hts : ∀ w ∈ xm_goods, w.before args s = true) (hN : ∀ w ∈ lw_tbl, xm_isN w = true → w.before #[] s = true) : (Cond.methodLink (xm_own y) ix (xm_mnm y')).before args s = true ∨ ((Cond.methodLinkNest (xm_own y) ix (xm_mnm y') xc_host).before args s = true ∧ y' < 1000) := by
  obtain ⟨q, hq, he⟩ := List.any_eq_true.mp hf
  have hw := List.all_eq_true.mp xt_m_ok q hq
  rw [of_decide_eq_true he] at hw
  dsimp only at hw
  rw [xm_own_eq hy] at hw
  unfold xm_mlw at hw
  split at hw
  · exact Or.inl (hts _ (xm_atG_spec hw))
  · simp only [Bool.and_eq_true, decide_eq_true_eq] at hw
    have h4 := xm_atN_spec hw.1
    exact Or.inr ⟨va_Nw.use rfl (hN _ h4.1 h4.2), hw.2⟩
theorem xm_sum_cat {r : List Value} (h : ∀ v ∈ r, v.category = 1) : (r.map fun v => v.category).sum = r.length := by
  induction r with
  | nil => rfl
  | cons a r ih =>
    rw [List.map_cons, List.sum_cons, ih (fun v hv => h v (List.mem_cons_of_mem _ hv)), h a List.mem_cons_self, List.length_cons]
    omega
theorem xc_objw : Cond.instanceMethod objectInit ∈ xm_goods ∧ Cond.code objectInit ⟨#[0xb1]⟩ 1 none ∈ xm_goods := ⟨List.mem_filter.mpr ⟨by decide +kernel, rfl⟩, List.mem_filter.mpr ⟨by decide +kernel, rfl⟩⟩
theorem xc_maxw : Cond.static Lib.Math.max.name ∈ xm_goods ∧ Cond.initialized "java/lang/Math" ∈ xm_goods ∧ Cond.code Lib.Math.max.name Lib.Math.max.code 2 (some .int) ∈ xm_goods := ⟨List.mem_filter.mpr ⟨by decide +kernel, rfl⟩, List.mem_filter.mpr ⟨by decide +kernel, rfl⟩, List.mem_filter.mpr ⟨by decide +kernel, rfl⟩⟩
theorem xc_minw : Cond.static Lib.Math.min.name ∈ xm_goods ∧ Cond.initialized "java/lang/Math" ∈ xm_goods ∧ Cond.code Lib.Math.min.name Lib.Math.min.code 2 (some .int) ∈ xm_goods := ⟨List.mem_filter.mpr ⟨by decide +kernel, rfl⟩, List.mem_filter.mpr ⟨by decide +kernel, rfl⟩, List.mem_filter.mpr ⟨by decide +kernel, rfl⟩⟩
theorem xc_cpyw : Cond.native arraycopyName ∈ xm_goods ∧ Cond.static arraycopyName ∈ xm_goods ∧ Cond.initialized "java/lang/System" ∈ xm_goods := ⟨List.mem_filter.mpr ⟨by decide +kernel, rfl⟩, List.mem_filter.mpr ⟨by decide +kernel, rfl⟩, List.mem_filter.mpr ⟨by decide +kernel, rfl⟩⟩
theorem xs_obj (C : xm_Ctx p s m args meth c y) (hy : y < xm_names.length) (hl : xm_LR ls (xm_maxL y) lc) {a : Nat} (hk : xm_k y i (.invokespecial 1000) = true) (h8 : st.length ≤ 8) (hcat : ∀ v ∈ st, v.category = 1) (hf : 1 ≤ R.frames) (hlo : 30 ≤ R.locals) (kk : W p l e R s m args below meth c H locs cells slots Q (F0 m (xm_bp y (i + 1)) lc st)) : W p l e R s m args below meth c H locs cells slots Q (F0 m (xm_bp y i) lc (.ref a :: st)) := by
  obtain ⟨hx, hb, hml, hown, hts, hN, -⟩ := C
  unfold xm_k at hk
  dsimp only at hk
  split at hk
  · rename_i ix hd
    simp only [Bool.and_eq_true] at hk
    rw [xm_nx_eq hk.1] at kk
    have hlink := (xm_ml_spec (args := args) hy hk.2.1 hts hN).resolve_right (fun q => absurd q.2 (by omega))
    refine W.objInit hx hb hown hlink (hts _ xc_objw.1) (hts _ xc_objw.2) rfl (by rw [hml]; exact hl.2.1) rfl hd hf ?_ kk
    rw [xm_sum_cat hcat]
    show 2 * 0 + _ + 12 ≤ _
    omega
  · cases hk
theorem xs_max (C : xm_Ctx p s m args meth c y) (hy : y < xm_names.length) (hl : xm_LR ls (xm_maxL y) lc) {x z : Int32} (hk : xm_k y i (.invokestatic 2001) = true) (h8 : st.length ≤ 8) (hcat : ∀ v ∈ st, v.category = 1) (hf : 1 ≤ R.frames) (hlo : 30 ≤ R.locals) (hc : cells ≤ R.cells) (hs : slots ≤ R.slots) (kk : W p l e R s m args below meth c H locs cells slots Q (F0 m (xm_bp y (i + 1)) lc (.int (if x < z then z else x) :: st))) : W p l e R s m args below meth c H locs cells slots Q (F0 m (xm_bp y i) lc (.int z :: .int x :: st)) := by
  obtain ⟨hx, hb, hml, hown, hts, hN, -⟩ := C
  unfold xm_k at hk
  dsimp only at hk
  split at hk
  · rename_i ix hd
    simp only [Bool.and_eq_true] at hk
    rw [xm_nx_eq hk.1] at kk
    have hlink := (xm_ml_spec (args := args) hy hk.2.1 hts hN).resolve_right (fun q => absurd q.2 (by omega))
    exact va_mmax hx hb (by rw [hml]; exact hl.2.1.symm) hown hlink (hts _ xc_maxw.1) (hts _ xc_maxw.2.1) (hts _ xc_maxw.2.2) hf (by rw [xm_sum_cat hcat]; omega) hc hs hd kk
  · cases hk
theorem xs_min (C : xm_Ctx p s m args meth c y) (hy : y < xm_names.length) (hl : xm_LR ls (xm_maxL y) lc) {x z : Int32} (hk : xm_k y i (.invokestatic 2002) = true) (h8 : st.length ≤ 8) (hcat : ∀ v ∈ st, v.category = 1) (hf : 1 ≤ R.frames) (hlo : 30 ≤ R.locals) (hc : cells ≤ R.cells) (hs : slots ≤ R.slots) (kk : W p l e R s m args below meth c H locs cells slots Q (F0 m (xm_bp y (i + 1)) lc (.int (if z < x then z else x) :: st))) : W p l e R s m args below meth c H locs cells slots Q (F0 m (xm_bp y i) lc (.int z :: .int x :: st)) := by
  obtain ⟨hx, hb, hml, hown, hts, hN, -⟩ := C
  unfold xm_k at hk
  dsimp only at hk
  split at hk
  · rename_i ix hd
    simp only [Bool.and_eq_true] at hk
    rw [xm_nx_eq hk.1] at kk
    have hlink := (xm_ml_spec (args := args) hy hk.2.1 hts hN).resolve_right (fun q => absurd q.2 (by omega))
    exact va_mmin hx hb (by rw [hml]; exact hl.2.1.symm) hown hlink (hts _ xc_minw.1) (hts _ xc_minw.2.1) (hts _ xc_minw.2.2) hf (by rw [xm_sum_cat hcat]; omega) hc hs hd kk
  · cases hk
theorem xs_copy (C : xm_Ctx p s m args meth c y) (G : xm_G D cid sc A s h H locs) (hy : y < xm_names.length) (hl : xm_LR ls (xm_maxL y) lc) {a a0 n0 n1 : Nat} {f g : Nat → Int32} {sp dp n : Int32} (hk : xm_k y i (.invokestatic 2003) = true) (ha0 : h.1 a0 = some (.inl (0, n0, .inl f))) (ha : h.1 a = some (.inl (0, n1, .inl g))) (h1 : ¬ sp < 0) (h2 : ¬ dp < 0) (h3 : ¬ n < 0) (h4 : sp.toNatClampNeg + n.toNatClampNeg ≤ n0) (h5 : dp.toNatClampNeg + n.toNatClampNeg ≤ n1) (h8 : st.length ≤ 8) (hcat : ∀ v ∈ st, v.category = 1) (hf : 1 ≤ R.frames) (hlo : 30 ≤ R.locals)
    (kk : ∀ (H' : Heap) (locs' : List Loc), xm_G D cid sc A s (xm_put h a (.inl (0, n1, .inl (va_cpy f g sp.toNatClampNeg dp.toNatClampNeg n.toNatClampNeg)))) H' locs' → W p l e R s m args below meth c H' locs' cells slots Q (F0 m (xm_bp y (i + 1)) lc st)) : W p l e R s m args below meth c H locs cells slots Q (F0 m (xm_bp y i) lc (.int n :: .int dp :: .ref a :: .int sp :: .ref a0 :: st)) := by
  obtain ⟨hx, hb, hml, hown, hts, hN, -⟩ := C
  unfold xm_k at hk
  dsimp only at hk
  split at hk
  · rename_i ix hd
    simp only [Bool.and_eq_true] at hk
    rw [xm_nx_eq hk.1] at kk
    have hlink := (xm_ml_spec (args := args) hy hk.2.1 hts hN).resolve_right (fun q => absurd q.2 (by omega))
    have nn : ∀ z : Int32, ¬ z < 0 → z.toInt = (z.toNatClampNeg : Int) := by
      intro z hz
      have hz0 : (0 : Int) ≤ z.toInt := by
        have := Int32.not_lt.mp hz
        simpa using Int32.le_iff_toInt_le.mp this
      show z.toInt = ((z.toInt.toNat : Nat) : Int)
      omega
    intro T hT X
    have hc0 : H[a0]? = some (vp_cell (cid 0) (n0, .inl f)) := G.2.1 a0 _ ha0
    have hc1 : H[a]? = some (vp_cell (cid 0) (n1, .inl g)) := G.2.1 a _ ha
    have ht0 := xm_tys_at cid (t := 0) (ty := .int) rfl
    obtain ⟨-, k0, hk0, cm0, hkk0⟩ := (G.1.2 0 _ ht0).1 n0 (fun j => .int (f j))
    obtain ⟨-, k1, hk1, cm1, hkk1⟩ := (G.1.2 0 _ ht0).1 n1 (fun j => .int (g j))
    obtain ⟨vm', X', step⟩ := X.arraycopy hx hown hlink (hts _ xc_cpyw.1) (hts _ xc_cpyw.2.1) (hts _ xc_cpyw.2.2) (src := a0) (dst := a) (cs := vp_cell (cid 0) (n0, .inl f)) (cd := vp_cell (cid 0) (n1, .inl g)) (srcPos := sp) (destPos := dp) (n := n) (by rw [hT]; exact hc0) (by rw [hT]; exact hc1)
      (fun _ h => by cases h) (fun _ h => by cases h) (fun h => by cases h) (fun h => by cases h) hk0 hk1 hkk0 hkk1 (by simp [refKind]) h1 h2 h3
      (by rw [nn sp h1, nn n h3]; show ¬ _ > ((arrV (cid 0) n0 (fun j => .int (f j))).slots.size : Int); rw [arrV_size]; omega)
      (by rw [nn dp h2, nn n h3]; show ¬ _ > ((arrV (cid 0) n1 (fun j => .int (g j))).slots.size : Int); rw [arrV_size]; omega)
      (fun vm₁ _ i hi => by
        have e : (vp_cell (cid 0) (n0, .inl f)).slots.getD (sp.toNatClampNeg + i) .null = .int (f (sp.toNatClampNeg + i)) := by
          show (arrV (cid 0) n0 (fun j => .int (f j))).slots.getD _ _ = _
          rw [Array.getD_eq_getD_getElem?, arrV_read _ _ (by omega)]
          rfl
        refine ⟨?_, ?_⟩
        · rw [e]
          rfl
        · rw [e]
          exact trivial)
      (g := F0 m (xm_bp y i) lc (.int n :: .int dp :: .ref a :: .int sp :: .ref a0 :: st)) rfl (by rw [hml]; exact hl.2.1) (rest := st) rfl (by rw [hb]; exact hd) hf (by
        show 2 * 0 + _ + _ ≤ _
        rw [xm_sum_cat hcat]
        have : nativeFrameWords "java/lang/System" "arraycopy" 5 ≤ 11 := by decide +kernel
        omega)
    have e1 : copied (vp_cell (cid 0) (n0, .inl f)) (vp_cell (cid 0) (n1, .inl g)) sp dp n = vp_cell (cid 0) (n1, .inl (va_cpy f g sp.toNatClampNeg dp.toNatClampNeg n.toNatClampNeg)) := va_copied (fun z => .int z) (cid 0) (cid 0) f g h4
    rw [e1] at X' step
    have hlt : a < H.size := (Array.getElem?_eq_some_iff.mp hc1).1
    have hheap : ((T.setVm vm').setCell a (vp_cell (cid 0) (n1, .inl (va_cpy f g sp.toNatClampNeg dp.toNatClampNeg n.toNatClampNeg)))).heap = H.setIfInBounds a (vp_cell (cid 0) (n1, .inl (va_cpy f g sp.toNatClampNeg dp.toNatClampNeg n.toNatClampNeg))) := by rw [← hT]; rfl
    have oq : ∀ q : Nat, q ≠ a → (H.setIfInBounds a (vp_cell (cid 0) (n1, .inl (va_cpy f g sp.toNatClampNeg dp.toNatClampNeg n.toNatClampNeg))))[q]? = H[q]? := fun q hq => by simp [Array.getElem?_setIfInBounds, Ne.symm hq]
    have G0 := G.put (k := 0) ha (o := .inl (0, n1, .inl (va_cpy f g sp.toNatClampNeg dp.toNatClampNeg n.toNatClampNeg))) (show (H.setIfInBounds a _)[a]? = some _ by simp [Array.getElem?_setIfInBounds, hlt]) (by simp) oq
    obtain ⟨g1, g2, g3, g4, g5, g6, g7⟩ := G0
    obtain ⟨t, a1, b1⟩ := kk _ _ ⟨g1, g2, g3, g4, g5, ⟨g6.1, g6.2.1, fun q hq => by
      rcases List.mem_append.mp hq with hq | hq
      · exact G.2.2.2.2.2.1.2.2 q hq
      · obtain ⟨z, -, hz⟩ := List.mem_map.mp hq
        rw [← hz]
        exact G.2.2.2.1 a _ ha⟩, g7⟩ _ hheap X'
    exact ⟨t, step t a1, b1⟩
  · cases hk
end XI
end
section
/-! ===== what the abstract machine comes to, the real one comes to ===== -/
def xm_le (h h' : xm_S) : Prop := h.2.1 ≤ h'.2.1 ∧ h.2.2 ≤ h'.2.2 ∧ ∀ (q : Nat) (o : xm_O), h'.1 q = some o → h.1 q ≠ none ∨ h.2.1 ≤ q
theorem xm_le.rf (h : xm_S) : xm_le h h := ⟨Nat.le_refl _, Nat.le_refl _, fun q o hq => Or.inl (by rw [hq]; simp)⟩
theorem xm_le.tr {a b c : xm_S} (h1 : xm_le a b) (h2 : xm_le b c) : xm_le a c := by
  refine ⟨Nat.le_trans h1.1 h2.1, Nat.le_trans h1.2.1 h2.2.1, fun q o hq => ?_⟩
  rcases h2.2.2 q o hq with h3 | h3
  · cases hb : b.1 q with
    | none => exact absurd hb h3
    | some o' => exact h1.2.2 q o' hb
  · exact Or.inr (Nat.le_trans h1.1 h3)
theorem xm_le.put {h : xm_S} {a : Nat} {o0 o : xm_O} (ha : h.1 a = some o0) : xm_le h (xm_put h a o) := by
  refine ⟨Nat.le_refl _, Nat.le_refl _, fun q o' hq => ?_⟩
  by_cases hqa : q = a
  · subst hqa
    exact Or.inl (by rw [ha]; simp)
  · simp only [xm_put, hqa, if_false] at hq
    exact Or.inl (by rw [hq]; simp)
theorem xm_le.push (h : xm_S) (o : xm_O) (n : Nat) : xm_le h (xm_push h o n) := by
  refine ⟨Nat.le_succ _, Nat.le_add_right _ _, fun q o' hq => ?_⟩
  by_cases hqa : q = h.2.1
  · exact Or.inr (by omega)
  · simp only [xm_push, hqa, if_false] at hq
    exact Or.inl (by rw [hq]; simp)
set_option maxHeartbeats 4000000 in
theorem xm_do_le {sc : Nat × Nat × (Nat → Int32)} {ins : Instr} {i i' : Nat} {ls ls' : xm_L} {st st' : List Value} {h h' : xm_S} (hd : xm_do sc ins i ls st h = some (.inl (i', ls', st', h'))) : xm_le h h' := by
  unfold xm_do xm_b2 xm_call at hd
  split at hd <;> (repeat' split at hd) <;> first | (cases hd; done) | (cases hd; exact xm_le.rf _) | (cases hd; exact xm_le.push _ _ _) | (cases hd; exact xm_le.put (by assumption))
theorem xm_act_le {sc : Nat × Nat × (Nat → Int32)} {y i i' : Nat} {ls ls' : xm_L} {st st' : List Value} {h h' : xm_S} (hd : xm_act sc y i ls st h = some (.inl (i', ls', st', h'))) : xm_le h h' := by
  unfold xm_act at hd
  split at hd
  · split at hd
    · split at hd <;> cases hd
    · cases hd
  · exact xm_do_le hd
  · cases hd
theorem xm_ev_le {sc : Nat × Nat × (Nat → Int32)} : ∀ (n d y i : Nat) (ls : xm_L) (st : List Value) (h : xm_S) (r : Option Value) (h' : xm_S), xm_ev sc n d y i ls st h = some (r, h') → xm_le h h' := by
  intro n
  induction n with
  | zero => intro d y i ls st h r h' e; cases e
  | succ n ih =>
    intro d y i ls st h r h' e
    unfold xm_ev at e
    split at e
    · cases e
    · rename_i i1 ls1 st1 h1 hact
      exact (xm_act_le hact).tr (ih _ _ _ _ _ _ _ _ e)
    · rename_i y1 as1 rest1 hact
      cases d with
      | zero => cases e
      | succ d0 =>
        dsimp only at e
        split at e
        · cases e
        · rename_i r1 h1 hev
          exact (ih _ _ _ _ _ _ _ _ hev).tr (ih _ _ _ _ _ _ _ _ e)
    · rename_i r1 hact
      cases e
      exact xm_le.rf _
theorem xm_N_same {u U : State} (h : u.vm = U.vm) {w : Cond} (hw : xm_isN w = true) (hb : w.before #[] u = true) : w.before #[] U = true := by
  cases w <;> first | (cases hw; done) | exact va_Nw.same rfl h hb | skip
  rename_i t
  cases t <;> first | (cases hw; done) | exact va_AO.moved (by rw [h]; exact Vm.Alike.refl _) hb
theorem xm_N_warm {s U : State} (h : s.WarmedH U.vm) {w : Cond} (hw : xm_isN w = true) (hb : w.before #[] s = true) : w.before #[] U = true := by
  cases w <;> first | (cases hw; done) | exact va_Nw.warmM h hb | exact va_Nw.warmF h hb | skip
  rename_i t
  cases t <;> first | (cases hw; done) | exact va_AO.moved h.alike hb
def xm_A (h : xm_S) : Nat → Prop := fun q => h.1 q ≠ none ∨ h.2.1 ≤ q
def xm_Pc (D : va_G) (cid : Nat → Nat) (sc : Nat × Nat × (Nat → Int32)) (h : xm_S) (as : List Value) : Array Value → State → Prop := fun v U => v = as.toArray ∧ va_K D xc_cl (xm_tys cid) U ∧ xm_P D cid h.1 U.heap ∧ U.heap.size = h.2.1 ∧ va_X sc.1 sc.2.1 sc.2.2 U U.heap ∧ sc.1 < U.heap.size ∧ h.1 sc.1 = none ∧ ∀ w ∈ lw_tbl, xm_isN w = true → w.before #[] U = true
def xm_Qc (D : va_G) (cid : Nat → Nat) (h : xm_S) (r : Option Value) (h' : xm_S) : Array Value → State → Outcome → State → Prop := fun _ st o t => o = .returned r ∧ xm_P D cid h'.1 t.heap ∧ t.heap.size = h'.2.1 ∧ va_F (xm_A h) st t
def xm_ws (y : Nat) : List Cond := Cond.code (xm_name y) (xm_bytes y) (xm_maxL y) (xm_ret y) :: xm_goods
def xm_room (d mc ms : Nat) : Room := { frames := d + 1, cells := mc, slots := ms, locals := 30 * (d + 1) }
theorem xm_Pc_blind {D : va_G} {cid : Nat → Nat} {sc : Nat × Nat × (Nat → Int32)} {h : xm_S} {as : List Value} : FrameBlind (xm_Pc D cid sc h as) := by
  intro a U g mk hp
  obtain ⟨h1, h2, h3, h4, h5, h6, h7, h8⟩ := hp
  exact ⟨h1, va_K.moved (u := U) (U := U.calling g mk a) (Vm.Alike.refl U.vm) h2, h3, h4, va_X.moved (u := U) (U := U.calling g mk a) (Vm.Alike.refl U.vm) h5, h6, h7, fun w hw hn => xm_N_same (u := U) (U := U.calling g mk a) rfl hn (h8 w hw hn)⟩
section XC
variable {p : Program} {l : Launch} {e : Env} {R : Room} {s : State} {m : MethodId} {args : Array Value} {below : List Frame} {meth : Method} {c : Code} {H : Heap} {locs : List Loc} {cells slots mc ms pc : Nat} {Q : State → Prop}
variable {D : va_G} {cid : Nat → Nat} {sc : Nat × Nat × (Nat → Int32)} {A : Nat → Prop} {y i : Nat} {ls : xm_L} {st rest : List Value} {lc : Array Slot} {h h' : xm_S} {r : Option Value}
theorem xm_G.pre (C : xm_Ctx p s m args meth c y) (G : xm_G D cid sc A s h H locs) (as : List Value) : ∀ U : State, U.heap = H → s.WarmedH U.vm → xm_Pc D cid sc h as as.toArray U := by
  obtain ⟨hx, hb, hml, hown, hts, hN, -⟩ := C
  obtain ⟨g1, g2, g3, g4, g5, g6, g7, g8, g9⟩ := G
  intro U hU hW
  refine ⟨rfl, va_K.moved hW.alike g1, by rw [hU]; exact g2, by rw [hU]; exact g3, va_X.moved hW.alike (by rw [hU]; exact g7.kept (g6.2.1 _ g8 g9)), by rw [hU]; exact Nat.lt_of_lt_of_le g8 g6.1, ?_, fun w hw hn => xm_N_warm hW hn (hN w hw hn)⟩
  cases hz : h.1 sc.1 with
  | none => rfl
  | some o => exact absurd (g4 _ _ hz) g9
theorem xs_after {st0 : List Value} {a : Array Value} (G : xm_G D cid sc A s h H locs) (hle : xm_le h h') (hr : va_Run p l e R s m args below meth c H locs cells slots mc ms (F0 m pc lc st0) rest (xm_Qc D cid h r h' a) (xm_A h)) (kk : ∀ (H' : Heap) (locs' : List Loc), xm_G D cid sc A s h' H' locs' → W p l e R s m args below meth c H' locs' (cells + mc) (slots + ms) Q (F0 m (pc + 3) lc (r.toList ++ rest))) : W p l e R s m args below meth c H locs cells slots Q (F0 m pc lc st0) := by
  intro T hT X
  obtain ⟨v, st₀, t, T', L, h0, X', hL, e1, e2, ⟨hv, hp, hz, hF⟩, st⟩ := hr T hT X
  cases hv
  obtain ⟨g1, g2, g3, g4, g5, g6, g7⟩ := G
  have hge : s.heap.size ≤ h.2.1 := by rw [← g3]; exact g6.1
  have hAA : ∀ q, xm_A h q → A q := by
    intro q hq
    rcases hq with hq | hq
    · cases hz : h.1 q with
      | none => exact absurd hz hq
      | some o => exact g4 q o hz
    · exact g5 q (Nat.le_trans hge hq)
  have hF2 := hF.2
  rw [h0] at hF2
  have hF1 := hF.1
  rw [h0] at hF1
  obtain ⟨t2, a1, b1⟩ := kk T'.heap (locs ++ L) ⟨g1, by rw [e1]; exact hp, by rw [e1]; exact hz, fun q o hq => hAA q (hle.2.2 q o hq), g5, ⟨Nat.le_trans g6.1 (by rw [e1]; exact hF1), fun q h1 h2 => by
      rw [e1, hF2 q (Nat.lt_of_lt_of_le h1 g6.1) (fun z => h2 (hAA q z))]
      exact g6.2.1 q h1 h2, fun q hq => by
      rcases List.mem_append.mp hq with h | h
      · exact g6.2.2 q h
      · exact hAA _ (hL q h)⟩, g7⟩ T' rfl X'
  exact ⟨t2, st t2 a1, b1⟩
theorem xm_call_spec {y' : Nat} (hy : y' < xm_names.length) (hn : y' ≠ xm_law) : xm_cf y' = true ∧ xm_ck y' = true := by
  have key : ∀ k, (List.range 20).all (fun j => decide (k + j = xm_law) || (decide (xm_names.length ≤ k + j) || (xm_cf (k + j) && xm_ck (k + j)))) = true → k ≤ y' → y' < k + 20 → xm_cf y' = true ∧ xm_ck y' = true := by
    intro k hk h1 h2
    have h3 := List.all_eq_true.mp hk (y' - k) (List.mem_range.mpr (by omega))
    rw [show k + (y' - k) = y' by omega] at h3
    simp only [Bool.or_eq_true, Bool.and_eq_true, decide_eq_true_eq] at h3
    rcases h3 with h3 | h3 | h3
    · exact absurd h3 hn
    · omega
    · exact h3
  have hL : xm_names.length = 102 := rfl
  rcases (show (0 ≤ y' ∧ y' < 0 + 20) ∨ (20 ≤ y' ∧ y' < 20 + 20) ∨ (40 ≤ y' ∧ y' < 40 + 20) ∨ (60 ≤ y' ∧ y' < 60 + 20) ∨ (80 ≤ y' ∧ y' < 80 + 20) ∨ (100 ≤ y' ∧ y' < 100 + 20) by omega) with hq | hq | hq | hq | hq | hq
  · exact key 0 xq_0 hq.1 hq.2
  · exact key 20 xq_20 hq.1 hq.2
  · exact key 40 xq_40 hq.1 hq.2
  · exact key 60 xq_60 hq.1 hq.2
  · exact key 80 xq_80 hq.1 hq.2
  · exact key 100 xq_100 hq.1 hq.2
theorem xm_goods_in {y' : Nat} (h : xm_cf y' = true) : GoodIn xm_goods (xm_ws y') := by
  intro w hw
  rcases List.mem_cons.mp hw with h1 | h1
  · unfold xm_cf at h
    rw [Bool.and_eq_true] at h
    have := xm_atG_spec h.1
    rw [h1]
    exact ⟨this, good_of_word (List.mem_filter.mp this).2⟩
  · exact ⟨h1, good_of_word (List.mem_filter.mp h1).2⟩
end XC
end
section
/-! ===== one step, a call, the whole ===== -/
section XT
variable {p : Program} {l : Launch} {e : Env} {R : Room} {s : State} {m : MethodId} {args : Array Value} {below : List Frame} {meth : Method} {c : Code} {H : Heap} {locs : List Loc} {cells slots : Nat} {Q : State → Prop}
variable {D : va_G} {cid : Nat → Nat} {sc : Nat × Nat × (Nat → Int32)} {A : Nat → Prop} {y i i1 : Nat} {ls ls1 : xm_L} {st st1 : List Value} {lc : Array Slot} {h h1 : xm_S}
theorem xs_c0 {a b : Nat} {g : JFrame} (w : W p l e R s m args below meth c H locs (cells + (a - a)) (slots + (b - b)) Q g) : W p l e R s m args below meth c H locs cells slots Q g := by
  simpa using w
theorem xs_c1 {a b n : Nat} {g : JFrame} (w : W p l e R s m args below meth c H locs (cells + (a + 1 - a)) (slots + (b + n - b)) Q g) : W p l e R s m args below meth c H locs (cells + 1) (slots + n) Q g := by
  simpa using w
theorem xm_vin {j : Int32} {n : Nat} (h : ¬ (j < 0 ∨ n ≤ j.toNatClampNeg)) : vp_in j n := h
set_option maxHeartbeats 8000000 in
theorem xs_step (C : xm_Ctx p s m args meth c y) (hy : y < xm_names.length) (G : xm_G D cid sc A s h H locs) (hl : xm_LR ls (xm_maxL y) lc) (hf : 1 ≤ R.frames) (hlo : 30 ≤ R.locals) (hact : xm_act sc y i ls st h = some (.inl (i1, ls1, st1, h1))) (hc : cells + (h1.2.1 - h.2.1) ≤ R.cells) (hs : slots + (h1.2.2 - h.2.2) ≤ R.slots)
    (kk : ∀ (H' : Heap) (locs' : List Loc) (lc' : Array Slot), xm_G D cid sc A s h1 H' locs' → xm_LR ls1 (xm_maxL y) lc' → W p l e R s m args below meth c H' locs' (cells + (h1.2.1 - h.2.1)) (slots + (h1.2.2 - h.2.2)) Q (F0 m (xm_bp y i1) lc' st1)) : W p l e R s m args below meth c H locs cells slots Q (F0 m (xm_bp y i) lc st) := by
  unfold xm_act at hact
  split at hact
  · split at hact
    · split at hact <;> cases hact
    · cases hact
  · rename_i ins hne hcode
    have hk : xm_k y i ins = true := by
      have h9 := xm_ok y i
      unfold xm_ki at h9
      rw [hcode] at h9
      exact h9
    unfold xm_do at hact
    split at hact
    · cases hact
      exact xs_iconst C hy hk (xs_c0 (kk H locs lc G hl))
    · cases hact
      exact xs_null C hk (xs_c0 (kk H locs lc G hl))
    · split at hact
      · rename_i x hv
        cases hact
        exact xs_iload C hk hl hv (xs_c0 (kk H locs lc G hl))
      · cases hact
    · split at hact
      · rename_i x hv
        cases hact
        exact xs_aload C hk hl hv (xs_c0 (kk H locs lc G hl))
      · rename_i hv
        cases hact
        exact xs_aloadN C hk hl hv (xs_c0 (kk H locs lc G hl))
      · cases hact
    · split at hact
      · split at hact
        · rename_i hv
          cases hact
          exact xs_istore C hk hl hv (fun lc' hl' => xs_c0 (kk H locs lc' G hl'))
        · cases hact
      · cases hact
    · split at hact
      · split at hact
        · rename_i hv
          cases hact
          exact xs_astore C hk hl hv (fun lc' hl' => xs_c0 (kk H locs lc' G hl'))
        · cases hact
      · split at hact
        · rename_i hv
          cases hact
          exact xs_astoreN C hk hl hv (fun lc' hl' => xs_c0 (kk H locs lc' G hl'))
        · cases hact
      · cases hact
    · split at hact
      · rename_i x hv
        cases hact
        exact xs_iinc C hk hl hv (fun lc' hl' => xs_c0 (kk H locs lc' G hl'))
      · cases hact
    · split at hact
      · cases hact
        exact xs_dup C rfl hk (xs_c0 (kk H locs lc G hl))
      · cases hact
        exact xs_dup C rfl hk (xs_c0 (kk H locs lc G hl))
      · cases hact
    · split at hact
      · cases hact
        exact xs_pop C rfl hk (xs_c0 (kk H locs lc G hl))
      · cases hact
        exact xs_pop C rfl hk (xs_c0 (kk H locs lc G hl))
      · cases hact
    · unfold xm_b2 at hact
      split at hact
      · cases hact
        exact xs_iadd C hk (xs_c0 (kk H locs lc G hl))
      · cases hact
    · unfold xm_b2 at hact
      split at hact
      · cases hact
        exact xs_isub C hk (xs_c0 (kk H locs lc G hl))
      · cases hact
    · unfold xm_b2 at hact
      split at hact
      · cases hact
        exact xs_imul C hk (xs_c0 (kk H locs lc G hl))
      · cases hact
    · unfold xm_b2 at hact
      split at hact
      · cases hact
        exact xs_iand C hk (xs_c0 (kk H locs lc G hl))
      · cases hact
    · unfold xm_b2 at hact
      split at hact
      · cases hact
        exact xs_ior C hk (xs_c0 (kk H locs lc G hl))
      · cases hact
    · unfold xm_b2 at hact
      split at hact
      · cases hact
        exact xs_ixor C hk (xs_c0 (kk H locs lc G hl))
      · cases hact
    · unfold xm_b2 at hact
      split at hact
      · cases hact
        exact xs_ishl C hk (xs_c0 (kk H locs lc G hl))
      · cases hact
    · unfold xm_b2 at hact
      split at hact
      · cases hact
        exact xs_ishr C hk (xs_c0 (kk H locs lc G hl))
      · cases hact
    · unfold xm_b2 at hact
      split at hact
      · cases hact
        exact xs_iushr C hk (xs_c0 (kk H locs lc G hl))
      · cases hact
    · split at hact
      · cases hact
        exact xs_ineg C hk (xs_c0 (kk H locs lc G hl))
      · cases hact
    · split at hact
      · split at hact
        · cases hact
        · rename_i hz
          cases hact
          exact xs_idiv C hk hz (xs_c0 (kk H locs lc G hl))
      · cases hact
    · split at hact
      · split at hact
        · cases hact
        · rename_i hz
          cases hact
          exact xs_irem C hk hz (xs_c0 (kk H locs lc G hl))
      · cases hact
    · split at hact
      · cases hact
        exact xs_if C hk (xs_c0 (kk H locs lc G hl))
      · cases hact
    · split at hact
      · cases hact
        exact xs_ic C hk (xs_c0 (kk H locs lc G hl))
      · cases hact
    · split at hact
      · cases hact
        exact xs_ifnullN C hk (xs_c0 (kk H locs lc G hl))
      · cases hact
        exact xs_ifnull C hk (xs_c0 (kk H locs lc G hl))
      · cases hact
    · split at hact
      · cases hact
        exact xs_ifnonnullN C hk (xs_c0 (kk H locs lc G hl))
      · cases hact
        exact xs_ifnonnull C hk (xs_c0 (kk H locs lc G hl))
      · cases hact
    · cases hact
      exact xs_goto C hk (xs_c0 (kk H locs lc G hl))
    · split at hact
      · split at hact
        · rename_i hz
          cases hact
          exact xs_switchOut C hk hz (xs_c0 (kk H locs lc G hl))
        · rename_i hz
          split at hact
          · rename_i t ht
            cases hact
            exact xs_switchIn C hk hz ht (xs_c0 (kk H locs lc G hl))
          · cases hact
      · cases hact
    · split at hact
      · split at hact
        · rename_i ha
          split at hact
          · rename_i hci
            subst hci
            split at hact
            · rename_i v hv
              cases hact
              exact xs_get C G hy hk ha hv (xs_c0 (kk H locs lc G hl))
            · cases hact
          · cases hact
        · cases hact
      · cases hact
    · split at hact
      · split at hact
        · rename_i ha
          split at hact
          · rename_i hci
            obtain ⟨hci, hz1, hz2, hz3⟩ := hci
            subst hci
            cases hact
            exact xs_put C G hy hk ha hz1 hz2 hz3 (fun H' locs' G' => xs_c0 (kk H' locs' lc G' hl))
          · cases hact
        · cases hact
      · cases hact
    · split at hact
      · split at hact
        · rename_i ha
          split at hact
          · rename_i ht
            cases hact
            exact xs_alen C G hk ha ht (xs_c0 (kk H locs lc G hl))
          · cases hact
        · cases hact
        · split at hact
          · rename_i hb
            subst hb
            cases hact
            exact xs_alenS C G hk (xs_c0 (kk H locs lc G hl))
          · cases hact
      · cases hact
    · split at hact
      · split at hact
        · rename_i ha
          split at hact
          · cases hact
          · rename_i hj
            cases hact
            exact xs_iald C G hk ha (xm_vin hj) (xs_c0 (kk H locs lc G hl))
        · cases hact
        · split at hact
          · rename_i hb
            subst hb
            split at hact
            · cases hact
            · rename_i hj
              cases hact
              exact xs_ialdS C G hk (xm_vin hj) (xs_c0 (kk H locs lc G hl))
          · cases hact
      · cases hact
    · split at hact
      · split at hact
        · rename_i ha
          split at hact
          · cases hact
          · rename_i hj
            cases hact
            exact xs_bald C G hk ha (xm_vin hj) (xs_c0 (kk H locs lc G hl))
        · cases hact
      · cases hact
    · split at hact
      · split at hact
        · rename_i ha
          split at hact
          · cases hact
          · rename_i hj
            simp only [not_or] at hj
            cases hact
            exact xs_aald C G hk ha (by omega) (by omega) (fun q => q.elim hj.1 hj.2.1) (xs_c0 (kk H locs lc G hl))
        · cases hact
      · cases hact
    · split at hact
      · split at hact
        · rename_i ha
          split at hact
          · cases hact
          · rename_i hj
            cases hact
            exact xs_iast C G hk ha (xm_vin hj) (fun H' locs' G' => xs_c0 (kk H' locs' lc G' hl))
        · cases hact
      · cases hact
    · split at hact
      · split at hact
        · rename_i ha
          split at hact
          · cases hact
          · rename_i hj
            cases hact
            exact xs_bast C G hk ha (xm_vin hj) (fun H' locs' G' => xs_c0 (kk H' locs' lc G' hl))
        · cases hact
      · cases hact
    · split at hact
      · split at hact
        · rename_i ha
          split at hact
          · rename_i hv
            split at hact
            · cases hact
            · rename_i hj
              simp only [not_or, Decidable.not_not] at hj
              cases hact
              exact xs_aast C G hk ha hv (by omega) (by omega) hj.2.2.2.2 (fun q => q.elim hj.1 hj.2.1) (fun H' locs' G' => xs_c0 (kk H' locs' lc G' hl))
          · cases hact
        · cases hact
      · cases hact
    · split at hact
      · split at hact
        · cases hact
        · rename_i hj
          simp only [not_or] at hj
          cases hact
          have e1 : ∀ x z : Nat, x + (z + 1 - z) = x + 1 := fun x z => by omega
          have e2 : ∀ x z w : Nat, x + (z + w - z) = x + w := fun x z w => by omega
          exact xs_newI C G hk hj.1 (by omega) (by have := hc; simp only [xm_push, e1] at this; exact this) (by have := hs; simp only [xm_push, e2] at this; exact this) (fun H' G' => xs_c1 (kk H' locs lc G' hl))
      · cases hact
    · split at hact
      · split at hact
        · cases hact
        · rename_i hj
          simp only [not_or] at hj
          cases hact
          have e1 : ∀ x z : Nat, x + (z + 1 - z) = x + 1 := fun x z => by omega
          have e2 : ∀ x z w : Nat, x + (z + w - z) = x + w := fun x z w => by omega
          exact xs_newZ C G hk hj.1 (by omega) (by have := hc; simp only [xm_push, e1] at this; exact this) (by have := hs; simp only [xm_push, e2] at this; exact this) (fun H' G' => xs_c1 (kk H' locs lc G' hl))
      · cases hact
    · split at hact
      · split at hact
        · cases hact
        · rename_i hj
          simp only [not_or] at hj
          cases hact
          have e1 : ∀ x z : Nat, x + (z + 1 - z) = x + 1 := fun x z => by omega
          have e2 : ∀ x z w : Nat, x + (z + w - z) = x + w := fun x z w => by omega
          exact xs_newA C G hy hk hj.1 (by omega) (by have := hc; simp only [xm_push, e1] at this; exact this) (by have := hs; simp only [xm_push, e2] at this; exact this) (fun H' G' => xs_c1 (kk H' locs lc G' hl))
      · cases hact
    · cases hact
      have e1 : ∀ x z : Nat, x + (z + 1 - z) = x + 1 := fun x z => by omega
      have e2 : ∀ x z w : Nat, x + (z + w - z) = x + w := fun x z w => by omega
      exact xs_new C G hy hk (by have := hc; simp only [xm_push, e1] at this; exact this) (by have := hs; simp only [xm_push, e2] at this; exact this) (fun H' G' => xs_c1 (kk H' locs lc G' hl))
    · split at hact
      · rename_i h1000
        subst h1000
        split at hact
        · split at hact
          · rename_i hz
            cases hact
            exact xs_obj C hy hl hk hz.1 hz.2 hf hlo (xs_c0 (kk H locs lc G hl))
          · cases hact
        · cases hact
      · unfold xm_call at hact
        (repeat' split at hact) <;> cases hact
    · unfold xm_call at hact
      (repeat' split at hact) <;> cases hact
    · split at hact
      · rename_i h2001
        subst h2001
        split at hact
        · split at hact
          · rename_i hz
            cases hact
            exact xs_max C hy hl hk hz.1 hz.2 hf hlo (by omega) (by omega) (xs_c0 (kk H locs lc G hl))
          · cases hact
        · cases hact
      · split at hact
        · rename_i h2002
          subst h2002
          split at hact
          · split at hact
            · rename_i hz
              cases hact
              exact xs_min C hy hl hk hz.1 hz.2 hf hlo (by omega) (by omega) (xs_c0 (kk H locs lc G hl))
            · cases hact
          · cases hact
        · split at hact
          · rename_i h2003
            subst h2003
            split at hact
            · split at hact
              · rename_i ha0 ha
                split at hact
                · cases hact
                · rename_i hj
                  simp only [not_or, Decidable.not_not] at hj
                  obtain ⟨j1, j2, j3, j4, j5, j6, j7⟩ := hj
                  cases hact
                  exact xs_copy C G hy hl hk ha0 ha j1 j2 j3 (by omega) (by omega) (by omega) j7 hf hlo (fun H' locs' G' => xs_c0 (kk H' locs' lc G' hl))
              · cases hact
            · cases hact
          · unfold xm_call at hact
            (repeat' split at hact) <;> cases hact
    · (repeat' split at hact) <;> cases hact
    · (repeat' split at hact) <;> cases hact
    · cases hact
  · cases hact
end XT
end
section
/-! ===== calls, and the whole ===== -/
theorem xm_bp0_ok : (List.range xm_names.length).all (fun y => decide (xm_bp y 0 = 0)) = true := by decide +kernel
theorem xm_bp0 {y : Nat} (hy : y < xm_names.length) : xm_bp y 0 = 0 := of_decide_eq_true (List.all_eq_true.mp xm_bp0_ok y (List.mem_range.mpr hy))
def xm_rk (y i : Nat) (r : Option Value) : Prop := match r with
  | none => decode (xm_bytes y) (xm_bp y i) = .ok (.return_, 1) ∧ xm_ret y = none
  | some (.int v) => decode (xm_bytes y) (xm_bp y i) = .ok (.ireturn, 1) ∧ (xm_ret y = some .int ∨ (xm_ret y = some .boolean ∧ narrow .boolean (.int v) = .int v))
  | some (.ref _) => decode (xm_bytes y) (xm_bp y i) = .ok (.areturn, 1) ∧ ∃ C, xm_ret y = some (.object C)
  | some .null => decode (xm_bytes y) (xm_bp y i) = .ok (.areturn, 1) ∧ ∃ C, xm_ret y = some (.object C)
  | _ => False
def xm_SoundAt (l : Launch) (D : va_G) (cid : Nat → Nat) (sc : Nat × Nat × (Nat → Int32)) (n : Nat) : Prop := ∀ (d y i : Nat) (ls : xm_L) (st : List Value) (h : xm_S) (r : Option Value) (h' : xm_S), xm_ev sc n d y i ls st h = some (r, h') →
  ∀ (p : Program) (e : Env) (R : Room) (s : State) (m : MethodId) (args : Array Value) (below : List Frame) (meth : Method) (c : Code) (H : Heap) (locs : List Loc) (A : Nat → Prop) (lc : Array Slot) (Q : State → Prop) (cells slots : Nat),
  xm_Ctx p s m args meth c y → y < xm_names.length → d + 1 ≤ R.frames → 30 * (d + 1) ≤ R.locals → xm_G D cid sc A s h H locs → xm_LR ls (xm_maxL y) lc → cells + (h'.2.1 - h.2.1) ≤ R.cells → slots + (h'.2.2 - h.2.2) ≤ R.slots →
  (∀ (i2 : Nat) (lc2 : Array Slot) (H2 : Heap) (locs2 : List Loc), xm_G D cid sc A s h' H2 locs2 → xm_rk y i2 r → W p l e R s m args below meth c H2 locs2 (cells + (h'.2.1 - h.2.1)) (slots + (h'.2.2 - h.2.2)) Q (F0 m (xm_bp y i2) lc2 r.toList)) →
  W p l e R s m args below meth c H locs cells slots Q (F0 m (xm_bp y i) lc st)
theorem xm_lg {as : List Value} (h : ∀ v ∈ as, v.category = 1) : lg_sl as = as.map Slot.val := by
  induction as with
  | nil => rfl
  | cons a as ih =>
    have h1 : a.category = 1 := h a List.mem_cons_self
    have h2 := ih (fun v hv => h v (List.mem_cons_of_mem _ hv))
    unfold lg_sl at h2 ⊢
    rw [List.flatMap_cons, h2, if_neg (by omega)]
    rfl
theorem xm_entry_LR {y : Nat} {as : List Value} (h : ∀ v ∈ as, v.category = 1) (hn : as.length ≤ xm_maxL y) : xm_LR (xm_entry y as) (xm_maxL y) ((lg_sl as ++ List.replicate (xm_maxL y - (lg_sl as).length) Slot.unset).toArray) := by
  have hlen : (lg_sl as).length = as.length := by rw [xm_lg h, List.length_map]
  have h1 := lv_entry as (n := xm_maxL y) (by rw [hlen]; exact hn)
  refine ⟨by unfold xm_entry; simp; omega, h1.1, h1.2.1, fun i v hv => ?_⟩
  unfold xm_entry at hv
  by_cases hi : i < as.length
  · rw [List.getElem?_append_left (by simpa using hi), List.getElem?_map] at hv
    cases ha : as[i]? with
    | none => rw [ha] at hv; cases hv
    | some w =>
      rw [ha] at hv
      cases hv
      refine ⟨?_, h _ (List.mem_of_getElem? ha)⟩
      rw [xm_lg h]
      simp [List.getElem?_append_left, hi]
      exact (List.getElem?_eq_some_iff.mp ha).2
  · rw [List.getElem?_append_right (by simpa using hi)] at hv
    have := List.mem_of_getElem? hv
    simp at this
section XU
variable {l : Launch} {D : va_G} {cid : Nat → Nat} {sc : Nat × Nat × (Nat → Int32)}
theorem xm_met_of {n d y : Nat} {as : List Value} {h h' : xm_S} {r : Option Value} (IH : xm_SoundAt l D cid sc n) (hy : y < xm_names.length) (hyl : y ≠ xm_law) (hev : xm_ev sc n d y 0 (xm_entry y as) [] h = some (r, h')) (hcat : ∀ v ∈ as, v.category = 1) (hlen : as.length = xm_ar y) :
    Met l (xm_name y) (xm_ws y) (xm_room d (h'.2.1 - h.2.1) (h'.2.2 - h.2.2)) (xm_Pc D cid sc h as) (xm_Qc D cid h r h') (h'.2.1 - h.2.1) (h'.2.2 - h.2.2) (xm_A h) := by
  obtain ⟨hcf, -⟩ := xm_call_spec hy hyl
  unfold xm_cf at hcf
  simp only [Bool.and_eq_true, decide_eq_true_eq] at hcf
  obtain ⟨-, -, -, -, -, har, hplain⟩ := hcf
  refine Met.ofW (cc := xm_bytes y) (maxL := xm_maxL y) (ret := xm_ret y) hplain rfl ?_
  intro p e s m args below meth c s₁ B hml hv
  obtain ⟨rfl, hK, hP, hz, hX, hbl, hb0, hN⟩ := hv
  have hts := atoms_spec (ws := xm_ws y) B.pre
  have hown : s.vm.findClass (xm_own y) = some m.cls := findClass_of_methodNamed B.named
  have hnm : meth.name = (xm_name y).name := (name_of_methodNamed B.named B.method).1
  have C : xm_Ctx p s m as.toArray meth c y := ⟨B.exec, B.bytes, hml, hown, fun w hw => hts w (List.mem_cons_of_mem _ hw), hN, B.returns, B.notSynchronized, fun q => hnm.trans q⟩
  have hsA : ¬ xm_A h sc.1 := by
    rintro (q | q)
    · exact q hb0
    · omega
  have G : xm_G D cid sc (xm_A h) s h s.heap [] := ⟨hK, hP, hz, fun a o ho => Or.inl (by rw [ho]; simp), fun q hq => Or.inr (by rw [← hz]; exact hq), va_S.rf, hX, hbl, hsA⟩
  rw [lg_entry_eq]
  have hl := xm_entry_LR (y := y) hcat (by omega)
  have key := IH d y 0 _ [] h r h' hev p e (headSpec (xm_ws y) (xm_room d (h'.2.1 - h.2.1) (h'.2.2 - h.2.2))).room s m as.toArray below meth c s.heap [] (xm_A h) _ (MQ below (xm_Qc D cid h r h') as.toArray s (h'.2.1 - h.2.1) (h'.2.2 - h.2.2) (xm_A h)) 0 0 C hy (Nat.le_refl _) (Nat.le_refl _) G hl (by rw [Nat.zero_add]; exact Nat.le_refl _) (by rw [Nat.zero_add]; exact Nat.le_refl _)
  rw [xm_bp0 hy] at key
  refine key ?_
  intro i2 lc2 H2 locs2 G2 hrk
  rw [Nat.zero_add, Nat.zero_add]
  have hq : ∀ t : State, t.heap = H2 → s.WarmedH t.vm → xm_Qc D cid h r h' as.toArray s (.returned r) t := fun t ht hW => ⟨rfl, by rw [ht]; exact G2.2.1, by rw [ht]; exact G2.2.2.1, G2.2.2.2.2.2.1.F ht⟩
  have hf : ∀ q ∈ locs2, xm_A h q.base := G2.2.2.2.2.2.1.2.2
  have hx := B.exec
  have hb := B.bytes
  have hr := B.returns
  have hlocks := B.notSynchronized
  match r, hrk, hq with
  | none, hrk, hq => exact W.vret hx hb (hr.trans hrk.2) hq hf hrk.1
  | some (.int v), hrk, hq =>
    rcases hrk.2 with h1 | ⟨h1, h2⟩
    · exact W.iret hx hb (hr.trans h1) hq hf hrk.1
    · exact W.zret hx hb (hr.trans h1) h2 hq hf hrk.1
  | some (.ref a), hrk, hq =>
    obtain ⟨h1, Cn, h2⟩ := hrk
    exact W.aret hx hb (hr.trans h2) (Or.inl ⟨Cn, rfl⟩) (Or.inr ⟨a, rfl⟩) hq hf h1
  | some .null, hrk, hq =>
    obtain ⟨h1, Cn, h2⟩ := hrk
    exact W.aret hx hb (hr.trans h2) (Or.inl ⟨Cn, rfl⟩) (Or.inl rfl) hq hf h1
theorem xm_rev {st : List Value} {n : Nat} (hn : n ≤ st.length) : st = ((st.take n).reverse).reverse ++ st.drop n := by
  rw [List.reverse_reverse, List.take_append_drop]
set_option maxHeartbeats 4000000 in
theorem xm_sound (l : Launch) (D : va_G) (cid : Nat → Nat) (sc : Nat × Nat × (Nat → Int32)) : ∀ n : Nat, xm_SoundAt l D cid sc n := by
  intro n
  induction n with
  | zero =>
    intro d y i ls st h r h' hev
    cases hev
  | succ n ih =>
    intro d y i ls st h r h' hev p e R s m args below meth c H locs A lc Q cells slots C hy hdf hdl G hl hc hs kret
    unfold xm_ev at hev
    split at hev
    · cases hev
    · rename_i i1 ls1 st1 h1 hact
      have hle1 := xm_act_le hact
      have hle2 := xm_ev_le _ _ _ _ _ _ _ _ _ hev
      have a1 := hle1.1
      have a2 := hle1.2.1
      have a3 := hle2.1
      have a4 := hle2.2.1
      refine xs_step C hy G hl (by omega) (by omega) hact (by omega) (by omega) ?_
      intro H' locs' lc' G' hl'
      refine ih d y i1 ls1 st1 h1 r h' hev p e R s m args below meth c H' locs' A lc' Q _ _ C hy hdf hdl G' hl' (by omega) (by omega) ?_
      intro i2 lc2 H2 locs2 G2 hrk
      have w := kret i2 lc2 H2 locs2 G2 hrk
      rw [show cells + (h1.2.1 - h.2.1) + (h'.2.1 - h1.2.1) = cells + (h'.2.1 - h.2.1) by omega, show slots + (h1.2.2 - h.2.2) + (h'.2.2 - h1.2.2) = slots + (h'.2.2 - h.2.2) by omega]
      exact w
    · rename_i y1 as1 rest1 hact
      cases d with
      | zero => cases hev
      | succ d0 =>
        dsimp only at hev
        split at hev
        · cases hev
        · rename_i r1 h1 hev1
          have hle1 := xm_ev_le _ _ _ _ _ _ _ _ _ hev1
          have hle2 := xm_ev_le _ _ _ _ _ _ _ _ _ hev
          have a1 := hle1.1
          have a2 := hle1.2.1
          have a3 := hle2.1
          have a4 := hle2.2.1
          have cont : ∀ (H' : Heap) (locs' : List Loc), xm_G D cid sc A s h1 H' locs' → W p l e R s m args below meth c H' locs' (cells + (h1.2.1 - h.2.1)) (slots + (h1.2.2 - h.2.2)) Q (F0 m (xm_bp y (i + 1)) lc (r1.toList ++ rest1)) := by
            intro H' locs' G'
            refine ih (d0 + 1) y (i + 1) ls _ h1 r h' hev p e R s m args below meth c H' locs' A lc Q _ _ C hy hdf hdl G' hl (by omega) (by omega) ?_
            intro i2 lc2 H2 locs2 G2 hrk
            have w := kret i2 lc2 H2 locs2 G2 hrk
            rw [show cells + (h1.2.1 - h.2.1) + (h'.2.1 - h1.2.1) = cells + (h'.2.1 - h.2.1) by omega, show slots + (h1.2.2 - h.2.2) + (h'.2.2 - h1.2.2) = slots + (h'.2.2 - h.2.2) by omega]
            exact w
          -- which instruction it is
          unfold xm_act at hact
          split at hact
          · split at hact
            · split at hact <;> cases hact
            · cases hact
          · rename_i ins hne hcode
            have hk : xm_k y i ins = true := by
              have h9 := xm_ok y i
              unfold xm_ki at h9
              rw [hcode] at h9
              exact h9
            obtain ⟨hx, hb, hml, hown, hts, hN, hrt, hlk, hnmm⟩ := id C
            have common : ∀ y0 : Nat, y0 < xm_names.length → y0 ≠ xm_law → xm_call y0 (xm_ar y0) st h = some (.inr (.inl (y1, as1, rest1))) → y1 = y0 ∧ as1 = (st.take (xm_ar y0)).reverse ∧ rest1 = st.drop (xm_ar y0) ∧ xm_ar y0 ≤ st.length ∧ rest1.length ≤ 8 ∧ (∀ v ∈ st, v.category = 1) ∧ (∀ ci, xm_rv y0 = some ci → ∃ (a : Nat) (tl : List Value) (fs : List Value), as1 = .ref a :: tl ∧ h.1 a = some (.inr (ci, fs))) := by
              intro y0 hy0 hyl hca
              unfold xm_call at hca
              split at hca
              · rename_i hz
                split at hca
                · rename_i hrv
                  cases hca
                  exact ⟨rfl, rfl, rfl, hz.1, hz.2.1, hz.2.2, fun ci hci => by rw [hrv] at hci; cases hci⟩
                · rename_i ci hrv
                  split at hca
                  · rename_i a tl hst
                    split at hca
                    · rename_i cj fs ha
                      split at hca
                      · rename_i hcc
                        subst hcc
                        cases hca
                        refine ⟨rfl, rfl, rfl, hz.1, hz.2.1, hz.2.2, fun ci hci => ?_⟩
                        rw [hrv] at hci
                        cases hci
                        exact ⟨a, tl, fs, hst, ha⟩
                      · cases hca
                    · cases hca
                  · cases hca
              · cases hca
            have rest8 : ∀ (y0 : Nat), rest1 = st.drop (xm_ar y0) → rest1.length ≤ 8 → (∀ v ∈ st, v.category = 1) → (rest1.map fun v => v.category).sum ≤ 8 := by
              intro y0 h1 h2 h3
              rw [xm_sum_cat (fun v hv => h3 v (by rw [h1] at hv; exact List.mem_of_mem_drop hv))]
              exact h2
            have hroom : ∀ y0 : Nat, xm_cf y0 = true → (xm_room d0 (h1.2.1 - h.2.1) (h1.2.2 - h.2.2)).frames + 1 ≤ R.frames ∧ 8 + (xm_maxL y0 + 11) + (xm_room d0 (h1.2.1 - h.2.1) (h1.2.2 - h.2.2)).locals ≤ R.locals := by
              intro y0 hcf
              unfold xm_cf at hcf
              simp only [Bool.and_eq_true, decide_eq_true_eq] at hcf
              have := hcf.2.2.2.2.1
              show d0 + 1 + 1 ≤ _ ∧ 8 + (xm_maxL y0 + 11) + 30 * (d0 + 1) ≤ _
              omega
            have hcellsf : cells + (h1.2.1 - h.2.1) ≤ R.cells ∧ slots + (h1.2.2 - h.2.2) ≤ R.slots := by omega
            have hmn : ∀ y0 : Nat, y0 < xm_names.length → xm_mnm y0 = xm_name y0 := by
              intro y0 hy0
              have hL : xm_names.length = 102 := rfl
              unfold xm_mnm
              rw [if_neg (by omega), if_neg (by omega), if_neg (by omega), if_neg (by omega)]
            unfold xm_do at hact
            split at hact <;> try (first | (cases hact; done) | ((repeat' split at hact) <;> (cases hact; done)) | (unfold xm_b2 at hact; (repeat' split at hact) <;> (cases hact; done)))
            · -- a constructor
              rename_i y0
              split at hact
              · (repeat' split at hact) <;> cases hact
              · rename_i hn1000
                unfold xm_k at hk
                dsimp only at hk
                split at hk
                · rename_i ix hd
                  simp only [Bool.and_eq_true, Bool.or_eq_true, decide_eq_true_eq] at hk
                  obtain ⟨hnx, hml2, hI⟩ := hk
                  have hI := hI.resolve_left hn1000
                  unfold xm_isI at hI
                  simp only [Bool.and_eq_true, decide_eq_true_eq] at hI
                  obtain ⟨hy0, hyl, hrv, hin⟩ := hI
                  obtain ⟨e1, e2, e3, h4, h5, h6, h7⟩ := common y0 hy0 hyl hact
                  subst e1
                  obtain ⟨ci, hci⟩ := Option.isSome_iff_exists.mp hrv
                  obtain ⟨b, tl, fs, has, hb1⟩ := h7 ci hci
                  obtain ⟨hcf, hck⟩ := xm_call_spec hy0 hyl
                  have hlen1 : as1.length = xm_ar y1 := by rw [e2, List.length_reverse, List.length_take]; omega
                  have hMt := xm_met_of ih hy0 hyl hev1 (fun v hv => h6 v (by rw [e2] at hv; exact List.mem_of_mem_take (List.mem_reverse.mp hv))) hlen1
                  unfold xm_ck at hck
                  rw [hci] at hck
                  dsimp only at hck
                  rw [if_pos hin] at hck
                  simp only [Bool.and_eq_true, decide_eq_true_eq] at hck
                  obtain ⟨c1, c2, c3, c4⟩ := hck
                  have hnp : (parseMethodDescriptor (xm_name y1).desc).map (fun d => d.parameters.length) = some (xm_ar y1 - 1) := of_decide_eq_true c3
                  have hcf2 := hcf
                  unfold xm_cf at hcf2
                  simp only [Bool.and_eq_true, decide_eq_true_eq] at hcf2
                  have hini := hts _ (xm_atG_spec hcf2.2.1)
                  have hinst := hts _ (xm_atG_spec c1)
                  have hlink := xm_ml_spec (args := args) hy hml2 hts hN
                  rw [hmn y1 hy0] at hlink
                  have hstk := xm_rev h4
                  rw [← e2, ← e3, has] at hstk
                  have hstk2 : st = tl.reverse ++ .ref b :: rest1 := by rw [hstk]; simp
                  have htl : tl.length = xm_ar y1 - 1 := by rw [← hlen1, has]; simp
                  rw [has] at hMt
                  rw [xm_nx_eq hnx] at cont
                  have hpre : PreS s H (xm_Pc D cid sc h (.ref b :: tl)) (.ref b :: tl) := ⟨xm_Pc_blind, G.pre C (.ref b :: tl)⟩
                  have hwsn : xm_ws y1 = Cond.code (xm_name y1) (xm_bytes y1) (xm_maxL y1) none :: xm_goods := by unfold xm_ws; rw [c4]
                  rcases hlink with hlink | ⟨hlink, -⟩
                  · exact xs_after G hle1 (va_runI (As := tl) (rest := rest1) (g := F0 m (xm_bp y i) lc st) ⟨hx, hb, hml, hown, hts⟩ hMt ⟨callB_of (xm_ar y1 - 1) hts (xm_goods_in hcf) hwsn rfl rfl hini hlink ⟨hcf2.2.2.1, hcf2.2.2.2.1, hnp⟩ (hroom y1 hcf), hin, hinst⟩ hpre rfl htl hl.2.1 hstk2 (by show 2 * 0 + _ ≤ 8; have := rest8 y1 e3 h5 h6; omega) hd hcellsf) cont
                  · exact xs_after G hle1 (va_runIN (As := tl) (rest := rest1) (g := F0 m (xm_bp y i) lc st) ⟨hx, hb, hml, hown, hts⟩ hMt ⟨va_cnB (xm_ar y1 - 1) hts (xm_goods_in hcf) hwsn rfl rfl (va_Nw.of rfl hlink) hini ⟨hcf2.2.2.1, hcf2.2.2.2.1, hnp⟩ (hroom y1 hcf), hin, hinst⟩ hpre rfl htl hl.2.1 hstk2 (by show 2 * 0 + _ ≤ 8; have := rest8 y1 e3 h5 h6; omega) hd hcellsf) cont
                · cases hk
            · -- a method of an object
              rename_i y0
              unfold xm_k at hk
              dsimp only at hk
              split at hk
              · rename_i ix hd
                simp only [Bool.and_eq_true] at hk
                obtain ⟨hnx, hml2, hI⟩ := hk
                unfold xm_isV at hI
                simp only [Bool.and_eq_true, decide_eq_true_eq] at hI
                obtain ⟨hy0, hyl, hrv, hin⟩ := hI
                obtain ⟨e1, e2, e3, h4, h5, h6, h7⟩ := common y0 hy0 hyl hact
                subst e1
                obtain ⟨ci, hci⟩ := Option.isSome_iff_exists.mp hrv
                obtain ⟨b, tl, fs, has, hb1⟩ := h7 ci hci
                obtain ⟨hcf, hck⟩ := xm_call_spec hy0 hyl
                have hlen1 : as1.length = xm_ar y1 := by rw [e2, List.length_reverse, List.length_take]; omega
                have hMt := xm_met_of ih hy0 hyl hev1 (fun v hv => h6 v (by rw [e2] at hv; exact List.mem_of_mem_take (List.mem_reverse.mp hv))) hlen1
                unfold xm_ck at hck
                rw [hci] at hck
                dsimp only at hck
                rw [if_neg hin] at hck
                simp only [Bool.and_eq_true, decide_eq_true_eq] at hck
                obtain ⟨c1, c2, c3, c4, c5⟩ := hck
                have hnp : (parseMethodDescriptor (xm_name y1).desc).map (fun d => d.parameters.length) = some (xm_ar y1 - 1) := of_decide_eq_true c3
                have hcf2 := hcf
                unfold xm_cf at hcf2
                simp only [Bool.and_eq_true, decide_eq_true_eq] at hcf2
                have hini := hts _ (xm_atG_spec hcf2.2.1)
                have hinst := hts _ (xm_atG_spec c1)
                have hsel := hts _ (xm_atG_spec c4)
                have hlink := xm_ml_spec (args := args) hy hml2 hts hN
                rw [hmn y1 hy0] at hlink
                have hstk := xm_rev h4
                rw [← e2, ← e3, has] at hstk
                have hstk2 : st = tl.reverse ++ .ref b :: rest1 := by rw [hstk]; simp
                have htl : tl.length = xm_ar y1 - 1 := by rw [← hlen1, has]; simp
                rw [has] at hMt
                rw [xm_nx_eq hnx] at cont
                split at c5
                · rename_i q hq
                  have hqn : q.1 = (xm_name y1).cls := of_decide_eq_true c5
                  have hrecv := va_recv G.1 (G.at hb1) hq (q0 := 0) rfl
                  rw [hqn] at hrecv
                  have hpre : PreV s H (xm_name y1).cls b (xm_Pc D cid sc h (.ref b :: tl)) tl := ⟨xm_Pc_blind, hrecv, G.pre C (.ref b :: tl)⟩
                  rcases hlink with hlink | ⟨hlink, -⟩
                  · exact xs_after G hle1 (va_runV (As := tl) (rest := rest1) (g := F0 m (xm_bp y i) lc st) ⟨hx, hb, hml, hown, hts⟩ hMt ⟨callB_of (xm_ar y1 - 1) hts (xm_goods_in hcf) rfl rfl rfl hini hlink ⟨hcf2.2.2.1, hcf2.2.2.2.1, hnp⟩ (hroom y1 hcf), hinst, hsel⟩ hpre rfl htl hl.2.1 hstk2 (by show 2 * 0 + _ ≤ 8; have := rest8 y1 e3 h5 h6; omega) hd hcellsf) cont
                  · exact xs_after G hle1 (va_runVN (As := tl) (rest := rest1) (g := F0 m (xm_bp y i) lc st) ⟨hx, hb, hml, hown, hts⟩ hMt ⟨va_cnB (xm_ar y1 - 1) hts (xm_goods_in hcf) rfl rfl rfl (va_Nw.of rfl hlink) hini ⟨hcf2.2.2.1, hcf2.2.2.2.1, hnp⟩ (hroom y1 hcf), hinst, hsel⟩ hpre rfl htl hl.2.1 hstk2 (by show 2 * 0 + _ ≤ 8; have := rest8 y1 e3 h5 h6; omega) hd hcellsf) cont
                · cases c5
              · cases hk
            · -- a static method
              rename_i y0
              split at hact
              · (repeat' split at hact) <;> cases hact
              · rename_i hn1
                split at hact
                · (repeat' split at hact) <;> cases hact
                · rename_i hn2
                  split at hact
                  · (repeat' split at hact) <;> cases hact
                  · rename_i hn3
                    unfold xm_k at hk
                    dsimp only at hk
                    split at hk
                    · rename_i ix hd
                      simp only [Bool.and_eq_true, Bool.or_eq_true, decide_eq_true_eq] at hk
                      obtain ⟨hnx, hml2, hI⟩ := hk
                      have hI := ((hI.resolve_left hn1).resolve_left hn2).resolve_left hn3
                      unfold xm_isS at hI
                      simp only [Bool.and_eq_true, decide_eq_true_eq] at hI
                      obtain ⟨hy0, hyl, hrv⟩ := hI
                      obtain ⟨e1, e2, e3, h4, h5, h6, h7⟩ := common y0 hy0 hyl hact
                      subst e1
                      obtain ⟨hcf, hck⟩ := xm_call_spec hy0 hyl
                      have hlen1 : as1.length = xm_ar y1 := by rw [e2, List.length_reverse, List.length_take]; omega
                      have hMt := xm_met_of ih hy0 hyl hev1 (fun v hv => h6 v (by rw [e2] at hv; exact List.mem_of_mem_take (List.mem_reverse.mp hv))) hlen1
                      unfold xm_ck at hck
                      rw [hrv] at hck
                      dsimp only at hck
                      simp only [Bool.and_eq_true] at hck
                      obtain ⟨c1, c3⟩ := hck
                      have hnp : (parseMethodDescriptor (xm_name y1).desc).map (fun d => d.parameters.length) = some (xm_ar y1) := of_decide_eq_true c3
                      have hcf2 := hcf
                      unfold xm_cf at hcf2
                      simp only [Bool.and_eq_true, decide_eq_true_eq] at hcf2
                      have hini := hts _ (xm_atG_spec hcf2.2.1)
                      have hstat := hts _ (xm_atG_spec c1)
                      have hlink := xm_ml_spec (args := args) hy hml2 hts hN
                      rw [hmn y1 hy0] at hlink
                      have hstk := xm_rev h4
                      rw [← e2, ← e3] at hstk
                      rw [xm_nx_eq hnx] at cont
                      have hpre : PreS s H (xm_Pc D cid sc h as1) as1 := ⟨xm_Pc_blind, G.pre C as1⟩
                      rcases hlink with hlink | ⟨hlink, -⟩
                      · exact xs_after G hle1 (va_runS (As := as1) (rest := rest1) (g := F0 m (xm_bp y i) lc st) ⟨hx, hb, hml, hown, hts⟩ hMt ⟨callB_of (xm_ar y1) hts (xm_goods_in hcf) rfl rfl rfl hini hlink ⟨hcf2.2.2.1, hcf2.2.2.2.1, hnp⟩ (hroom y1 hcf), hstat⟩ hpre rfl hlen1 hl.2.1 hstk (by show 2 * 0 + _ ≤ 8; have := rest8 y1 e3 h5 h6; omega) hd hcellsf) cont
                      · exact xs_after G hle1 (va_runSN (As := as1) (rest := rest1) (g := F0 m (xm_bp y i) lc st) ⟨hx, hb, hml, hown, hts⟩ hMt ⟨va_cnB (xm_ar y1) hts (xm_goods_in hcf) rfl rfl rfl (va_Nw.of rfl hlink) hini ⟨hcf2.2.2.1, hcf2.2.2.2.1, hnp⟩ (hroom y1 hcf), hstat, trivial⟩ hpre rfl hlen1 hl.2.1 hstk (by show 2 * 0 + _ ≤ 8; have := rest8 y1 e3 h5 h6; omega) hd hcellsf) cont
                    · cases hk
          · cases hact
    · rename_i r1 hact
      cases hev
      unfold xm_act at hact
      split at hact
      · rename_i hcode
        split at hact
        · rename_i v
          split at hact
          · cases hact
          · rename_i hz
            cases hact
            have hk : xm_k y i .ireturn = true := by
              have h9 := xm_ok y i
              unfold xm_ki at h9
              rw [hcode] at h9
              exact h9
            unfold xm_k at hk
            dsimp only at hk
            split at hk
            · rename_i hd
              simp only [Bool.or_eq_true, decide_eq_true_eq] at hk
              have w := kret i lc H locs G (by
                refine ⟨hd, ?_⟩
                rcases hk with hk | hk
                · exact Or.inl hk
                · refine Or.inr ⟨hk, ?_⟩
                  exact Decidable.not_not.mp (fun q => hz ⟨hk, q⟩))
              exact xs_c0 w
            · cases hk
        · cases hact
      · rename_i ins hne hcode
        have hk : xm_k y i ins = true := by
          have h9 := xm_ok y i
          unfold xm_ki at h9
          rw [hcode] at h9
          exact h9
        unfold xm_do at hact
        split at hact <;> try (first | (cases hact; done) | ((repeat' split at hact) <;> (cases hact; done)) | (unfold xm_b2 at hact; (repeat' split at hact) <;> (cases hact; done)) | (unfold xm_call at hact; (repeat' split at hact) <;> (cases hact; done)))
        · unfold xm_k at hk
          dsimp only at hk
          split at hk
          · rename_i hd
            split at hk
            · rename_i Cn hrt
              split at hact
              · cases hact
                exact xs_c0 (kret i lc H locs G ⟨hd, Cn, hrt⟩)
              · cases hact
                exact xs_c0 (kret i lc H locs G ⟨hd, Cn, hrt⟩)
              · cases hact
            · cases hk
          · cases hk
        · unfold xm_k at hk
          dsimp only at hk
          split at hk
          · rename_i hd
            split at hact
            · cases hact
              exact xs_c0 (kret i lc H locs G ⟨hd, of_decide_eq_true hk⟩)
            · cases hact
          · cases hk
      · cases hact
end XU
end
section
/-! THE CLAIM OUT OF ONE WALK OF THE LAW'S BODY. Your part is whole_start (and what it stands on); all else here is the same for every law, but numbers. -/
def R_law : String := "BitSolverLaw"
def lw_P (b : Addr) (xs : List Int32) (args : Array Value) (s : State) : Prop := args = #[.ref b] ∧ s.IntsAt b xs ∧ xs.length ≤ 2048 ∧ (Jvm.Cond.and given_1 narrow_1).before args s = true
def lw_Q (_ : Array Value) (s : State) (o : Outcome) (t : State) : Prop := o = .returned (some (.int 1)) ∧ Framed s o t [] 600000 7302250
def lw_Z (below : List Frame) (a : Array Value) (s : State) : State → Prop := fun t => ∃ o, t.status = .running ∧ Ended t below o ∧ lw_Q a s o t
/-- the law's own end, with 1 on the stack, nothing written that was there before, its room as the claim has it -/
theorem lw_ret {p : Program} {l : Launch} {e : Env} {s : State} {m : MethodId} {below : List Frame} {meth : Method} {c : Code} {b : Nat} (hx : p.tables.exec = Jvm.exec) (hb : c.code = code) (hr : meth.sig.returnType = ret) (hlocks : meth.locks = false) {pc : Nat} {H : Heap} {ls : Array Slot} (hdg : decode code pc = .ok (.ireturn, 1)) : W p l e room_1 s m #[Value.ref b] below meth c H [] 600000 7302250 (lw_Z below #[Value.ref b] s) (F0 m pc ls [.int 1]) := by
  intro T hT X
  obtain ⟨fs, hret, hrun, hended, hW, hframe⟩ := X.leave (v := some (.int 1)) (hlocks := hlocks) (fun h => by rw [hr] at h; cases h)
  have hmeth' : T.vm.method? m = some meth := X.method'
  refine ⟨T.setFrames fs, ?_, .returned (some (.int 1)), hrun, hended, rfl, ⟨_, rfl⟩, hW, hframe⟩
  jvm_step X.here [X.here.top, hx, hb, hdg, hmeth', hr, ret, narrow_b1]
  (try refine ⟨rfl, ?_⟩); (try refine ⟨rfl, ?_⟩)
  first | (intro acts; rw [hret _ acts rfl rfl rfl]) | rw [hret _ _ rfl rfl rfl]
  exact Steps.refl _
/-- what holds at the law's entry: the machine, the code, the tables' words (any of lw_tbl by 'hts w (by decide +kernel)'), the script of L ints xs at the cell b, what the Statement gives of the start (any of its parts by flat_of_before) -/
def lw_At (p : Program) (s : State) (m : MethodId) (meth : Method) (c : Code) (b L : Nat) (xs : Nat → Int32) : Prop :=
  p.tables.exec = Jvm.exec ∧ c.code = code ∧ meth.sig.returnType = ret ∧ c.maxLocals = 4 ∧ s.vm.findClass R_law = some m.cls ∧ (∀ w ∈ lw_tbl, w.before #[Value.ref b] s = true) ∧ va_X b L xs s s.heap ∧ b < s.heap.size ∧ meth.locks = false ∧ (Jvm.Cond.and given_1 narrow_1).before #[Value.ref b] s = true
end
section
/-! ===== the law, out of a run of the abstract machine ===== -/
def xm_h0 (top : Nat) : xm_S := (fun _ => none, top, 0)
theorem xm_whole {p : Program} {e : Env} {s : State} {m : MethodId} {below : List Frame} {meth : Method} {c : Code} (l : Launch) {b L : Nat} {xs : Nat → Int32} (C0 : lw_At p s m meth c b L xs)
    (run : xm_wp (b, L, xs) 7 xm_law 0 (xm_entry xm_law [.ref b]) [] (xm_h0 s.heap.size) (fun r h' => r = some (.int 1) ∧ h'.2.1 ≤ s.heap.size + 600000 ∧ h'.2.2 ≤ 7302250)) :
    W p l e room_1 s m #[Value.ref b] below meth c s.heap [] 0 0 (lw_Z below #[Value.ref b] s) (entryFrame m ([Value.ref b] : List Value).toArray 4) := by
  obtain ⟨hx, hb, hr, hml, hown, hts, hX, hbl, hlocks, hgv⟩ := C0
  obtain ⟨n, r, h', hev, rfl, hcell, hslot⟩ := run
  have htsG : ∀ w ∈ xm_goods, w.before #[Value.ref b] s = true := fun w hw => hts w (List.mem_filter.mp hw).1
  have hK1 : ∀ ci : Nat, ∃ w : ClassId × (Nat → Nat), ∀ q, xc_cl[ci]? = some q → u_Kn s q.1 q.2.1 q.2.2 w.1 w.2 := by
    intro ci
    cases hq : xc_cl[ci]? with
    | none => exact ⟨(0, fun _ => 0), fun q h => by cases h⟩
    | some q =>
      obtain ⟨cC, iS, hKn⟩ := u_known htsG (xc_in hq) (htsG _ (xc_ini hq).1)
      exact ⟨(cC, iS), fun q' h => by cases h; exact hKn⟩
  have hA1 : ∀ t : Nat, ∃ cA : ClassId, ∀ ty, xc_arr[t]? = some ty → ArrOfT s cA ty ∧ va_RA s cA ty := by
    intro t
    by_cases ht : t < xc_arr.length
    · have h1 := List.all_eq_true.mp xt_a_all t (List.mem_range.mpr ht)
      simp only [Bool.or_eq_true, decide_eq_true_eq] at h1
      rcases h1 with h1 | h1
      · rcases (show t = 0 ∨ t = 1 by omega) with rfl | rfl
        · obtain ⟨cA, kA, comp, f1, f2, f3⟩ := Cond.arrayClass_spec (htsG _ xc_aI.1)
          exact ⟨cA, fun ty h => by cases h; exact ⟨fun n z => ⟨fun k h => (by cases h), kA, f2, comp, f3⟩, f1⟩⟩
        · obtain ⟨cA, kA, comp, f1, f2, f3⟩ := Cond.arrayClass_spec (htsG _ xc_aI.2)
          exact ⟨cA, fun ty h => by cases h; exact ⟨fun n z => ⟨fun k h => (by cases h), kA, f2, comp, f3⟩, f1⟩⟩
      · obtain ⟨q, hq, he⟩ := List.any_eq_true.mp h1
        have h3 := List.all_eq_true.mp xt_a_ok q hq
        rw [of_decide_eq_true he] at h3
        unfold xm_aow at h3
        split at h3
        · rename_i Cn r hty hcl
          simp only [Bool.and_eq_true, decide_eq_true_eq] at h3
          have h4 := xm_atN_spec h3.1
          obtain ⟨comp, cA, kA, f1, -, f2, f3, f4⟩ := Cond.arrayOver_spec (hts _ h4.1)
          refine ⟨cA, fun ty h => ?_⟩
          cases hty.symm.trans h
          exact ⟨fun n z => ⟨fun k h => (by cases h), kA, f2, comp, f3⟩, kA, comp, f2, f3, f1, f4⟩
        · cases h3
    · exact ⟨0, fun ty h => absurd (List.getElem?_eq_some_iff.mp h).1 ht⟩
  let D : va_G := (fun ci => (Classical.choose (hK1 ci)).1, fun ci => (Classical.choose (hK1 ci)).2)
  let cid : Nat → Nat := fun t => Classical.choose (hA1 t)
  have hK : va_K D xc_cl (xm_tys cid) s := by
    refine ⟨fun ci q hq => Classical.choose_spec (hK1 ci) q hq, fun k q hq => ?_⟩
    unfold xm_tys at hq
    rw [List.getElem?_mapIdx] at hq
    cases hz : xc_arr[k]? with
    | none => rw [hz] at hq; cases hq
    | some ty =>
      rw [hz] at hq
      cases hq
      exact Classical.choose_spec (hA1 k) ty hz
  have hN : ∀ w ∈ lw_tbl, xm_isN w = true → w.before #[] s = true := by
    intro w hw hn
    have hb1 := hts w hw
    cases w <;> first | (cases hn; done) | exact va_Nw.of rfl hb1 | skip
    rename_i t
    cases t <;> first | (cases hn; done) | exact va_AO.of hb1
  have C : xm_Ctx p s m #[Value.ref b] meth c xm_law := ⟨hx, hb, hml, hown, htsG, hN, hr, hlocks, fun q => absurd q (by decide +kernel)⟩
  have G : xm_G D cid (b, L, xs) (fun q => s.heap.size ≤ q) s (xm_h0 s.heap.size) s.heap [] := ⟨hK, (fun a o h => by cases h), rfl, (fun a o h => by cases h), (fun q h => h), va_S.rf, hX, hbl, Nat.not_le.mpr hbl⟩
  rw [lg_entry_eq]
  have hl := xm_entry_LR (y := xm_law) (as := [.ref b]) (fun v hv => by rw [List.mem_singleton.mp hv]; rfl) (by show 1 ≤ xm_maxL xm_law; decide +kernel)
  have key := xm_sound l D cid (b, L, xs) n 7 xm_law 0 _ [] _ _ h' hev p e room_1 s m #[Value.ref b] below meth c s.heap [] (fun q => s.heap.size ≤ q) _ (lw_Z below #[Value.ref b] s) 0 0 C (by decide +kernel) (by decide) (by decide) G hl (by show 0 + (h'.2.1 - s.heap.size) ≤ 600000; omega) (by show 0 + (h'.2.2 - 0) ≤ 7302250; omega)
  rw [xm_bp0 (by decide +kernel)] at key
  refine key ?_
  intro i2 lc2 H2 locs2 G2 hrk
  refine va_forget (fun q hq => G2.2.2.2.2.2.1.2.2 q hq) ?_
  refine W.widen (k := 600000) (n := 7302250) (by show 0 + (h'.2.1 - s.heap.size) ≤ 600000; omega) (by show 0 + (h'.2.2 - 0) ≤ 7302250; omega) ?_
  exact lw_ret hx hb hr hlocks hrk.1
end
section
/-! ===== rows of the abstract machine over small naturals ===== -/
theorem xn_shl31 : ∀ b : Nat, b < 32 → ((nI b &&& 31).toBitVec.smod 32).toNat = b := by decide +kernel
theorem xn_shl {a b : Nat} (hb : b < 32) (h : a * 2 ^ b < 2 ^ 32) : nI a <<< (nI b &&& 31) = nI (a * 2 ^ b) := pk_shlN (nI b &&& 31) b (xn_shl31 b hb) h
theorem xn_shr {a b : Nat} (ha : a < 2 ^ 31) (hb : b < 32) : nI a >>> (nI b &&& 31) = nI (a / 2 ^ b) := pk_shrN ha (nI b &&& 31) b (xn_shl31 b hb)
theorem xn_and (a b : Nat) : nI a &&& nI b = nI (a &&& b) := by
  apply Int32.toBitVec_inj.mp
  simp [nI, Int32.toBitVec_and, Int32.toBitVec_ofNat, BitVec.ofNat_and]
theorem xn_or (a b : Nat) : nI a ||| nI b = nI (a ||| b) := by
  apply Int32.toBitVec_inj.mp
  simp [nI, Int32.toBitVec_or, Int32.toBitVec_ofNat, BitVec.ofNat_or]
theorem xn_xor (a b : Nat) : nI a ^^^ nI b = nI (a ^^^ b) := by
  apply Int32.toBitVec_inj.mp
  simp [nI, Int32.toBitVec_xor, Int32.toBitVec_ofNat, BitVec.ofNat_xor]
section WN
variable {sc : Nat × Nat × (Nat → Int32)} {d y i : Nat} {ls ls' : xm_L} {st r rest : List Value} {h : xm_S} {Q : Option Value → xm_S → Prop}
theorem wn_const {v : Int} {n : Nat} (hc : (xm_code y)[i]? = some (.iconst v)) (hv : Int32.ofInt v = nI n) (w : xm_wp sc d y (i + 1) ls (.int (nI n) :: st) h Q) : xm_wp sc d y i ls st h Q := wp_step (by unfold xm_act; rw [hc]; dsimp only [xm_do]; rw [hv]) w
theorem wn_constI {v : Int} {n : Int32} (hc : (xm_code y)[i]? = some (.iconst v)) (hv : Int32.ofInt v = n) (w : xm_wp sc d y (i + 1) ls (.int n :: st) h Q) : xm_wp sc d y i ls st h Q := wp_step (by unfold xm_act; rw [hc]; dsimp only [xm_do]; rw [hv]) w
theorem wn_null (hc : (xm_code y)[i]? = some .aconst_null) (w : xm_wp sc d y (i + 1) ls (.null :: st) h Q) : xm_wp sc d y i ls st h Q := wp_step (by unfold xm_act; rw [hc]; rfl) w
theorem wn_iload {k : Nat} {x : Int32} (hc : (xm_code y)[i]? = some (.iload k)) (hv : ls[k]? = some (some (.int x))) (w : xm_wp sc d y (i + 1) ls (.int x :: st) h Q) : xm_wp sc d y i ls st h Q := wp_step (by unfold xm_act; rw [hc]; simp only [xm_do, hv]) w
theorem wn_aload {k x : Nat} (hc : (xm_code y)[i]? = some (.aload k)) (hv : ls[k]? = some (some (.ref x))) (w : xm_wp sc d y (i + 1) ls (.ref x :: st) h Q) : xm_wp sc d y i ls st h Q := wp_step (by unfold xm_act; rw [hc]; simp only [xm_do, hv]) w
theorem wn_aloadN {k : Nat} (hc : (xm_code y)[i]? = some (.aload k)) (hv : ls[k]? = some (some .null)) (w : xm_wp sc d y (i + 1) ls (.null :: st) h Q) : xm_wp sc d y i ls st h Q := wp_step (by unfold xm_act; rw [hc]; simp only [xm_do, hv]) w
theorem wn_istore {k : Nat} {x : Int32} (hc : (xm_code y)[i]? = some (.istore k)) (hk : k < ls.length) (hl : ls.set k (some (.int x)) = ls') (w : xm_wp sc d y (i + 1) ls' r h Q) : xm_wp sc d y i ls (.int x :: r) h Q := wp_step (by unfold xm_act; rw [hc]; simp only [xm_do, hk, if_true, hl]) w
theorem wn_astore {k x : Nat} (hc : (xm_code y)[i]? = some (.astore k)) (hk : k < ls.length) (hl : ls.set k (some (.ref x)) = ls') (w : xm_wp sc d y (i + 1) ls' r h Q) : xm_wp sc d y i ls (.ref x :: r) h Q := wp_step (by unfold xm_act; rw [hc]; simp only [xm_do, hk, if_true, hl]) w
theorem wn_astoreN {k : Nat} (hc : (xm_code y)[i]? = some (.astore k)) (hk : k < ls.length) (hl : ls.set k (some .null) = ls') (w : xm_wp sc d y (i + 1) ls' r h Q) : xm_wp sc d y i ls (.null :: r) h Q := wp_step (by unfold xm_act; rw [hc]; simp only [xm_do, hk, if_true, hl]) w
theorem wn_iinc {k x n : Nat} {c : Int} (hc : (xm_code y)[i]? = some (.iinc k c)) (hv : ls[k]? = some (some (.int (nI x)))) (hn : Int32.ofInt c = nI n) (hl : ls.set k (some (.int (nI (x + n)))) = ls') (w : xm_wp sc d y (i + 1) ls' st h Q) : xm_wp sc d y i ls st h Q := wp_step (by unfold xm_act; rw [hc]; simp only [xm_do, hv, hn, nI_add, hl]) w
theorem wn_idec {k x : Nat} (hc : (xm_code y)[i]? = some (.iinc k (-1))) (hv : ls[k]? = some (some (.int (nI (x + 1))))) (hl : ls.set k (some (.int (nI x))) = ls') (w : xm_wp sc d y (i + 1) ls' st h Q) : xm_wp sc d y i ls st h Q := wp_step (by unfold xm_act; rw [hc]; simp only [xm_do, hv]; rw [show nI (x + 1) + Int32.ofInt (-1) = nI x from pk_m1 x, hl]) w
theorem wn_dup {x : Nat} (hc : (xm_code y)[i]? = some .dup) (w : xm_wp sc d y (i + 1) ls (.ref x :: .ref x :: r) h Q) : xm_wp sc d y i ls (.ref x :: r) h Q := wp_step (by unfold xm_act; rw [hc]; rfl) w
theorem wn_dupI {x : Int32} (hc : (xm_code y)[i]? = some .dup) (w : xm_wp sc d y (i + 1) ls (.int x :: .int x :: r) h Q) : xm_wp sc d y i ls (.int x :: r) h Q := wp_step (by unfold xm_act; rw [hc]; rfl) w
theorem wn_popI {x : Int32} (hc : (xm_code y)[i]? = some .pop) (w : xm_wp sc d y (i + 1) ls r h Q) : xm_wp sc d y i ls (.int x :: r) h Q := wp_step (by unfold xm_act; rw [hc]; rfl) w
theorem wn_goto {t : Int} {t' : Nat} (hc : (xm_code y)[i]? = some (.goto t)) (ht : t.toNat = t') (w : xm_wp sc d y t' ls st h Q) : xm_wp sc d y i ls st h Q := wp_step (by unfold xm_act; rw [hc]; simp only [xm_do, ht]) w
theorem wn_ifnull {t : Int} {x : Nat} (hc : (xm_code y)[i]? = some (.ifnull t)) (w : xm_wp sc d y (i + 1) ls r h Q) : xm_wp sc d y i ls (.ref x :: r) h Q := wp_step (by unfold xm_act; rw [hc]; rfl) w
theorem wn_ifnullN {t : Int} {t' : Nat} (hc : (xm_code y)[i]? = some (.ifnull t)) (ht : t.toNat = t') (w : xm_wp sc d y t' ls r h Q) : xm_wp sc d y i ls (.null :: r) h Q := wp_step (by unfold xm_act; rw [hc]; simp only [xm_do, ht]) w
theorem wn_ifnonnull {t : Int} {x t' : Nat} (hc : (xm_code y)[i]? = some (.ifnonnull t)) (ht : t.toNat = t') (w : xm_wp sc d y t' ls r h Q) : xm_wp sc d y i ls (.ref x :: r) h Q := wp_step (by unfold xm_act; rw [hc]; simp only [xm_do, ht]) w
theorem wn_ifnonnullN {t : Int} (hc : (xm_code y)[i]? = some (.ifnonnull t)) (w : xm_wp sc d y (i + 1) ls r h Q) : xm_wp sc d y i ls (.null :: r) h Q := wp_step (by unfold xm_act; rw [hc]; rfl) w
theorem wn_iadd {a b : Nat} (hc : (xm_code y)[i]? = some .iadd) (w : xm_wp sc d y (i + 1) ls (.int (nI (a + b)) :: r) h Q) : xm_wp sc d y i ls (.int (nI b) :: .int (nI a) :: r) h Q := wp_step (by unfold xm_act; rw [hc]; dsimp only [xm_do, xm_b2]; rw [nI_add]) w
theorem wn_imul {a b : Nat} (hc : (xm_code y)[i]? = some .imul) (w : xm_wp sc d y (i + 1) ls (.int (nI (a * b)) :: r) h Q) : xm_wp sc d y i ls (.int (nI b) :: .int (nI a) :: r) h Q := wp_step (by unfold xm_act; rw [hc]; dsimp only [xm_do, xm_b2]; rw [pk_mul]) w
theorem wn_isub {a b : Nat} (hc : (xm_code y)[i]? = some .isub) (hb : b ≤ a) (w : xm_wp sc d y (i + 1) ls (.int (nI (a - b)) :: r) h Q) : xm_wp sc d y i ls (.int (nI b) :: .int (nI a) :: r) h Q := wp_step (by unfold xm_act; rw [hc]; dsimp only [xm_do, xm_b2]; rw [pk_sub hb]) w
theorem wn_iand {a b : Nat} (hc : (xm_code y)[i]? = some .iand) (w : xm_wp sc d y (i + 1) ls (.int (nI (a &&& b)) :: r) h Q) : xm_wp sc d y i ls (.int (nI b) :: .int (nI a) :: r) h Q := wp_step (by unfold xm_act; rw [hc]; dsimp only [xm_do, xm_b2]; rw [xn_and]) w
theorem wn_ior {a b : Nat} (hc : (xm_code y)[i]? = some .ior) (w : xm_wp sc d y (i + 1) ls (.int (nI (a ||| b)) :: r) h Q) : xm_wp sc d y i ls (.int (nI b) :: .int (nI a) :: r) h Q := wp_step (by unfold xm_act; rw [hc]; dsimp only [xm_do, xm_b2]; rw [xn_or]) w
theorem wn_ixor {a b : Nat} (hc : (xm_code y)[i]? = some .ixor) (w : xm_wp sc d y (i + 1) ls (.int (nI (a ^^^ b)) :: r) h Q) : xm_wp sc d y i ls (.int (nI b) :: .int (nI a) :: r) h Q := wp_step (by unfold xm_act; rw [hc]; dsimp only [xm_do, xm_b2]; rw [xn_xor]) w
theorem wn_ishl {a b : Nat} (hc : (xm_code y)[i]? = some .ishl) (hb : b < 32) (hm : a * 2 ^ b < 2 ^ 32) (w : xm_wp sc d y (i + 1) ls (.int (nI (a * 2 ^ b)) :: r) h Q) : xm_wp sc d y i ls (.int (nI b) :: .int (nI a) :: r) h Q := wp_step (by unfold xm_act; rw [hc]; dsimp only [xm_do, xm_b2]; rw [xn_shl hb hm]) w
theorem wn_ishr {a b : Nat} (hc : (xm_code y)[i]? = some .ishr) (hb : b < 32) (ha : a < 2 ^ 31) (w : xm_wp sc d y (i + 1) ls (.int (nI (a / 2 ^ b)) :: r) h Q) : xm_wp sc d y i ls (.int (nI b) :: .int (nI a) :: r) h Q := wp_step (by unfold xm_act; rw [hc]; dsimp only [xm_do, xm_b2]; rw [xn_shr ha hb]) w
theorem wi_iadd {a b : Int32} (hc : (xm_code y)[i]? = some .iadd) (w : xm_wp sc d y (i + 1) ls (.int (a + b) :: r) h Q) : xm_wp sc d y i ls (.int b :: .int a :: r) h Q := wp_step (by unfold xm_act; rw [hc]; rfl) w
theorem wi_imul {a b : Int32} (hc : (xm_code y)[i]? = some .imul) (w : xm_wp sc d y (i + 1) ls (.int (a * b) :: r) h Q) : xm_wp sc d y i ls (.int b :: .int a :: r) h Q := wp_step (by unfold xm_act; rw [hc]; rfl) w
theorem wi_isub {a b : Int32} (hc : (xm_code y)[i]? = some .isub) (w : xm_wp sc d y (i + 1) ls (.int (a - b) :: r) h Q) : xm_wp sc d y i ls (.int b :: .int a :: r) h Q := wp_step (by unfold xm_act; rw [hc]; rfl) w
theorem wi_iand {a b : Int32} (hc : (xm_code y)[i]? = some .iand) (w : xm_wp sc d y (i + 1) ls (.int (a &&& b) :: r) h Q) : xm_wp sc d y i ls (.int b :: .int a :: r) h Q := wp_step (by unfold xm_act; rw [hc]; rfl) w
theorem wi_ior {a b : Int32} (hc : (xm_code y)[i]? = some .ior) (w : xm_wp sc d y (i + 1) ls (.int (a ||| b) :: r) h Q) : xm_wp sc d y i ls (.int b :: .int a :: r) h Q := wp_step (by unfold xm_act; rw [hc]; rfl) w
theorem wi_ixor {a b : Int32} (hc : (xm_code y)[i]? = some .ixor) (w : xm_wp sc d y (i + 1) ls (.int (a ^^^ b) :: r) h Q) : xm_wp sc d y i ls (.int b :: .int a :: r) h Q := wp_step (by unfold xm_act; rw [hc]; rfl) w
theorem wi_ishl {a b : Int32} (hc : (xm_code y)[i]? = some .ishl) (w : xm_wp sc d y (i + 1) ls (.int (a <<< (b &&& 31)) :: r) h Q) : xm_wp sc d y i ls (.int b :: .int a :: r) h Q := wp_step (by unfold xm_act; rw [hc]; rfl) w
theorem wi_ishr {a b : Int32} (hc : (xm_code y)[i]? = some .ishr) (w : xm_wp sc d y (i + 1) ls (.int (a >>> (b &&& 31)) :: r) h Q) : xm_wp sc d y i ls (.int b :: .int a :: r) h Q := wp_step (by unfold xm_act; rw [hc]; rfl) w
theorem wi_iushr {a b : Int32} (hc : (xm_code y)[i]? = some .iushr) (w : xm_wp sc d y (i + 1) ls (.int ((a.toUInt32 >>> (b.toUInt32 &&& Int32.toUInt32 31)).toInt32) :: r) h Q) : xm_wp sc d y i ls (.int b :: .int a :: r) h Q := wp_step (by unfold xm_act; rw [hc]; rfl) w
theorem wi_ineg {a : Int32} (hc : (xm_code y)[i]? = some .ineg) (w : xm_wp sc d y (i + 1) ls (.int (-a) :: r) h Q) : xm_wp sc d y i ls (.int a :: r) h Q := wp_step (by unfold xm_act; rw [hc]; rfl) w
theorem wn_idiv {a b : Nat} (hc : (xm_code y)[i]? = some .idiv) (ha : a < 2 ^ 31) (h0 : 0 < b) (hb : b < 2 ^ 31) (w : xm_wp sc d y (i + 1) ls (.int (nI (a / b)) :: r) h Q) : xm_wp sc d y i ls (.int (nI b) :: .int (nI a) :: r) h Q := wp_idiv hc (nI_ne0 h0 hb) (by rw [pk_div ha h0 hb]; exact w)
theorem wn_irem {a b : Nat} (hc : (xm_code y)[i]? = some .irem) (ha : a < 2 ^ 31) (h0 : 0 < b) (hb : b < 2 ^ 31) (w : xm_wp sc d y (i + 1) ls (.int (nI (a % b)) :: r) h Q) : xm_wp sc d y i ls (.int (nI b) :: .int (nI a) :: r) h Q := wp_irem hc (nI_ne0 h0 hb) (by rw [pk_rem ha h0 hb]; exact w)
theorem wn_ic_eq {a b t' : Nat} {t : Int} (hc : (xm_code y)[i]? = some (.if_icmp .eq t)) (ht : t.toNat = t') (ha : a < 2 ^ 31) (hb : b < 2 ^ 31) (kt : a = b → xm_wp sc d y t' ls r h Q) (kf : a ≠ b → xm_wp sc d y (i + 1) ls r h Q) : xm_wp sc d y i ls (.int (nI b) :: .int (nI a) :: r) h Q := by
  subst ht
  exact wp_ic_eq hc (fun hq => kt ((nI_eq ha hb).mp hq)) (fun hq => kf (fun e => hq ((nI_eq ha hb).mpr e)))
theorem wi_ic_eq {a b : Int32} {t' : Nat} {t : Int} (hc : (xm_code y)[i]? = some (.if_icmp .eq t)) (ht : t.toNat = t') (kt : a = b → xm_wp sc d y t' ls r h Q) (kf : ¬ a = b → xm_wp sc d y (i + 1) ls r h Q) : xm_wp sc d y i ls (.int b :: .int a :: r) h Q := by
  subst ht
  exact wp_ic_eq hc kt kf
theorem wi_if_eq {a : Int32} {t' : Nat} {t : Int} (hc : (xm_code y)[i]? = some (.ifCond .eq t)) (ht : t.toNat = t') (kt : a = 0 → xm_wp sc d y t' ls r h Q) (kf : ¬ a = 0 → xm_wp sc d y (i + 1) ls r h Q) : xm_wp sc d y i ls (.int a :: r) h Q := by
  subst ht
  exact wp_if_eq hc kt kf
theorem wn_ic_ne {a b t' : Nat} {t : Int} (hc : (xm_code y)[i]? = some (.if_icmp .ne t)) (ht : t.toNat = t') (ha : a < 2 ^ 31) (hb : b < 2 ^ 31) (kt : a ≠ b → xm_wp sc d y t' ls r h Q) (kf : a = b → xm_wp sc d y (i + 1) ls r h Q) : xm_wp sc d y i ls (.int (nI b) :: .int (nI a) :: r) h Q := by
  subst ht
  exact wp_ic_ne hc (fun hq => kt (fun e => hq ((nI_eq ha hb).mpr e))) (fun hq => kf ((nI_eq ha hb).mp hq))
theorem wi_ic_ne {a b : Int32} {t' : Nat} {t : Int} (hc : (xm_code y)[i]? = some (.if_icmp .ne t)) (ht : t.toNat = t') (kt : ¬ a = b → xm_wp sc d y t' ls r h Q) (kf : a = b → xm_wp sc d y (i + 1) ls r h Q) : xm_wp sc d y i ls (.int b :: .int a :: r) h Q := by
  subst ht
  exact wp_ic_ne hc kt kf
theorem wi_if_ne {a : Int32} {t' : Nat} {t : Int} (hc : (xm_code y)[i]? = some (.ifCond .ne t)) (ht : t.toNat = t') (kt : ¬ a = 0 → xm_wp sc d y t' ls r h Q) (kf : a = 0 → xm_wp sc d y (i + 1) ls r h Q) : xm_wp sc d y i ls (.int a :: r) h Q := by
  subst ht
  exact wp_if_ne hc kt kf
theorem wn_ic_lt {a b t' : Nat} {t : Int} (hc : (xm_code y)[i]? = some (.if_icmp .lt t)) (ht : t.toNat = t') (ha : a < 2 ^ 31) (hb : b < 2 ^ 31) (kt : a < b → xm_wp sc d y t' ls r h Q) (kf : b ≤ a → xm_wp sc d y (i + 1) ls r h Q) : xm_wp sc d y i ls (.int (nI b) :: .int (nI a) :: r) h Q := by
  subst ht
  exact wp_ic_lt hc (fun hq => kt ((nI_ltI ha hb).mp hq)) (fun hq => kf (Nat.not_lt.mp (fun e => hq ((nI_ltI ha hb).mpr e))))
theorem wi_ic_lt {a b : Int32} {t' : Nat} {t : Int} (hc : (xm_code y)[i]? = some (.if_icmp .lt t)) (ht : t.toNat = t') (kt : a < b → xm_wp sc d y t' ls r h Q) (kf : ¬ a < b → xm_wp sc d y (i + 1) ls r h Q) : xm_wp sc d y i ls (.int b :: .int a :: r) h Q := by
  subst ht
  exact wp_ic_lt hc kt kf
theorem wi_if_lt {a : Int32} {t' : Nat} {t : Int} (hc : (xm_code y)[i]? = some (.ifCond .lt t)) (ht : t.toNat = t') (kt : a < 0 → xm_wp sc d y t' ls r h Q) (kf : ¬ a < 0 → xm_wp sc d y (i + 1) ls r h Q) : xm_wp sc d y i ls (.int a :: r) h Q := by
  subst ht
  exact wp_if_lt hc kt kf
theorem wn_ic_ge {a b t' : Nat} {t : Int} (hc : (xm_code y)[i]? = some (.if_icmp .ge t)) (ht : t.toNat = t') (ha : a < 2 ^ 31) (hb : b < 2 ^ 31) (kt : b ≤ a → xm_wp sc d y t' ls r h Q) (kf : a < b → xm_wp sc d y (i + 1) ls r h Q) : xm_wp sc d y i ls (.int (nI b) :: .int (nI a) :: r) h Q := by
  subst ht
  exact wp_ic_ge hc (fun hq => kt ((nI_leI hb ha).mp hq)) (fun hq => kf (Nat.not_le.mp (fun e => hq ((nI_leI hb ha).mpr e))))
theorem wi_ic_ge {a b : Int32} {t' : Nat} {t : Int} (hc : (xm_code y)[i]? = some (.if_icmp .ge t)) (ht : t.toNat = t') (kt : b ≤ a → xm_wp sc d y t' ls r h Q) (kf : ¬ b ≤ a → xm_wp sc d y (i + 1) ls r h Q) : xm_wp sc d y i ls (.int b :: .int a :: r) h Q := by
  subst ht
  exact wp_ic_ge hc kt kf
theorem wi_if_ge {a : Int32} {t' : Nat} {t : Int} (hc : (xm_code y)[i]? = some (.ifCond .ge t)) (ht : t.toNat = t') (kt : 0 ≤ a → xm_wp sc d y t' ls r h Q) (kf : ¬ 0 ≤ a → xm_wp sc d y (i + 1) ls r h Q) : xm_wp sc d y i ls (.int a :: r) h Q := by
  subst ht
  exact wp_if_ge hc kt kf
theorem wn_ic_gt {a b t' : Nat} {t : Int} (hc : (xm_code y)[i]? = some (.if_icmp .gt t)) (ht : t.toNat = t') (ha : a < 2 ^ 31) (hb : b < 2 ^ 31) (kt : b < a → xm_wp sc d y t' ls r h Q) (kf : a ≤ b → xm_wp sc d y (i + 1) ls r h Q) : xm_wp sc d y i ls (.int (nI b) :: .int (nI a) :: r) h Q := by
  subst ht
  exact wp_ic_gt hc (fun hq => kt ((nI_ltI hb ha).mp hq)) (fun hq => kf (Nat.not_lt.mp (fun e => hq ((nI_ltI hb ha).mpr e))))
theorem wi_ic_gt {a b : Int32} {t' : Nat} {t : Int} (hc : (xm_code y)[i]? = some (.if_icmp .gt t)) (ht : t.toNat = t') (kt : b < a → xm_wp sc d y t' ls r h Q) (kf : ¬ b < a → xm_wp sc d y (i + 1) ls r h Q) : xm_wp sc d y i ls (.int b :: .int a :: r) h Q := by
  subst ht
  exact wp_ic_gt hc kt kf
theorem wi_if_gt {a : Int32} {t' : Nat} {t : Int} (hc : (xm_code y)[i]? = some (.ifCond .gt t)) (ht : t.toNat = t') (kt : 0 < a → xm_wp sc d y t' ls r h Q) (kf : ¬ 0 < a → xm_wp sc d y (i + 1) ls r h Q) : xm_wp sc d y i ls (.int a :: r) h Q := by
  subst ht
  exact wp_if_gt hc kt kf
theorem wn_ic_le {a b t' : Nat} {t : Int} (hc : (xm_code y)[i]? = some (.if_icmp .le t)) (ht : t.toNat = t') (ha : a < 2 ^ 31) (hb : b < 2 ^ 31) (kt : a ≤ b → xm_wp sc d y t' ls r h Q) (kf : b < a → xm_wp sc d y (i + 1) ls r h Q) : xm_wp sc d y i ls (.int (nI b) :: .int (nI a) :: r) h Q := by
  subst ht
  exact wp_ic_le hc (fun hq => kt ((nI_leI ha hb).mp hq)) (fun hq => kf (Nat.not_le.mp (fun e => hq ((nI_leI ha hb).mpr e))))
theorem wi_ic_le {a b : Int32} {t' : Nat} {t : Int} (hc : (xm_code y)[i]? = some (.if_icmp .le t)) (ht : t.toNat = t') (kt : a ≤ b → xm_wp sc d y t' ls r h Q) (kf : ¬ a ≤ b → xm_wp sc d y (i + 1) ls r h Q) : xm_wp sc d y i ls (.int b :: .int a :: r) h Q := by
  subst ht
  exact wp_ic_le hc kt kf
theorem wi_if_le {a : Int32} {t' : Nat} {t : Int} (hc : (xm_code y)[i]? = some (.ifCond .le t)) (ht : t.toNat = t') (kt : a ≤ 0 → xm_wp sc d y t' ls r h Q) (kf : ¬ a ≤ 0 → xm_wp sc d y (i + 1) ls r h Q) : xm_wp sc d y i ls (.int a :: r) h Q := by
  subst ht
  exact wp_if_le hc kt kf
theorem wn_if_eq {a t' : Nat} {t : Int} (hc : (xm_code y)[i]? = some (.ifCond .eq t)) (ht : t.toNat = t') (ha : a < 2 ^ 31) (kt : a = 0 → xm_wp sc d y t' ls r h Q) (kf : a ≠ 0 → xm_wp sc d y (i + 1) ls r h Q) : xm_wp sc d y i ls (.int (nI a) :: r) h Q := by
  subst ht
  exact wp_if_eq hc (fun hq => kt ((nI_eq ha (by decide)).mp hq)) (fun hq => kf (fun e => hq ((nI_eq ha (by decide)).mpr e)))
theorem wn_if_ne {a t' : Nat} {t : Int} (hc : (xm_code y)[i]? = some (.ifCond .ne t)) (ht : t.toNat = t') (ha : a < 2 ^ 31) (kt : a ≠ 0 → xm_wp sc d y t' ls r h Q) (kf : a = 0 → xm_wp sc d y (i + 1) ls r h Q) : xm_wp sc d y i ls (.int (nI a) :: r) h Q := by
  subst ht
  exact wp_if_ne hc (fun hq => kt (fun e => hq ((nI_eq ha (by decide)).mpr e))) (fun hq => kf ((nI_eq ha (by decide)).mp hq))
theorem wn_if_gt {a t' : Nat} {t : Int} (hc : (xm_code y)[i]? = some (.ifCond .gt t)) (ht : t.toNat = t') (ha : a < 2 ^ 31) (kt : 0 < a → xm_wp sc d y t' ls r h Q) (kf : a = 0 → xm_wp sc d y (i + 1) ls r h Q) : xm_wp sc d y i ls (.int (nI a) :: r) h Q := by
  subst ht
  exact wp_if_gt hc (fun hq => kt ((nI_ltI (by decide) ha).mp hq)) (fun hq => kf (Nat.eq_zero_of_not_pos (fun e => hq ((nI_ltI (by decide) ha).mpr e))))
theorem wn_if_le {a t' : Nat} {t : Int} (hc : (xm_code y)[i]? = some (.ifCond .le t)) (ht : t.toNat = t') (ha : a < 2 ^ 31) (kt : a = 0 → xm_wp sc d y t' ls r h Q) (kf : 0 < a → xm_wp sc d y (i + 1) ls r h Q) : xm_wp sc d y i ls (.int (nI a) :: r) h Q := by
  subst ht
  exact wp_if_le hc (fun hq => kt (Nat.le_zero.mp ((nI_leI ha (by decide)).mp hq))) (fun hq => kf (Nat.pos_of_ne_zero (fun e => hq ((nI_leI ha (by decide)).mpr (Nat.le_of_eq e)))))
theorem wn_if_lt {a : Nat} {t : Int} (hc : (xm_code y)[i]? = some (.ifCond .lt t)) (ha : a < 2 ^ 31) (kf : xm_wp sc d y (i + 1) ls r h Q) : xm_wp sc d y i ls (.int (nI a) :: r) h Q := wp_if_lt hc (fun hq => absurd hq (nI_pos ha)) (fun _ => kf)
theorem wn_if_ge {a t' : Nat} {t : Int} (hc : (xm_code y)[i]? = some (.ifCond .ge t)) (ht : t.toNat = t') (ha : a < 2 ^ 31) (kt : xm_wp sc d y t' ls r h Q) : xm_wp sc d y i ls (.int (nI a) :: r) h Q := by
  subst ht
  exact wp_if_ge hc (fun _ => kt) (fun hq => absurd (nI_pos' ha) hq)
theorem wn_ret {v : Int32} (hc : (xm_code y)[i]? = some .ireturn) (hr : xm_ret y = some .int) (hq : Q (some (.int v)) h) : xm_wp sc d y i ls [.int v] h Q := wp_retI hc hr hq
theorem wn_retZ {n : Nat} (hc : (xm_code y)[i]? = some .ireturn) (hn : n ≤ 1) (hq : Q (some (.int (nI n))) h) : xm_wp sc d y i ls [.int (nI n)] h Q := wp_retZ (v := nI n) hc (by rcases (show n = 0 ∨ n = 1 by omega) with e | e <;> subst e <;> decide) hq
theorem wn_retV (hc : (xm_code y)[i]? = some .return_) (hq : Q none h) : xm_wp sc d y i ls [] h Q := wp_ret (by unfold xm_act; rw [hc]; rfl) hq
theorem wn_retA {a : Nat} (hc : (xm_code y)[i]? = some .areturn) (hq : Q (some (.ref a)) h) : xm_wp sc d y i ls [.ref a] h Q := wp_ret (by unfold xm_act; rw [hc]; rfl) hq
theorem wn_retN (hc : (xm_code y)[i]? = some .areturn) (hq : Q (some .null) h) : xm_wp sc d y i ls [.null] h Q := wp_ret (by unfold xm_act; rw [hc]; rfl) hq
/-- a static call, by its own run -/
theorem wn_calls {y' n : Nat} {as rest : List Value} {es : xm_L} (hc : (xm_code y)[i]? = some (.invokestatic y')) (hn : xm_rv y' = none) (h1 : y' < 2000) (ha : xm_ar y' = n) (hst : st = as.reverse ++ rest) (hl : as.length = n) (h8 : rest.length ≤ 8) (hcat : st.all (fun v => v.category == 1) = true) (he : xm_entry y' as = es) (k : xm_wp sc d y' 0 es [] h (fun v h' => xm_wp sc (d + 1) y (i + 1) ls (v.toList ++ rest) h' Q)) : xm_wp sc (d + 1) y i ls st h Q := by
  subst he
  refine wp_call (y' := y') (as := as) (rest := rest) ?_ k
  unfold xm_act
  rw [hc]
  dsimp only [xm_do]
  rw [if_neg (by omega), if_neg (by omega), if_neg (by omega), ha]
  have e1 : st.take n = as.reverse := by rw [hst, ← hl, ← List.length_reverse, List.take_left]
  have e2 : st.drop n = rest := by rw [hst, ← hl, ← List.length_reverse, List.drop_left]
  unfold xm_call
  rw [if_pos ⟨by rw [hst]; simp; omega, by rw [e2]; exact h8, fun v hv => by simpa using List.all_eq_true.mp hcat v hv⟩, hn]
  dsimp only
  rw [e1, e2, List.reverse_reverse]
theorem wn_callv {y' n ci b : Nat} {as rest fs : List Value} {es : xm_L} (hc : (xm_code y)[i]? = some (.invokevirtual y')) (hn : xm_rv y' = some ci) (ha : xm_ar y' = n) (hst : st = as.reverse ++ .ref b :: rest) (hl : as.length + 1 = n) (h8 : rest.length ≤ 8) (hcat : st.all (fun v => v.category == 1) = true) (hb : h.1 b = some (.inr (ci, fs))) (he : xm_entry y' (.ref b :: as) = es) (k : xm_wp sc d y' 0 es [] h (fun v h' => xm_wp sc (d + 1) y (i + 1) ls (v.toList ++ rest) h' Q)) : xm_wp sc (d + 1) y i ls st h Q := by
  subst he
  refine wp_call (y' := y') (as := .ref b :: as) (rest := rest) ?_ k
  unfold xm_act
  rw [hc]
  dsimp only [xm_do]
  have hst2 : st = (.ref b :: as).reverse ++ rest := by rw [hst]; simp
  have hl2 : (Value.ref b :: as).length = n := hl
  have e1 : st.take n = (.ref b :: as).reverse := by rw [hst2, ← hl2, ← List.length_reverse, List.take_left]
  have e2 : st.drop n = rest := by rw [hst2, ← hl2, ← List.length_reverse, List.drop_left]
  rw [ha]
  unfold xm_call
  rw [if_pos ⟨by rw [hst2]; simp; omega, by rw [e2]; exact h8, fun v hv => by simpa using List.all_eq_true.mp hcat v hv⟩, hn]
  dsimp only
  rw [e1, e2, List.reverse_reverse]
  dsimp only
  rw [hb]
  dsimp only
  rw [if_pos rfl]
theorem wn_calli {y' n ci b : Nat} {as rest fs : List Value} {es : xm_L} (hc : (xm_code y)[i]? = some (.invokespecial y')) (hn : xm_rv y' = some ci) (h1 : y' < 1000) (ha : xm_ar y' = n) (hst : st = as.reverse ++ .ref b :: rest) (hl : as.length + 1 = n) (h8 : rest.length ≤ 8) (hcat : st.all (fun v => v.category == 1) = true) (hb : h.1 b = some (.inr (ci, fs))) (he : xm_entry y' (.ref b :: as) = es) (k : xm_wp sc d y' 0 es [] h (fun v h' => xm_wp sc (d + 1) y (i + 1) ls (v.toList ++ rest) h' Q)) : xm_wp sc (d + 1) y i ls st h Q := by
  subst he
  refine wp_call (y' := y') (as := .ref b :: as) (rest := rest) ?_ k
  unfold xm_act
  rw [hc]
  dsimp only [xm_do]
  have hst2 : st = (.ref b :: as).reverse ++ rest := by rw [hst]; simp
  have hl2 : (Value.ref b :: as).length = n := hl
  have e1 : st.take n = (.ref b :: as).reverse := by rw [hst2, ← hl2, ← List.length_reverse, List.take_left]
  have e2 : st.drop n = rest := by rw [hst2, ← hl2, ← List.length_reverse, List.drop_left]
  rw [if_neg (by omega), ha]
  unfold xm_call
  rw [if_pos ⟨by rw [hst2]; simp; omega, by rw [e2]; exact h8, fun v hv => by simpa using List.all_eq_true.mp hcat v hv⟩, hn]
  dsimp only
  rw [e1, e2, List.reverse_reverse]
  dsimp only
  rw [hb]
  dsimp only
  rw [if_pos rfl]
end WN
end
section
/-! ===== the reference's cells ===== -/
def mo_list (o : Nat) (n : Nat → Nat) : List Value := [.int (nI (n 0)), .ref (o + 1), .ref (o + 2), .ref (o + 3), .int (nI (n 4)), .int (nI (n 5)), .ref (o + 4), .int (nI (n 7)), .ref (o + 5), .int (nI (n 9)), .ref (o + 6), .ref (o + 7), .ref (o + 8), .ref (o + 9), .ref (o + 10), .ref (o + 11), .int (nI (n 16))]
def mo_obj (o : Nat) (n : Nat → Nat) : xm_O := .inr (0, mo_list o n)
def mo_ty (k : Nat) : Nat := match k with
  | 2 => 1
  | 7 => 1
  | 8 => 1
  | _ => 0
def mo_len (k : Nat) : Nat := match k with
  | 1 => 24
  | 2 => 24
  | 3 => 98304
  | 4 => 16
  | 5 => 8
  | 6 => 8
  | 7 => 8
  | 8 => 4096
  | 9 => 4096
  | 10 => 4100
  | _ => 4100
def MW (o : Nat) (n : Nat → Nat) (f : Nat → Nat → Nat) (h : xm_S) : Prop := h.1 o = some (mo_obj o n) ∧ ∀ k : Nat, 0 < k → k < 12 → h.1 (o + k) = some (.inl (mo_ty k, mo_len k, .inl (fun j => nI (f k j))))
/-- nothing but the reference's cells has changed -/
def MF (o : Nat) (h h' : xm_S) : Prop := h'.2 = h.2 ∧ ∀ q : Nat, q < o ∨ o + 12 ≤ q → h'.1 q = h.1 q
def MX (o : Nat) (n : Nat → Nat) (f : Nat → Nat → Nat) (h0 h : xm_S) : Prop := MW o n f h ∧ MF o h0 h
def nU (n : Nat → Nat) (k x : Nat) : Nat → Nat := fun j => if j = k then x else n j
def fU (f : Nat → Nat → Nat) (k e x : Nat) : Nat → Nat → Nat := fun k' j => if k' = k ∧ j = e then x else f k' j
theorem fU_same {f : Nat → Nat → Nat} {k e x : Nat} : fU f k e x k e = x := by simp [fU]
theorem fU_ne {f : Nat → Nat → Nat} {k e x k' j : Nat} (h : ¬ (k' = k ∧ j = e)) : fU f k e x k' j = f k' j := by simp [fU, h]
theorem nU_same {n : Nat → Nat} {k x : Nat} : nU n k x k = x := by simp [nU]
theorem nU_ne {n : Nat → Nat} {k x j : Nat} (h : j ≠ k) : nU n k x j = n j := by simp [nU, h]
theorem MF.rf {o : Nat} (h : xm_S) : MF o h h := ⟨rfl, fun _ _ => rfl⟩
theorem MF.put {o a : Nat} {h0 h : xm_S} {x : xm_O} (hF : MF o h0 h) (h1 : o ≤ a) (h2 : a < o + 12) : MF o h0 (xm_put h a x) := by
  refine ⟨hF.1, fun q hq => ?_⟩
  have hqa : ¬ q = a := by omega
  simp only [xm_put, hqa, if_false]
  exact hF.2 q hq
theorem MX.self {o : Nat} {n : Nat → Nat} {f : Nat → Nat → Nat} {h : xm_S} (hW : MW o n f h) : MX o n f h h := ⟨hW, MF.rf h⟩
theorem MX.putI {o : Nat} {n : Nat → Nat} {f : Nat → Nat → Nat} {h0 h : xm_S} (hX : MX o n f h0 h) {n' : Nat → Nat} : MX o n' f h0 (xm_put h o (mo_obj o n')) := by
  refine ⟨⟨by simp [xm_put], fun k h1 h2 => ?_⟩, hX.2.put (Nat.le_refl _) (by omega)⟩
  have hne : ¬ o + k = o := by omega
  simp only [xm_put, hne, if_false]
  exact hX.1.2 k h1 h2
theorem MX.putF {o k : Nat} {n : Nat → Nat} {f : Nat → Nat → Nat} {h0 h : xm_S} (hX : MX o n f h0 h) (h1 : 0 < k) (h2 : k < 12) {e x : Nat} : MX o n (fU f k e x) h0 (xm_put h (o + k) (.inl (mo_ty k, mo_len k, .inl (upd (fun j => nI (f k j)) e (nI x))))) := by
  have hne : ¬ o = o + k := by omega
  refine ⟨⟨?_, fun k' h1' h2' => ?_⟩, hX.2.put (by omega) (by omega)⟩
  · simp only [xm_put, hne, if_false]
    exact hX.1.1
  · by_cases hk : k' = k
    · subst hk
      simp only [xm_put, if_true]
      congr 4
      refine congrArg Sum.inl (funext fun j => ?_)
      by_cases hj : j = e
      · subst hj
        simp [upd, fU]
      · simp [upd, fU, hj]
    · have hne2 : ¬ o + k' = o + k := by omega
      simp only [xm_put, hne2, if_false]
      rw [hX.1.2 k' h1' h2']
      congr 4
      refine congrArg Sum.inl (funext fun j => ?_)
      simp [fU, hk]
section WM
variable {sc : Nat × Nat × (Nat → Int32)} {d y i o : Nat} {ls : xm_L} {r : List Value} {h h0 : xm_S} {Q : Option Value → xm_S → Prop} {n : Nat → Nat} {f : Nat → Nat → Nat}
theorem wm_iald {k e len a : Nat} (hc : (xm_code y)[i]? = some .iaload) (hX : MX o n f h0 h) (h1 : 0 < k) (h2 : k < 12) (hty : mo_ty k = 0) (hl : mo_len k = len) (ha : o + k = a) (he : e < len) (hl2 : len < 2 ^ 31) (w : xm_wp sc d y (i + 1) ls (.int (nI (f k e)) :: r) h Q) : xm_wp sc d y i ls (.int (nI e) :: .ref a :: r) h Q := by
  subst ha
  have h3 := hX.1.2 k h1 h2
  rw [hty, hl] at h3
  refine wp_iald hc h3 (vp_in_nI he hl2) ?_
  rw [nI_clamp (by omega)]
  exact w
theorem wm_bald {k e len a : Nat} (hc : (xm_code y)[i]? = some .baload) (hX : MX o n f h0 h) (h1 : 0 < k) (h2 : k < 12) (hty : mo_ty k = 1) (hl : mo_len k = len) (ha : o + k = a) (he : e < len) (hl2 : len < 2 ^ 31) (w : xm_wp sc d y (i + 1) ls (.int (nI (f k e)) :: r) h Q) : xm_wp sc d y i ls (.int (nI e) :: .ref a :: r) h Q := by
  subst ha
  have h3 := hX.1.2 k h1 h2
  rw [hty, hl] at h3
  refine wp_bald hc h3 (vp_in_nI he hl2) ?_
  rw [nI_clamp (by omega)]
  exact w
theorem wm_iast {k e x len a : Nat} (hc : (xm_code y)[i]? = some .iastore) (hX : MX o n f h0 h) (h1 : 0 < k) (h2 : k < 12) (hty : mo_ty k = 0) (hl : mo_len k = len) (ha : o + k = a) (he : e < len) (hl2 : len < 2 ^ 31) (w : ∀ h' : xm_S, MX o n (fU f k e x) h0 h' → xm_wp sc d y (i + 1) ls r h' Q) : xm_wp sc d y i ls (.int (nI x) :: .int (nI e) :: .ref a :: r) h Q := by
  subst ha
  have h3 := hX.1.2 k h1 h2
  have h4 := hX.putF h1 h2 (e := e) (x := x)
  rw [hty, hl] at h3 h4
  refine wp_iast hc h3 (vp_in_nI he hl2) ?_
  rw [nI_clamp (by omega)]
  exact w _ h4
theorem wm_bast {k e x len a : Nat} (hc : (xm_code y)[i]? = some .bastore) (hX : MX o n f h0 h) (h1 : 0 < k) (h2 : k < 12) (hty : mo_ty k = 1) (hl : mo_len k = len) (ha : o + k = a) (he : e < len) (hl2 : len < 2 ^ 31) (hx : x ≤ 1) (w : ∀ h' : xm_S, MX o n (fU f k e x) h0 h' → xm_wp sc d y (i + 1) ls r h' Q) : xm_wp sc d y i ls (.int (nI x) :: .int (nI e) :: .ref a :: r) h Q := by
  subst ha
  have h3 := hX.1.2 k h1 h2
  have h4 := hX.putF h1 h2 (e := e) (x := x)
  rw [hty, hl] at h3 h4
  refine wp_bast hc h3 (vp_in_nI he hl2) ?_
  rw [nI_clamp (by omega), show vp_nar .boolean (nI x) = nI x by rcases (show x = 0 ∨ x = 1 by omega) with q | q <;> subst q <;> decide]
  exact w _ h4
theorem wm_put {k x : Nat} (hc : (xm_code y)[i]? = some (.putfield k)) (hX : MX o n f h0 h) (hk : k < 17) (hn : narrow (xc_ty 0 k) (.int (nI x)) = .int (nI x)) (hf : fits (xc_ty 0 k) (.int (nI x)) = true) (he : (mo_list o n).set k (.int (nI x)) = mo_list o (nU n k x)) (w : ∀ h' : xm_S, MX o (nU n k x) f h0 h' → xm_wp sc d y (i + 1) ls r h' Q) : xm_wp sc d y i ls (.int (nI x) :: .ref o :: r) h Q := by
  have e1 : k / 32 = 0 := by omega
  have e2 : k % 32 = k := by omega
  refine wp_putf (fs := mo_list o n) hc (by rw [e1]; exact hX.1.1) (by rw [e2]; exact hk) (by rw [e1, e2]; exact hn) (by rw [e1, e2]; exact hf) ?_
  rw [e1, e2, he]
  exact w _ hX.putI
end WM
end
section
/-! ===== the reference: small methods ===== -/
theorem xn_pow {a b : Nat} (h : a ≤ b) : 2 ^ a ≤ 2 ^ b := Nat.pow_le_pow_right (by decide) h
theorem xn_p12 {a : Nat} (h : a ≤ 12) : 2 ^ a ≤ 4096 := xn_pow h
section ML
variable {sc : Nat × Nat × (Nat → Int32)} {d o : Nat} {h h0 : xm_S} {Q : Option Value → xm_S → Prop} {n : Nat → Nat} {f : Nat → Nat → Nat}
theorem m_mask {a : Nat} (ha : a < 31) (hQ : Q (some (.int (nI (2 ^ a - 1)))) h) : xm_wp sc (d) 24 0 [some (.int (nI a))] [] h Q := by
  refine wn_const (i := 0) (n := 1) rfl rfl ?_
  refine wn_iload (i := 1) rfl rfl ?_
  refine wn_ishl (i := 2) (a := 1) (b := a) rfl (by omega) (by rw [Nat.one_mul]; exact Nat.lt_trans (Nat.pow_lt_pow_right (by omega) ha) (by decide)) ?_
  rw [show 1 * 2 ^ a = 2 ^ a from Nat.one_mul _]
  refine wn_const (i := 3) (n := 1) rfl rfl ?_
  refine wn_isub (i := 4) (a := (2 ^ a)) (b := 1) rfl (Nat.two_pow_pos a) ?_
  exact wn_ret (i := 5) rfl rfl (hQ)
theorem m_all  (hX : MX o n f h0 h) (hb : n 4 ≤ 12) (hQ : Q (some (.int (nI (2 ^ n 4)))) h) : xm_wp sc (d) 3 0 [some (.ref o)] [] h Q := by
  refine wn_const (i := 0) (n := 1) rfl rfl ?_
  refine wn_aload (i := 1) rfl rfl ?_
  refine wp_get (i := 2) (n := 4) (a := o) (v := .int (nI (n 4))) rfl hX.1.1 rfl ?_
  refine wn_ishl (i := 3) (a := 1) (b := (n 4)) rfl (by omega) (by rw [Nat.one_mul]; exact Nat.lt_of_le_of_lt (xn_p12 hb) (by decide)) ?_
  rw [show 1 * 2 ^ (n 4) = 2 ^ n 4 from Nat.one_mul _]
  exact wn_ret (i := 4) rfl rfl (hQ)
theorem m_by {a x : Nat} (hX : MX o n f h0 h) (hb : 4096 * a + x < 98304) (hQ : Q (some (.int (nI (f 3 (4096 * a + x))))) h) : xm_wp sc (d) 7 0 [some (.ref o), some (.int (nI a)), some (.int (nI x))] [] h Q := by
  refine wn_aload (i := 0) rfl rfl ?_
  refine wp_get (i := 1) (n := 3) (a := o) (v := .ref (o + 3)) rfl hX.1.1 rfl ?_
  refine wn_const (i := 2) (n := 4096) rfl rfl ?_
  refine wn_iload (i := 3) rfl rfl ?_
  refine wn_imul (i := 4) (a := 4096) (b := a) rfl ?_
  refine wn_iload (i := 5) rfl rfl ?_
  refine wn_iadd (i := 6) (a := (4096 * a)) (b := x) rfl ?_
  refine wm_iald (i := 7) (k := 3) (e := ((4096 * a) + x)) (len := 98304) rfl hX (by decide) (by decide) rfl rfl rfl (by omega) (by decide) ?_
  exact wn_ret (i := 8) rfl rfl (hQ)
theorem m_isIn {v lo hi : Int32} (hQ1 : lo ≤ v → v ≤ hi → Q (some (.int (nI 1))) h) (hQ0 : ¬ (lo ≤ v ∧ v ≤ hi) → Q (some (.int (nI 0))) h) : xm_wp sc (d) 20 0 [some (.int v), some (.int lo), some (.int hi)] [] h Q := by
  refine wn_iload (i := 0) rfl rfl ?_
  refine wn_iload (i := 1) rfl rfl ?_
  refine wi_ic_lt (i := 2) (a := v) (b := lo) (t' := 8) rfl rfl (fun c2 => ?_) (fun c2 => ?_)
  · skip
    refine wn_const (i := 8) (n := 0) rfl rfl ?_
    exact wn_retZ (i := 9) rfl (by decide) (hQ0 (fun q => by first | exact absurd q.1 (Int32.not_le.mpr c2) | exact absurd q.2 (Int32.not_le.mpr c5)))
  · skip
    refine wn_iload (i := 3) rfl rfl ?_
    refine wn_iload (i := 4) rfl rfl ?_
    refine wi_ic_gt (i := 5) (a := v) (b := hi) (t' := 8) rfl rfl (fun c5 => ?_) (fun c5 => ?_)
    · skip
      refine wn_const (i := 8) (n := 0) rfl rfl ?_
      exact wn_retZ (i := 9) rfl (by decide) (hQ0 (fun q => by first | exact absurd q.1 (Int32.not_le.mpr c2) | exact absurd q.2 (Int32.not_le.mpr c5)))
    · skip
      refine wn_const (i := 6) (n := 1) rfl rfl ?_
      refine wn_goto (i := 7) (t' := 9) rfl rfl ?_
      exact wn_retZ (i := 9) rfl (by decide) (hQ1 (Int32.not_lt.mp c2) (Int32.not_lt.mp c5))
theorem xn_has {T : Nat} {a : Int32} (hT : T < 2 ^ 30) (h1 : nI 0 ≤ a) (h2 : a ≤ nI T - nI 1) : ∃ j : Nat, j < T ∧ a = nI j := by
  obtain ⟨j, hj, rfl⟩ := nI_of (Int32.not_lt.mpr h1)
  refine ⟨j, ?_, rfl⟩
  have h3 := Int32.le_iff_toInt_le.mp h2
  rw [nI_toInt hj, pk_sub_toInt hT (by decide)] at h3
  omega
theorem m_has {a : Int32} (hX : MX o n f h0 h) (hT : n 0 ≤ 24) (hQ1 : ∀ j, j < n 0 → a = nI j → Q (some (.int (nI 1))) h) (hQ0 : (∀ j, j < n 0 → a ≠ nI j) → Q (some (.int (nI 0))) h) : xm_wp sc (d + 1) 19 0 [some (.ref o), some (.int a)] [] h Q := by
  refine wn_iload (i := 0) rfl rfl ?_
  refine wn_const (i := 1) (n := 0) rfl rfl ?_
  refine wn_aload (i := 2) rfl rfl ?_
  refine wp_get (i := 3) (n := 0) (a := o) (v := .int (nI (n 0))) rfl hX.1.1 rfl ?_
  refine wn_const (i := 4) (n := 1) rfl rfl ?_
  refine wi_isub (i := 5) (a := (nI (n 0))) (b := (nI 1)) rfl ?_
  refine wn_calls (i := 6) (as := [.int a, .int (nI 0), .int ((nI (n 0)) - (nI 1))]) (rest := []) (es := [some (.int a), some (.int (nI 0)), some (.int ((nI (n 0)) - (nI 1)))]) rfl rfl (by decide) rfl rfl rfl (Nat.le_of_ble_eq_true rfl) rfl rfl ?_
  refine m_isIn (fun q1 q2 => ?_) (fun q0 => ?_)
  · skip
    obtain ⟨j, hj, ej⟩ := xn_has (by omega) q1 q2
    show xm_wp sc (d + 1) 19 7 [some (.ref o), some (.int a)] [.int (nI 1)] h Q
    exact wn_retZ (i := 7) rfl (by decide) (hQ1 j hj ej)
  · skip
    show xm_wp sc (d + 1) 19 7 [some (.ref o), some (.int a)] [.int (nI 0)] h Q
    exact wn_retZ (i := 7) rfl (by decide) (hQ0 (fun j hj ej => q0 ⟨by rw [ej]; exact nI_pos' (by omega), by rw [ej, show nI (n 0) - nI 1 = nI (n 0 - 1) from pk_sub (by omega)]; exact nI_le (by omega) (by omega)⟩))
theorem m_add {s b : Nat} (hX : MX o n f h0 h) (hT : n 0 < 24) (hb : b ≤ 1) (hQ : ∀ h' : xm_S, MX o (nU n 0 (n 0 + 1)) (fU (fU f 1 (n 0) s) 2 (n 0) b) h0 h' → Q (some (.int (nI (n 0)))) h') : xm_wp sc (d) 2 0 [some (.ref o), some (.int (nI s)), some (.int (nI b))] [] h Q := by
  refine wn_aload (i := 0) rfl rfl ?_
  refine wp_get (i := 1) (n := 1) (a := o) (v := .ref (o + 1)) rfl hX.1.1 rfl ?_
  refine wn_aload (i := 2) rfl rfl ?_
  refine wp_get (i := 3) (n := 0) (a := o) (v := .int (nI (n 0))) rfl hX.1.1 rfl ?_
  refine wn_iload (i := 4) rfl rfl ?_
  refine wm_iast (i := 5) (k := 1) (e := (n 0)) (x := s) (len := 24) rfl hX (by decide) (by decide) rfl rfl rfl (by omega) (by decide) (fun h_5 hX_5 => ?_)
  refine wn_aload (i := 6) rfl rfl ?_
  refine wp_get (i := 7) (n := 2) (a := o) (v := .ref (o + 2)) rfl hX_5.1.1 rfl ?_
  refine wn_aload (i := 8) rfl rfl ?_
  refine wp_get (i := 9) (n := 0) (a := o) (v := .int (nI (n 0))) rfl hX_5.1.1 rfl ?_
  refine wn_iload (i := 10) rfl rfl ?_
  refine wm_bast (i := 11) (k := 2) (e := (n 0)) (x := b) (len := 24) rfl hX_5 (by decide) (by decide) rfl rfl rfl (by omega) (by decide) (by omega) (fun h_11 hX_11 => ?_)
  refine wn_aload (i := 12) rfl rfl ?_
  refine wn_dup (i := 13) rfl ?_
  refine wp_get (i := 14) (n := 0) (a := o) (v := .int (nI (n 0))) rfl hX_11.1.1 rfl ?_
  refine wn_const (i := 15) (n := 1) rfl rfl ?_
  refine wn_iadd (i := 16) (a := (n 0)) (b := 1) rfl ?_
  refine wm_put (i := 17) (k := 0) (x := ((n 0) + 1)) rfl hX_11 (by decide) rfl rfl rfl (fun h_17 hX_17 => ?_)
  refine wn_aload (i := 18) rfl rfl ?_
  refine wp_get (i := 19) (n := 0) (a := o) (v := .int (nI ((nU n 0 ((n 0) + 1)) 0))) rfl hX_17.1.1 rfl ?_
  refine wn_const (i := 20) (n := 1) rfl rfl ?_
  refine wn_isub (i := 21) (a := ((nU n 0 ((n 0) + 1)) 0)) (b := 1) rfl (by simp [nU]) ?_
  rw [show ((nU n 0 ((n 0) + 1)) 0) - 1 = n 0 from by simp [nU]]
  exact wn_ret (i := 22) rfl rfl (hQ _ hX_17)
end ML
end
section
/-! ===== the reference: which assignments are models ===== -/
def kC (f : Nat → Nat → Nat) (x : Nat) : Nat → Bool
  | 0 => true
  | k + 1 => kC f x k && decide (f 3 (4096 * f 4 k + x) = 1)
def kA (f : Nat → Nat → Nat) (x : Nat) : Nat → Bool
  | 0 => true
  | k + 1 => kA f x k && (decide (f 7 k ≠ 0) || decide (f 3 (4096 * f 5 k + x) = 1))
def mB (n : Nat → Nat) (f : Nat → Nat → Nat) (x : Nat) : Bool := kC f x (n 5) && kA f x (n 7)
/-- how many models there are below x -/
def cM (n : Nat → Nat) (f : Nat → Nat → Nat) : Nat → Nat
  | 0 => 0
  | x + 1 => cM n f x + (mB n f x).toNat
theorem cM_le (n : Nat → Nat) (f : Nat → Nat → Nat) : ∀ x, cM n f x ≤ x
  | 0 => Nat.le_refl _
  | x + 1 => by
    have := cM_le n f x
    have h2 : (mB n f x).toNat ≤ 1 := Bool.toNat_le _
    show cM n f x + _ ≤ x + 1
    omega
/-- what the reference keeps to, as far as its values' places go -/
def MB (n : Nat → Nat) (f : Nat → Nat → Nat) : Prop := n 0 ≤ 24 ∧ n 4 ≤ 12 ∧ n 5 ≤ 16 ∧ n 7 ≤ 8 ∧ (∀ k, k < n 5 → f 4 k < 24) ∧ (∀ k, k < n 7 → f 5 k < 24) ∧ (∀ k, k < 8 → f 7 k ≤ 1) ∧ ∀ j, j < 98304 → f 3 j < 4096
theorem xn_tn (b : Bool) : b.toNat ≤ 1 := Bool.toNat_le _
section WB
variable {sc : Nat × Nat × (Nat → Int32)} {d y i : Nat} {ls : xm_L} {r : List Value} {h : xm_S} {Q : Option Value → xm_S → Prop}
theorem wb_if_eq {b : Bool} {t' : Nat} {t : Int} (hc : (xm_code y)[i]? = some (.ifCond .eq t)) (ht : t.toNat = t') (kt : b = false → xm_wp sc d y t' ls r h Q) (kf : b = true → xm_wp sc d y (i + 1) ls r h Q) : xm_wp sc d y i ls (.int (nI b.toNat) :: r) h Q := by
  refine wn_if_eq hc ht (by have := xn_tn b; omega) (fun q => kt ?_) (fun q => kf ?_) <;> cases b <;> simp_all
theorem wb_if_ne {b : Bool} {t' : Nat} {t : Int} (hc : (xm_code y)[i]? = some (.ifCond .ne t)) (ht : t.toNat = t') (kt : b = true → xm_wp sc d y t' ls r h Q) (kf : b = false → xm_wp sc d y (i + 1) ls r h Q) : xm_wp sc d y i ls (.int (nI b.toNat) :: r) h Q := by
  refine wn_if_ne hc ht (by have := xn_tn b; omega) (fun q => kt ?_) (fun q => kf ?_) <;> cases b <;> simp_all
end WB
section MM
variable {sc : Nat × Nat × (Nat → Int32)} {d o : Nat} {h h0 : xm_S} {Q : Option Value → xm_S → Prop} {n : Nat → Nat} {f : Nat → Nat → Nat}
theorem l_isModel2 (hX : MX o n f h0 h) (hb : MB n f) {x : Nat} (hx : x < 4096) (hQ : Q (some (.int (nI (mB n f x).toNat))) h) : ∀ (m : Nat) (k b : Nat), k ≤ n 7 → n 7 < k + m → b = (kC f x (n 5) && kA f x k).toNat → xm_wp sc (d + 1) 21 27 [some (.ref o), some (.int (nI x)), some (.int (nI b)), some (.int (nI k))] [] h Q := by
  intro m
  induction m with
  | zero => intro k b h1 h2; exact absurd h2 (by omega)
  | succ m ih =>
    intro k b h1 h2 eb
    obtain ⟨b0, b4, b5, b7, bc, ba, bl, bn⟩ := id hb
    subst eb
    refine wn_iload (i := 27) rfl rfl ?_
    refine wn_aload (i := 28) rfl rfl ?_
    refine wp_get (i := 29) (n := 7) (a := o) (v := .int (nI (n 7))) rfl hX.1.1 rfl ?_
    refine wn_ic_ge (i := 30) (a := k) (b := (n 7)) (t' := 53) rfl rfl (by omega) (by omega) (fun c30 => ?_) (fun c30 => ?_)
    · skip
      refine wn_iload (i := 53) rfl rfl ?_
      have ek : k = n 7 := by omega
      subst ek
      exact wn_retZ (i := 54) rfl (xn_tn _) hQ
    · skip
      refine wn_iload (i := 31) rfl rfl ?_
      refine wb_if_eq (i := 32) (b := (kC f x (n 5) && kA f x k)) (t' := 49) rfl rfl (fun c32 => ?_) (fun c32 => ?_)
      · skip
        refine wn_const (i := 49) (n := 0) rfl rfl ?_
        refine wn_istore (i := 50) (ls' := [some (.ref o), some (.int (nI x)), some (.int (nI 0)), some (.int (nI k))]) rfl (Nat.le_of_ble_eq_true rfl) rfl ?_
        refine wn_iinc (i := 51) (x := k) (n := 1) (ls' := [some (.ref o), some (.int (nI x)), some (.int (nI 0)), some (.int (nI (k + 1)))]) rfl rfl rfl rfl ?_
        refine wn_goto (i := 52) (t' := 27) rfl rfl ?_
        exact ih (k + 1) 0 (by omega) (by omega) (by simp [kA, ← Bool.and_assoc, c32])
      · skip
        have hbl := bl k (by omega)
        refine wn_aload (i := 33) rfl rfl ?_
        refine wp_get (i := 34) (n := 11) (a := o) (v := .ref (o + 7)) rfl hX.1.1 rfl ?_
        refine wn_iload (i := 35) rfl rfl ?_
        refine wm_bald (i := 36) (k := 7) (e := k) (len := 8) rfl hX (by decide) (by decide) rfl rfl rfl (by omega) (by decide) ?_
        refine wn_if_ne (i := 37) (a := (f 7 k)) (t' := 47) rfl rfl (by omega) (fun c37 => ?_) (fun c37 => ?_)
        · skip
          refine wn_const (i := 47) (n := 1) rfl rfl ?_
          refine wn_goto (i := 48) (t' := 50) rfl rfl ?_
          refine wn_istore (i := 50) (ls' := [some (.ref o), some (.int (nI x)), some (.int (nI 1)), some (.int (nI k))]) rfl (Nat.le_of_ble_eq_true rfl) rfl ?_
          refine wn_iinc (i := 51) (x := k) (n := 1) (ls' := [some (.ref o), some (.int (nI x)), some (.int (nI 1)), some (.int (nI (k + 1)))]) rfl rfl rfl rfl ?_
          refine wn_goto (i := 52) (t' := 27) rfl rfl ?_
          exact ih (k + 1) 1 (by omega) (by omega) (by simp [kA, ← Bool.and_assoc, c32, c37])
        · skip
          have hba := ba k (by omega)
          have hbn := bn (4096 * f 5 k + x) (by omega)
          refine wn_aload (i := 38) rfl rfl ?_
          refine wn_aload (i := 39) rfl rfl ?_
          refine wp_get (i := 40) (n := 8) (a := o) (v := .ref (o + 5)) rfl hX.1.1 rfl ?_
          refine wn_iload (i := 41) rfl rfl ?_
          refine wm_iald (i := 42) (k := 5) (e := k) (len := 8) rfl hX (by decide) (by decide) rfl rfl rfl (by omega) (by decide) ?_
          refine wn_iload (i := 43) rfl rfl ?_
          refine wn_callv (i := 44) (as := [.int (nI (f 5 k)), .int (nI x)]) (b := o) (rest := []) (es := [some (.ref o), some (.int (nI (f 5 k))), some (.int (nI x))]) rfl rfl rfl rfl rfl (Nat.le_of_ble_eq_true rfl) rfl hX.1.1 rfl ?_
          refine m_by hX (by omega) ?_
          show xm_wp sc (d + 1) 21 45 [some (.ref o), some (.int (nI x)), some (.int (nI (kC f x (n 5) && kA f x k).toNat)), some (.int (nI k))] [.int (nI (f 3 (4096 * (f 5 k) + x)))] h Q
          refine wn_const (i := 45) (n := 1) rfl rfl ?_
          refine wn_ic_ne (i := 46) (a := (f 3 (4096 * (f 5 k) + x))) (b := 1) (t' := 49) rfl rfl (by omega) (by omega) (fun c46 => ?_) (fun c46 => ?_)
          · skip
            refine wn_const (i := 49) (n := 0) rfl rfl ?_
            refine wn_istore (i := 50) (ls' := [some (.ref o), some (.int (nI x)), some (.int (nI 0)), some (.int (nI k))]) rfl (Nat.le_of_ble_eq_true rfl) rfl ?_
            refine wn_iinc (i := 51) (x := k) (n := 1) (ls' := [some (.ref o), some (.int (nI x)), some (.int (nI 0)), some (.int (nI (k + 1)))]) rfl rfl rfl rfl ?_
            refine wn_goto (i := 52) (t' := 27) rfl rfl ?_
            exact ih (k + 1) 0 (by omega) (by omega) (by simp [kA, ← Bool.and_assoc, c32, c37, c46])
          · skip
            refine wn_const (i := 47) (n := 1) rfl rfl ?_
            refine wn_goto (i := 48) (t' := 50) rfl rfl ?_
            refine wn_istore (i := 50) (ls' := [some (.ref o), some (.int (nI x)), some (.int (nI 1)), some (.int (nI k))]) rfl (Nat.le_of_ble_eq_true rfl) rfl ?_
            refine wn_iinc (i := 51) (x := k) (n := 1) (ls' := [some (.ref o), some (.int (nI x)), some (.int (nI 1)), some (.int (nI (k + 1)))]) rfl rfl rfl rfl ?_
            refine wn_goto (i := 52) (t' := 27) rfl rfl ?_
            exact ih (k + 1) 1 (by omega) (by omega) (by simp [kA, ← Bool.and_assoc, c32, c37, c46])
theorem l_isModel1 (hX : MX o n f h0 h) (hb : MB n f) {x : Nat} (hx : x < 4096) (hQ : Q (some (.int (nI (mB n f x).toNat))) h) : ∀ (m : Nat) (k b : Nat), k ≤ n 5 → n 5 < k + m → b = (kC f x k).toNat → xm_wp sc (d + 1) 21 4 [some (.ref o), some (.int (nI x)), some (.int (nI b)), some (.int (nI k))] [] h Q := by
  intro m
  induction m with
  | zero => intro k b h1 h2; exact absurd h2 (by omega)
  | succ m ih =>
    intro k b h1 h2 eb
    obtain ⟨b0, b4, b5, b7, bc, ba, bl, bn⟩ := id hb
    subst eb
    refine wn_iload (i := 4) rfl rfl ?_
    refine wn_aload (i := 5) rfl rfl ?_
    refine wp_get (i := 6) (n := 5) (a := o) (v := .int (nI (n 5))) rfl hX.1.1 rfl ?_
    refine wn_ic_ge (i := 7) (a := k) (b := (n 5)) (t' := 25) rfl rfl (by omega) (by omega) (fun c7 => ?_) (fun c7 => ?_)
    · skip
      refine wn_const (i := 25) (n := 0) rfl rfl ?_
      refine wn_istore (i := 26) (ls' := [some (.ref o), some (.int (nI x)), some (.int (nI (kC f x k).toNat)), some (.int (nI 0))]) rfl (Nat.le_of_ble_eq_true rfl) rfl ?_
      exact l_isModel2 hX hb hx hQ (n 7 + 1) 0 _ (by omega) (by omega) (by rw [show k = n 5 by omega]; simp [kA])
    · skip
      refine wn_iload (i := 8) rfl rfl ?_
      refine wb_if_eq (i := 9) (b := (kC f x k)) (t' := 21) rfl rfl (fun c9 => ?_) (fun c9 => ?_)
      · skip
        refine wn_const (i := 21) (n := 0) rfl rfl ?_
        refine wn_istore (i := 22) (ls' := [some (.ref o), some (.int (nI x)), some (.int (nI 0)), some (.int (nI k))]) rfl (Nat.le_of_ble_eq_true rfl) rfl ?_
        refine wn_iinc (i := 23) (x := k) (n := 1) (ls' := [some (.ref o), some (.int (nI x)), some (.int (nI 0)), some (.int (nI (k + 1)))]) rfl rfl rfl rfl ?_
        refine wn_goto (i := 24) (t' := 4) rfl rfl ?_
        exact ih (k + 1) 0 (by omega) (by omega) (by simp [kC, c9])
      · skip
        have hbc := bc k (by omega)
        have hbn := bn (4096 * f 4 k + x) (by omega)
        refine wn_aload (i := 10) rfl rfl ?_
        refine wn_aload (i := 11) rfl rfl ?_
        refine wp_get (i := 12) (n := 6) (a := o) (v := .ref (o + 4)) rfl hX.1.1 rfl ?_
        refine wn_iload (i := 13) rfl rfl ?_
        refine wm_iald (i := 14) (k := 4) (e := k) (len := 16) rfl hX (by decide) (by decide) rfl rfl rfl (by omega) (by decide) ?_
        refine wn_iload (i := 15) rfl rfl ?_
        refine wn_callv (i := 16) (as := [.int (nI (f 4 k)), .int (nI x)]) (b := o) (rest := []) (es := [some (.ref o), some (.int (nI (f 4 k))), some (.int (nI x))]) rfl rfl rfl rfl rfl (Nat.le_of_ble_eq_true rfl) rfl hX.1.1 rfl ?_
        refine m_by hX (by omega) ?_
        show xm_wp sc (d + 1) 21 17 [some (.ref o), some (.int (nI x)), some (.int (nI (kC f x k).toNat)), some (.int (nI k))] [.int (nI (f 3 (4096 * (f 4 k) + x)))] h Q
        refine wn_const (i := 17) (n := 1) rfl rfl ?_
        refine wn_ic_ne (i := 18) (a := (f 3 (4096 * (f 4 k) + x))) (b := 1) (t' := 21) rfl rfl (by omega) (by omega) (fun c18 => ?_) (fun c18 => ?_)
        · skip
          refine wn_const (i := 21) (n := 0) rfl rfl ?_
          refine wn_istore (i := 22) (ls' := [some (.ref o), some (.int (nI x)), some (.int (nI 0)), some (.int (nI k))]) rfl (Nat.le_of_ble_eq_true rfl) rfl ?_
          refine wn_iinc (i := 23) (x := k) (n := 1) (ls' := [some (.ref o), some (.int (nI x)), some (.int (nI 0)), some (.int (nI (k + 1)))]) rfl rfl rfl rfl ?_
          refine wn_goto (i := 24) (t' := 4) rfl rfl ?_
          exact ih (k + 1) 0 (by omega) (by omega) (by simp [kC, c9, c18])
        · skip
          refine wn_const (i := 19) (n := 1) rfl rfl ?_
          refine wn_goto (i := 20) (t' := 22) rfl rfl ?_
          refine wn_istore (i := 22) (ls' := [some (.ref o), some (.int (nI x)), some (.int (nI 1)), some (.int (nI k))]) rfl (Nat.le_of_ble_eq_true rfl) rfl ?_
          refine wn_iinc (i := 23) (x := k) (n := 1) (ls' := [some (.ref o), some (.int (nI x)), some (.int (nI 1)), some (.int (nI (k + 1)))]) rfl rfl rfl rfl ?_
          refine wn_goto (i := 24) (t' := 4) rfl rfl ?_
          exact ih (k + 1) 1 (by omega) (by omega) (by simp [kC, c9, c18])
theorem m_isModel (hX : MX o n f h0 h) (hb : MB n f) {x : Nat} (hx : x < 4096) (hQ : Q (some (.int (nI (mB n f x).toNat))) h) : xm_wp sc (d + 1) 21 0 [some (.ref o), some (.int (nI x)), none, none] [] h Q := by
  refine wn_const (i := 0) (n := 1) rfl rfl ?_
  refine wn_istore (i := 1) (ls' := [some (.ref o), some (.int (nI x)), some (.int (nI 1)), none]) rfl (Nat.le_of_ble_eq_true rfl) rfl ?_
  refine wn_const (i := 2) (n := 0) rfl rfl ?_
  refine wn_istore (i := 3) (ls' := [some (.ref o), some (.int (nI x)), some (.int (nI 1)), some (.int (nI 0))]) rfl (Nat.le_of_ble_eq_true rfl) rfl ?_
  exact l_isModel1 hX hb hx hQ (n 5 + 1) 0 1 (by omega) (by omega) rfl
theorem l_models (hX : MX o n f h0 h) (hb : MB n f) (hQ : Q (some (.int (nI (cM n f (2 ^ n 4))))) h) : ∀ (m : Nat) (x : Nat), x ≤ 2 ^ n 4 → 2 ^ n 4 < x + m → xm_wp sc (d + 2) 25 4 [some (.ref o), some (.int (nI (cM n f x))), some (.int (nI x))] [] h Q := by
  intro m
  induction m with
  | zero => intro x h1 h2; exact absurd h2 (by omega)
  | succ m ih =>
    intro x h1 h2
    have hB := hb.2.1
    have hN := xn_p12 hB
    have hc := cM_le n f x
    refine wn_iload (i := 4) rfl rfl ?_
    refine wn_aload (i := 5) rfl rfl ?_
    refine wn_callv (i := 6) (as := []) (b := o) (rest := [.int (nI x)]) (es := [some (.ref o)]) rfl rfl rfl rfl rfl (Nat.le_of_ble_eq_true rfl) rfl hX.1.1 rfl ?_
    refine m_all hX hB ?_
    show xm_wp sc (d + 2) 25 7 [some (.ref o), some (.int (nI (cM n f x))), some (.int (nI x))] [.int (nI (2 ^ n 4)), .int (nI x)] h Q
    refine wn_ic_ge (i := 7) (a := x) (b := (2 ^ n 4)) (t' := 20) rfl rfl (by omega) (by omega) (fun c7 => ?_) (fun c7 => ?_)
    · skip
      have ex : x = 2 ^ n 4 := by omega
      subst ex
      refine wn_iload (i := 20) rfl rfl ?_
      exact wn_ret (i := 21) rfl rfl hQ
    · skip
      refine wn_iload (i := 8) rfl rfl ?_
      refine wn_aload (i := 9) rfl rfl ?_
      refine wn_iload (i := 10) rfl rfl ?_
      refine wn_callv (i := 11) (as := [.int (nI x)]) (b := o) (rest := [.int (nI (cM n f x))]) (es := [some (.ref o), some (.int (nI x)), none, none]) rfl rfl rfl rfl rfl (Nat.le_of_ble_eq_true rfl) rfl hX.1.1 rfl ?_
      refine m_isModel hX hb (by omega) ?_
      show xm_wp sc (d + 2) 25 12 [some (.ref o), some (.int (nI (cM n f x))), some (.int (nI x))] [.int (nI (mB n f x).toNat), .int (nI (cM n f x))] h Q
      refine wb_if_eq (i := 12) (b := (mB n f x)) (t' := 15) rfl rfl (fun c12 => ?_) (fun c12 => ?_)
      · skip
        refine wn_const (i := 15) (n := 0) rfl rfl ?_
        refine wn_iadd (i := 16) (a := (cM n f x)) (b := 0) rfl ?_
        refine wn_istore (i := 17) (ls' := [some (.ref o), some (.int (nI ((cM n f x) + 0))), some (.int (nI x))]) rfl (Nat.le_of_ble_eq_true rfl) rfl ?_
        refine wn_iinc (i := 18) (x := x) (n := 1) (ls' := [some (.ref o), some (.int (nI ((cM n f x) + 0))), some (.int (nI (x + 1)))]) rfl rfl rfl rfl ?_
        refine wn_goto (i := 19) (t' := 4) rfl rfl ?_
        rw [show (cM n f x) + 0 = cM n f (x + 1) by show _ = cM n f x + (mB n f x).toNat; rw [c12]; rfl]
        exact ih (x + 1) (by omega) (by omega)
      · skip
        refine wn_const (i := 13) (n := 1) rfl rfl ?_
        refine wn_goto (i := 14) (t' := 16) rfl rfl ?_
        refine wn_iadd (i := 16) (a := (cM n f x)) (b := 1) rfl ?_
        refine wn_istore (i := 17) (ls' := [some (.ref o), some (.int (nI ((cM n f x) + 1))), some (.int (nI x))]) rfl (Nat.le_of_ble_eq_true rfl) rfl ?_
        refine wn_iinc (i := 18) (x := x) (n := 1) (ls' := [some (.ref o), some (.int (nI ((cM n f x) + 1))), some (.int (nI (x + 1)))]) rfl rfl rfl rfl ?_
        refine wn_goto (i := 19) (t' := 4) rfl rfl ?_
        rw [show (cM n f x) + 1 = cM n f (x + 1) by show _ = cM n f x + (mB n f x).toNat; rw [c12]; rfl]
        exact ih (x + 1) (by omega) (by omega)
theorem m_models (hX : MX o n f h0 h) (hb : MB n f) (hQ : Q (some (.int (nI (cM n f (2 ^ n 4))))) h) : xm_wp sc (d + 2) 25 0 [some (.ref o), none, none] [] h Q := by
  refine wn_const (i := 0) (n := 0) rfl rfl ?_
  refine wn_istore (i := 1) (ls' := [some (.ref o), some (.int (nI 0)), none]) rfl (Nat.le_of_ble_eq_true rfl) rfl ?_
  refine wn_const (i := 2) (n := 0) rfl rfl ?_
  refine wn_istore (i := 3) (ls' := [some (.ref o), some (.int (nI 0)), some (.int (nI 0))]) rfl (Nat.le_of_ble_eq_true rfl) rfl ?_
  exact l_models hX hb hQ (2 ^ n 4 + 1) 0 (Nat.zero_le _) (by omega)
end MM
end
section
/-! ===== the reference: its calls that change little ===== -/
section MM
variable {sc : Nat × Nat × (Nat → Int32)} {d o : Nat} {h h0 : xm_S} {Q : Option Value → xm_S → Prop} {n : Nat → Nat} {f : Nat → Nat → Nat}
theorem m_bits (hX : MX o n f h0 h) (hT : n 0 ≤ 24) {a : Int32} (hs : ∀ t, t < n 0 → f 1 t ≤ 12) (hQ1 : ∀ j, j < n 0 → a = nI j → Q (some (.int (nI (f 1 j)))) h) (hQ0 : (∀ j, j < n 0 → a ≠ nI j) → Q (some (.int (-2))) h) : xm_wp sc (d + 2) 5 0 [some (.ref o), some (.int a)] [] h Q := by
  refine wn_aload (i := 0) rfl rfl ?_
  refine wn_iload (i := 1) rfl rfl ?_
  refine wn_callv (i := 2) (as := [.int a]) (b := o) (rest := []) (es := [some (.ref o), some (.int a)]) rfl rfl rfl rfl rfl (Nat.le_of_ble_eq_true rfl) rfl hX.1.1 rfl ?_
  refine m_has hX hT (fun j hj ej => ?_) (fun hno2 => ?_)
  · skip
    subst ej
    show xm_wp sc (d + 2) 5 3 [some (.ref o), some (.int (nI j))] [.int (nI (true).toNat)] h Q
    refine wb_if_eq (i := 3) (b := true) (t' := 9) rfl rfl (fun c3 => ?_) (fun c3 => ?_)
    · cases c3
    · skip
      refine wn_aload (i := 4) rfl rfl ?_
      refine wp_get (i := 5) (n := 1) (a := o) (v := .ref (o + 1)) rfl hX.1.1 rfl ?_
      refine wn_iload (i := 6) rfl rfl ?_
      refine wm_iald (i := 7) (k := 1) (e := j) (len := 24) rfl hX (by decide) (by decide) rfl rfl rfl (by omega) (by decide) ?_
      refine wn_goto (i := 8) (t' := 10) rfl rfl ?_
      first | exact wn_ret (i := 10) rfl rfl (hQ1 j hj rfl) | exact wn_ret (i := 10) rfl rfl (hQ0 hno2) | cases c3
  · skip
    show xm_wp sc (d + 2) 5 3 [some (.ref o), some (.int a)] [.int (nI (false).toNat)] h Q
    refine wb_if_eq (i := 3) (b := false) (t' := 9) rfl rfl (fun c3 => ?_) (fun c3 => ?_)
    · skip
      refine wn_constI (i := 9) (n := -2) rfl rfl ?_
      first | exact wn_ret (i := 10) rfl rfl (hQ1 j hj rfl) | exact wn_ret (i := 10) rfl rfl (hQ0 hno2) | cases c3
    · cases c3
theorem m_clear (hX : MX o n f h0 h) (hQ : ∀ h' : xm_S, MX o (nU (nU (nU (nU (nU n 0 0) 4 0) 5 0) 7 0) 9 0) f h0 h' → Q (some (.int (nI (n 0)))) h') : xm_wp sc (d) 11 0 [some (.ref o), none] [] h Q := by
  refine wn_aload (i := 0) rfl rfl ?_
  refine wp_get (i := 1) (n := 0) (a := o) (v := .int (nI (n 0))) rfl hX.1.1 rfl ?_
  refine wn_istore (i := 2) (ls' := [some (.ref o), some (.int (nI (n 0)))]) rfl (Nat.le_of_ble_eq_true rfl) rfl ?_
  refine wn_aload (i := 3) rfl rfl ?_
  refine wn_const (i := 4) (n := 0) rfl rfl ?_
  refine wm_put (i := 5) (k := 0) (x := 0) rfl hX (by decide) rfl rfl rfl (fun h_5 hX_5 => ?_)
  refine wn_aload (i := 6) rfl rfl ?_
  refine wn_const (i := 7) (n := 0) rfl rfl ?_
  refine wm_put (i := 8) (k := 4) (x := 0) rfl hX_5 (by decide) rfl rfl rfl (fun h_8 hX_8 => ?_)
  refine wn_aload (i := 9) rfl rfl ?_
  refine wn_const (i := 10) (n := 0) rfl rfl ?_
  refine wm_put (i := 11) (k := 5) (x := 0) rfl hX_8 (by decide) rfl rfl rfl (fun h_11 hX_11 => ?_)
  refine wn_aload (i := 12) rfl rfl ?_
  refine wn_const (i := 13) (n := 0) rfl rfl ?_
  refine wm_put (i := 14) (k := 7) (x := 0) rfl hX_11 (by decide) rfl rfl rfl (fun h_14 hX_14 => ?_)
  refine wn_aload (i := 15) rfl rfl ?_
  refine wn_const (i := 16) (n := 0) rfl rfl ?_
  refine wm_put (i := 17) (k := 9) (x := 0) rfl hX_14 (by decide) rfl rfl rfl (fun h_17 hX_17 => ?_)
  refine wn_iload (i := 18) rfl rfl ?_
  exact wn_ret (i := 19) rfl rfl (hQ _ hX_17)
theorem m_release (hX : MX o n f h0 h) (hQ : ∀ h' : xm_S, MX o (nU n 7 0) f h0 h' → Q (some (.int (nI (n 7)))) h') : xm_wp sc (d) 28 0 [some (.ref o), none] [] h Q := by
  refine wn_aload (i := 0) rfl rfl ?_
  refine wp_get (i := 1) (n := 7) (a := o) (v := .int (nI (n 7))) rfl hX.1.1 rfl ?_
  refine wn_istore (i := 2) (ls' := [some (.ref o), some (.int (nI (n 7)))]) rfl (Nat.le_of_ble_eq_true rfl) rfl ?_
  refine wn_aload (i := 3) rfl rfl ?_
  refine wn_const (i := 4) (n := 0) rfl rfl ?_
  refine wm_put (i := 5) (k := 7) (x := 0) rfl hX (by decide) rfl rfl rfl (fun h_5 hX_5 => ?_)
  refine wn_iload (i := 6) rfl rfl ?_
  exact wn_ret (i := 7) rfl rfl (hQ _ hX_5)
theorem m_push (hX : MX o n f h0 h) (hl : n 9 ≤ 8) (hF : n 9 = 8 → Q (some (.int (-3))) h) (hQ : n 9 < 8 → ∀ h' : xm_S, MX o (nU n 9 (n 9 + 1)) (fU f 6 (n 9) (n 5)) h0 h' → Q (some (.int (nI (n 9 + 1)))) h') : xm_wp sc (d) 27 0 [some (.ref o)] [] h Q := by
  refine wn_aload (i := 0) rfl rfl ?_
  refine wp_get (i := 1) (n := 9) (a := o) (v := .int (nI (n 9))) rfl hX.1.1 rfl ?_
  refine wn_const (i := 2) (n := 8) rfl rfl ?_
  refine wn_ic_ne (i := 3) (a := (n 9)) (b := 8) (t' := 6) rfl rfl (by omega) (by omega) (fun c3 => ?_) (fun c3 => ?_)
  · skip
    refine wn_aload (i := 6) rfl rfl ?_
    refine wp_get (i := 7) (n := 10) (a := o) (v := .ref (o + 6)) rfl hX.1.1 rfl ?_
    refine wn_aload (i := 8) rfl rfl ?_
    refine wp_get (i := 9) (n := 9) (a := o) (v := .int (nI (n 9))) rfl hX.1.1 rfl ?_
    refine wn_aload (i := 10) rfl rfl ?_
    refine wp_get (i := 11) (n := 5) (a := o) (v := .int (nI (n 5))) rfl hX.1.1 rfl ?_
    refine wm_iast (i := 12) (k := 6) (e := (n 9)) (x := (n 5)) (len := 8) rfl hX (by decide) (by decide) rfl rfl rfl (by omega) (by decide) (fun h_12 hX_12 => ?_)
    refine wn_aload (i := 13) rfl rfl ?_
    refine wn_dup (i := 14) rfl ?_
    refine wp_get (i := 15) (n := 9) (a := o) (v := .int (nI (n 9))) rfl hX_12.1.1 rfl ?_
    refine wn_const (i := 16) (n := 1) rfl rfl ?_
    refine wn_iadd (i := 17) (a := (n 9)) (b := 1) rfl ?_
    refine wm_put (i := 18) (k := 9) (x := ((n 9) + 1)) rfl hX_12 (by decide) rfl rfl rfl (fun h_18 hX_18 => ?_)
    refine wn_aload (i := 19) rfl rfl ?_
    refine wp_get (i := 20) (n := 9) (a := o) (v := .int (nI ((nU n 9 ((n 9) + 1)) 9))) rfl hX_18.1.1 rfl ?_
    exact wn_ret (i := 21) rfl rfl (hQ (by omega) _ hX_18)
  · skip
    refine wn_constI (i := 4) (n := -3) rfl rfl ?_
    exact wn_ret (i := 5) rfl rfl (hF c3)
theorem m_pop (hX : MX o n f h0 h) (hl : n 9 ≤ 8) (hl2 : ∀ k, k < n 9 → f 6 k ≤ n 5) (hF : n 9 = 0 → Q (some (.int (-2))) h) (hQ : 0 < n 9 → ∀ h' : xm_S, MX o (nU (nU n 9 (n 9 - 1)) 5 (f 6 (n 9 - 1))) f h0 h' → Q (some (.int (nI (n 5 - f 6 (n 9 - 1))))) h') : xm_wp sc (d) 26 0 [some (.ref o), none] [] h Q := by
  refine wn_aload (i := 0) rfl rfl ?_
  refine wp_get (i := 1) (n := 9) (a := o) (v := .int (nI (n 9))) rfl hX.1.1 rfl ?_
  refine wn_if_ne (i := 2) (a := (n 9)) (t' := 5) rfl rfl (by omega) (fun c2 => ?_) (fun c2 => ?_)
  · skip
    refine wn_aload (i := 5) rfl rfl ?_
    refine wn_dup (i := 6) rfl ?_
    refine wp_get (i := 7) (n := 9) (a := o) (v := .int (nI (n 9))) rfl hX.1.1 rfl ?_
    refine wn_const (i := 8) (n := 1) rfl rfl ?_
    refine wn_isub (i := 9) (a := (n 9)) (b := 1) rfl (by omega) ?_
    refine wm_put (i := 10) (k := 9) (x := ((n 9) - 1)) rfl hX (by decide) rfl rfl rfl (fun h_10 hX_10 => ?_)
    have e9 : nU n 9 (n 9 - 1) 9 = n 9 - 1 := nU_same
    have e5 : nU n 9 (n 9 - 1) 5 = n 5 := nU_ne (by decide)
    refine wn_aload (i := 11) rfl rfl ?_
    refine wp_get (i := 12) (n := 5) (a := o) (v := .int (nI ((nU n 9 ((n 9) - 1)) 5))) rfl hX_10.1.1 rfl ?_
    refine wn_aload (i := 13) rfl rfl ?_
    refine wp_get (i := 14) (n := 10) (a := o) (v := .ref (o + 6)) rfl hX_10.1.1 rfl ?_
    refine wn_aload (i := 15) rfl rfl ?_
    refine wp_get (i := 16) (n := 9) (a := o) (v := .int (nI ((nU n 9 ((n 9) - 1)) 9))) rfl hX_10.1.1 rfl ?_
    refine wm_iald (i := 17) (k := 6) (e := ((nU n 9 ((n 9) - 1)) 9)) (len := 8) rfl hX_10 (by decide) (by decide) rfl rfl rfl (by simp [nU]; omega) (by decide) ?_
    refine wn_isub (i := 18) (a := ((nU n 9 ((n 9) - 1)) 5)) (b := (f 6 ((nU n 9 ((n 9) - 1)) 9))) rfl (by simp [nU]; exact hl2 _ (by omega)) ?_
    refine wn_istore (i := 19) (ls' := [some (.ref o), some (.int (nI (((nU n 9 ((n 9) - 1)) 5) - (f 6 ((nU n 9 ((n 9) - 1)) 9)))))]) rfl (Nat.le_of_ble_eq_true rfl) rfl ?_
    refine wn_aload (i := 20) rfl rfl ?_
    refine wn_aload (i := 21) rfl rfl ?_
    refine wp_get (i := 22) (n := 10) (a := o) (v := .ref (o + 6)) rfl hX_10.1.1 rfl ?_
    refine wn_aload (i := 23) rfl rfl ?_
    refine wp_get (i := 24) (n := 9) (a := o) (v := .int (nI ((nU n 9 ((n 9) - 1)) 9))) rfl hX_10.1.1 rfl ?_
    refine wm_iald (i := 25) (k := 6) (e := ((nU n 9 ((n 9) - 1)) 9)) (len := 8) rfl hX_10 (by decide) (by decide) rfl rfl rfl (by simp [nU]; omega) (by decide) ?_
    refine wm_put (i := 26) (k := 5) (x := (f 6 ((nU n 9 ((n 9) - 1)) 9))) rfl hX_10 (by decide) rfl rfl rfl (fun h_26 hX_26 => ?_)
    refine wn_iload (i := 27) rfl rfl ?_
    exact wn_ret (i := 28) rfl rfl (hQ (by omega) _ hX_26)
  · skip
    refine wn_constI (i := 3) (n := -2) rfl rfl ?_
    exact wn_ret (i := 4) rfl rfl (hF c2)
theorem m_claim (hX : MX o n f h0 h) (hT : n 0 ≤ 24) {a : Int32} (hs : ∀ t, t < n 0 → f 1 t ≤ 12) (hl : n 5 ≤ 16) (hBad : (∀ j, j < n 0 → a = nI j → f 1 j ≠ 1) → Q (some (.int (-2))) h) (hF : ∀ j, j < n 0 → a = nI j → f 1 j = 1 → n 5 = 16 → Q (some (.int (-3))) h) (hQ : ∀ j, j < n 0 → a = nI j → f 1 j = 1 → n 5 < 16 → ∀ h' : xm_S, MX o (nU n 5 (n 5 + 1)) (fU f 4 (n 5) j) h0 h' → Q (some (.int (nI (n 5 + 1)))) h') : xm_wp sc (d + 2) 10 0 [some (.ref o), some (.int a)] [] h Q := by
  refine wn_aload (i := 0) rfl rfl ?_
  refine wn_iload (i := 1) rfl rfl ?_
  refine wn_callv (i := 2) (as := [.int a]) (b := o) (rest := []) (es := [some (.ref o), some (.int a)]) rfl rfl rfl rfl rfl (Nat.le_of_ble_eq_true rfl) rfl hX.1.1 rfl ?_
  refine m_has hX hT (fun j hj ej => ?_) (fun hno2 => ?_)
  · skip
    subst ej
    show xm_wp sc (d + 2) 10 3 [some (.ref o), some (.int (nI j))] [.int (nI (true).toNat)] h Q
    refine wb_if_eq (i := 3) (b := true) (t' := 10) rfl rfl (fun c3 => ?_) (fun c3 => ?_)
    · cases c3
    · skip
      first | cases c3 | skip
      have hsj := hs _ hj
      refine wn_aload (i := 4) rfl rfl ?_
      refine wp_get (i := 5) (n := 1) (a := o) (v := .ref (o + 1)) rfl hX.1.1 rfl ?_
      refine wn_iload (i := 6) rfl rfl ?_
      refine wm_iald (i := 7) (k := 1) (e := j) (len := 24) rfl hX (by decide) (by decide) rfl rfl rfl (by omega) (by decide) ?_
      refine wn_const (i := 8) (n := 1) rfl rfl ?_
      refine wn_ic_eq (i := 9) (a := (f 1 j)) (b := 1) (t' := 12) rfl rfl (by omega) (by omega) (fun c9 => ?_) (fun c9 => ?_)
      · skip
        refine wn_aload (i := 12) rfl rfl ?_
        refine wp_get (i := 13) (n := 5) (a := o) (v := .int (nI (n 5))) rfl hX.1.1 rfl ?_
        refine wn_const (i := 14) (n := 16) rfl rfl ?_
        refine wn_ic_ne (i := 15) (a := (n 5)) (b := 16) (t' := 18) rfl rfl (by omega) (by omega) (fun c15 => ?_) (fun c15 => ?_)
        · skip
          refine wn_aload (i := 18) rfl rfl ?_
          refine wp_get (i := 19) (n := 6) (a := o) (v := .ref (o + 4)) rfl hX.1.1 rfl ?_
          refine wn_aload (i := 20) rfl rfl ?_
          refine wp_get (i := 21) (n := 5) (a := o) (v := .int (nI (n 5))) rfl hX.1.1 rfl ?_
          refine wn_iload (i := 22) rfl rfl ?_
          refine wm_iast (i := 23) (k := 4) (e := (n 5)) (x := j) (len := 16) rfl hX (by decide) (by decide) rfl rfl rfl (by omega) (by decide) (fun h_23 hX_23 => ?_)
          refine wn_aload (i := 24) rfl rfl ?_
          refine wn_dup (i := 25) rfl ?_
          refine wp_get (i := 26) (n := 5) (a := o) (v := .int (nI (n 5))) rfl hX_23.1.1 rfl ?_
          refine wn_const (i := 27) (n := 1) rfl rfl ?_
          refine wn_iadd (i := 28) (a := (n 5)) (b := 1) rfl ?_
          refine wm_put (i := 29) (k := 5) (x := ((n 5) + 1)) rfl hX_23 (by decide) rfl rfl rfl (fun h_29 hX_29 => ?_)
          refine wn_aload (i := 30) rfl rfl ?_
          refine wp_get (i := 31) (n := 5) (a := o) (v := .int (nI ((nU n 5 ((n 5) + 1)) 5))) rfl hX_29.1.1 rfl ?_
          exact wn_ret (i := 32) rfl rfl (hQ j hj rfl c9 (by omega) _ hX_29)
        · skip
          refine wn_constI (i := 16) (n := -3) rfl rfl ?_
          exact wn_ret (i := 17) rfl rfl (hF j hj rfl c9 c15)
      · skip
        refine wn_constI (i := 10) (n := -2) rfl rfl ?_
        exact wn_ret (i := 11) rfl rfl (hBad (fun j' hj' ej' => by first | exact absurd ej' (hno2 j' hj') | (rw [← (nI_eq (by omega) (by omega)).mp ej']; exact c9)))
  · skip
    show xm_wp sc (d + 2) 10 3 [some (.ref o), some (.int a)] [.int (nI (false).toNat)] h Q
    refine wb_if_eq (i := 3) (b := false) (t' := 10) rfl rfl (fun c3 => ?_) (fun c3 => ?_)
    · skip
      refine wn_constI (i := 10) (n := -2) rfl rfl ?_
      exact wn_ret (i := 11) rfl rfl (hBad (fun j' hj' ej' => by first | exact absurd ej' (hno2 j' hj') | (rw [← (nI_eq (by omega) (by omega)).mp ej']; exact c9)))
    · cases c3
theorem m_assume (hX : MX o n f h0 h) (hT : n 0 ≤ 24) {a : Int32} (hs : ∀ t, t < n 0 → f 1 t ≤ 12) (hl : n 7 ≤ 8) (hBad : (∀ j, j < n 0 → a = nI j → f 1 j ≠ 1) → Q (some (.int (-2))) h) (hF : ∀ j, j < n 0 → a = nI j → f 1 j = 1 → n 7 = 8 → Q (some (.int (-3))) h) (hQ : ∀ j, j < n 0 → a = nI j → f 1 j = 1 → n 7 < 8 → ∀ h' : xm_S, MX o (nU n 7 (n 7 + 1)) (fU f 5 (n 7) j) h0 h' → Q (some (.int (nI (n 7 + 1)))) h') : xm_wp sc (d + 2) 4 0 [some (.ref o), some (.int a)] [] h Q := by
  refine wn_aload (i := 0) rfl rfl ?_
  refine wn_iload (i := 1) rfl rfl ?_
  refine wn_callv (i := 2) (as := [.int a]) (b := o) (rest := []) (es := [some (.ref o), some (.int a)]) rfl rfl rfl rfl rfl (Nat.le_of_ble_eq_true rfl) rfl hX.1.1 rfl ?_
  refine m_has hX hT (fun j hj ej => ?_) (fun hno2 => ?_)
  · skip
    subst ej
    show xm_wp sc (d + 2) 4 3 [some (.ref o), some (.int (nI j))] [.int (nI (true).toNat)] h Q
    refine wb_if_eq (i := 3) (b := true) (t' := 10) rfl rfl (fun c3 => ?_) (fun c3 => ?_)
    · cases c3
    · skip
      first | cases c3 | skip
      have hsj := hs _ hj
      refine wn_aload (i := 4) rfl rfl ?_
      refine wp_get (i := 5) (n := 1) (a := o) (v := .ref (o + 1)) rfl hX.1.1 rfl ?_
      refine wn_iload (i := 6) rfl rfl ?_
      refine wm_iald (i := 7) (k := 1) (e := j) (len := 24) rfl hX (by decide) (by decide) rfl rfl rfl (by omega) (by decide) ?_
      refine wn_const (i := 8) (n := 1) rfl rfl ?_
      refine wn_ic_eq (i := 9) (a := (f 1 j)) (b := 1) (t' := 12) rfl rfl (by omega) (by omega) (fun c9 => ?_) (fun c9 => ?_)
      · skip
        refine wn_aload (i := 12) rfl rfl ?_
        refine wp_get (i := 13) (n := 7) (a := o) (v := .int (nI (n 7))) rfl hX.1.1 rfl ?_
        refine wn_const (i := 14) (n := 8) rfl rfl ?_
        refine wn_ic_ne (i := 15) (a := (n 7)) (b := 8) (t' := 18) rfl rfl (by omega) (by omega) (fun c15 => ?_) (fun c15 => ?_)
        · skip
          refine wn_aload (i := 18) rfl rfl ?_
          refine wp_get (i := 19) (n := 8) (a := o) (v := .ref (o + 5)) rfl hX.1.1 rfl ?_
          refine wn_aload (i := 20) rfl rfl ?_
          refine wp_get (i := 21) (n := 7) (a := o) (v := .int (nI (n 7))) rfl hX.1.1 rfl ?_
          refine wn_iload (i := 22) rfl rfl ?_
          refine wm_iast (i := 23) (k := 5) (e := (n 7)) (x := j) (len := 8) rfl hX (by decide) (by decide) rfl rfl rfl (by omega) (by decide) (fun h_23 hX_23 => ?_)
          refine wn_aload (i := 24) rfl rfl ?_
          refine wn_dup (i := 25) rfl ?_
          refine wp_get (i := 26) (n := 7) (a := o) (v := .int (nI (n 7))) rfl hX_23.1.1 rfl ?_
          refine wn_const (i := 27) (n := 1) rfl rfl ?_
          refine wn_iadd (i := 28) (a := (n 7)) (b := 1) rfl ?_
          refine wm_put (i := 29) (k := 7) (x := ((n 7) + 1)) rfl hX_23 (by decide) rfl rfl rfl (fun h_29 hX_29 => ?_)
          refine wn_aload (i := 30) rfl rfl ?_
          refine wp_get (i := 31) (n := 7) (a := o) (v := .int (nI ((nU n 7 ((n 7) + 1)) 7))) rfl hX_29.1.1 rfl ?_
          exact wn_ret (i := 32) rfl rfl (hQ j hj rfl c9 (by omega) _ hX_29)
        · skip
          refine wn_constI (i := 16) (n := -3) rfl rfl ?_
          exact wn_ret (i := 17) rfl rfl (hF j hj rfl c9 c15)
      · skip
        refine wn_constI (i := 10) (n := -2) rfl rfl ?_
        exact wn_ret (i := 11) rfl rfl (hBad (fun j' hj' ej' => by first | exact absurd ej' (hno2 j' hj') | (rw [← (nI_eq (by omega) (by omega)).mp ej']; exact c9)))
  · skip
    show xm_wp sc (d + 2) 4 3 [some (.ref o), some (.int a)] [.int (nI (false).toNat)] h Q
    refine wb_if_eq (i := 3) (b := false) (t' := 10) rfl rfl (fun c3 => ?_) (fun c3 => ?_)
    · skip
      refine wn_constI (i := 10) (n := -2) rfl rfl ?_
      exact wn_ret (i := 11) rfl rfl (hBad (fun j' hj' ej' => by first | exact absurd ej' (hno2 j' hj') | (rw [← (nI_eq (by omega) (by omega)).mp ej']; exact c9)))
    · cases c3
end MM
end
section
/-! ===== the reference: its questions ===== -/
def bO (n : Nat → Nat) (f : Nat → Nat → Nat) (a : Nat) (g : Bool) : Nat → Option Nat
  | 0 => none
  | x + 1 => if mB n f x then (match bO n f a g x with
    | none => some (f 3 (4096 * a + x))
    | some b => if (if g then b < f 3 (4096 * a + x) else f 3 (4096 * a + x) < b) then some (f 3 (4096 * a + x)) else some b) else bO n f a g x
def oI (r : Option Nat) : Int32 := match r with
  | none => -1
  | some v => nI v
theorem oI_none : oI none = -1 := rfl
theorem oI_some (v : Nat) : oI (some v) = nI v := rfl
theorem xn_m1 {v : Nat} (h : v < 2 ^ 31) : ¬ nI v = -1 := by
  intro q
  exact nI_pos h (by rw [q]; decide)
/-- which numbers a term has been below x -/
def sN (n : Nat → Nat) (f : Nat → Nat → Nat) (a : Nat) : Nat → Nat → Bool
  | 0, _ => false
  | x + 1, v => sN n f a x v || (mB n f x && decide (f 3 (4096 * a + x) = v))
def vC (n : Nat → Nat) (f : Nat → Nat → Nat) (a : Nat) : Nat → Nat
  | 0 => 0
  | x + 1 => vC n f a x + (mB n f x && !sN n f a x (f 3 (4096 * a + x))).toNat
theorem vC_le (n : Nat → Nat) (f : Nat → Nat → Nat) (a : Nat) : ∀ x, vC n f a x ≤ x
  | 0 => Nat.le_refl _
  | x + 1 => by
    have := vC_le n f a x
    have h2 := xn_tn (mB n f x && !sN n f a x (f 3 (4096 * a + x)))
    show vC n f a x + _ ≤ x + 1
    omega
def sE (n : Nat → Nat) (f : Nat → Nat → Nat) (a b : Nat) : Nat → Bool
  | 0 => true
  | x + 1 => sE n f a b x && (!mB n f x || decide (f 3 (4096 * a + x) = f 3 (4096 * b + x)))
theorem bO_lt {n : Nat → Nat} {f : Nat → Nat → Nat} {a N : Nat} {g : Bool} (hn : ∀ x, x < N → f 3 (4096 * a + x) < 4096) : ∀ {x : Nat}, x ≤ N → ∀ v, bO n f a g x = some v → v < 4096
  | 0, _, v, hv => by cases hv
  | x + 1, hx, v, hv => by
    have ih := bO_lt hn (x := x) (g := g) (n := n) (by omega)
    have h1 := hn x (by omega)
    unfold bO at hv
    split at hv
    · split at hv
      · cases hv; exact h1
      · rename_i b hb
        by_cases hq : (if g = true then b < f 3 (4096 * a + x) else f 3 (4096 * a + x) < b)
        · rw [if_pos hq] at hv
          cases hv
          exact h1
        · rw [if_neg hq] at hv
          cases hv
          exact ih _ hb
    · exact ih v hv
theorem xn_isIn {v : Int32} {e : Nat} (he : e < 2 ^ 30) (h1 : nI 0 ≤ v) (h2 : v ≤ nI e) : ∃ u : Nat, u ≤ e ∧ v = nI u := by
  obtain ⟨u, hu, rfl⟩ := nI_of (Int32.not_lt.mpr h1)
  exact ⟨u, (nI_leI hu (by omega)).mp h2, rfl⟩
theorem xn_notIn {v : Int32} {e : Nat} (he : e < 2 ^ 30) (h : ¬ (nI 0 ≤ v ∧ v ≤ nI e)) : ∀ u, u ≤ e → v ≠ nI u := by
  intro u hu ev
  subst ev
  exact h ⟨nI_pos' (by omega), nI_le hu (by omega)⟩
section MM
variable {sc : Nat × Nat × (Nat → Int32)} {d o : Nat} {h h0 : xm_S} {Q : Option Value → xm_S → Prop} {n : Nat → Nat} {f : Nat → Nat → Nat}
theorem l_value (hX : MX o n f h0 h) (hb : MB n f) {j : Nat} (hj : j < n 0) {k : Int32} (hQ1 : ∀ x, x < 2 ^ n 4 → mB n f x = true → k = nI (cM n f x) → Q (some (.int (nI (f 3 (4096 * j + x))))) h) (hQ0 : (∀ x, x < 2 ^ n 4 → mB n f x = true → k ≠ nI (cM n f x)) → Q (some (.int (-1))) h) : ∀ (m : Nat) (x c : Nat), x ≤ 2 ^ n 4 → 2 ^ n 4 < x + m → c = cM n f x → (∀ x', x' < x → mB n f x' = true → k ≠ nI (cM n f x')) → xm_wp sc (d + 2) 33 10 [some (.ref o), some (.int (nI j)), some (.int k), some (.int (nI c)), some (.int (nI x))] [] h Q := by
  intro m
  induction m with
  | zero => intro x c h1 h2; exact absurd h2 (by omega)
  | succ m ih =>
    intro x c h1 h2 ec hno
    obtain ⟨hT, hB, b5, b7, bc, ba, bl, bn⟩ := id hb
    have hN := xn_p12 hB
    have hc := cM_le n f x
    subst ec
    refine wn_iload (i := 10) rfl rfl ?_
    refine wn_aload (i := 11) rfl rfl ?_
    refine wn_callv (i := 12) (as := []) (b := o) (rest := [.int (nI x)]) (es := [some (.ref o)]) rfl rfl rfl rfl rfl (Nat.le_of_ble_eq_true rfl) rfl hX.1.1 rfl ?_
    refine m_all hX hB ?_
    show xm_wp sc (d + 2) 33 13 [some (.ref o), some (.int (nI j)), some (.int k), some (.int (nI (cM n f x))), some (.int (nI x))] [.int (nI (2 ^ n 4)), .int (nI x)] h Q
    refine wn_ic_ge (i := 13) (a := x) (b := (2 ^ n 4)) (t' := 29) rfl rfl (by omega) (by omega) (fun c13 => ?_) (fun c13 => ?_)
    · skip
      have ex : x = 2 ^ n 4 := by omega
      subst ex
      refine wn_constI (i := 29) (n := -1) rfl rfl ?_
      exact wn_ret (i := 30) rfl rfl (hQ0 hno)
    · skip
      refine wn_aload (i := 14) rfl rfl ?_
      refine wn_iload (i := 15) rfl rfl ?_
      refine wn_callv (i := 16) (as := [.int (nI x)]) (b := o) (rest := []) (es := [some (.ref o), some (.int (nI x)), none, none]) rfl rfl rfl rfl rfl (Nat.le_of_ble_eq_true rfl) rfl hX.1.1 rfl ?_
      refine m_isModel hX hb (by omega) ?_
      show xm_wp sc (d + 2) 33 17 [some (.ref o), some (.int (nI j)), some (.int k), some (.int (nI (cM n f x))), some (.int (nI x))] [.int (nI (mB n f x).toNat)] h Q
      refine wb_if_eq (i := 17) (b := (mB n f x)) (t' := 27) rfl rfl (fun c17 => ?_) (fun c17 => ?_)
      · skip
        refine wn_iinc (i := 27) (x := x) (n := 1) (ls' := [some (.ref o), some (.int (nI j)), some (.int k), some (.int (nI (cM n f x))), some (.int (nI (x + 1)))]) rfl rfl rfl rfl ?_
        refine wn_goto (i := 28) (t' := 10) rfl rfl ?_
        exact ih (x + 1) _ (by omega) (by omega) (by show _ = cM n f x + (mB n f x).toNat; rw [c17]; rfl) (fun x' hx' e' => by rcases Nat.lt_succ_iff_lt_or_eq.mp hx' with q | q; exact hno x' q e'; subst q; first | (rw [c17] at e'; cases e'; done) | exact fun e => c20 e.symm)
      · skip
        refine wn_iload (i := 18) rfl rfl ?_
        refine wn_iload (i := 19) rfl rfl ?_
        refine wi_ic_ne (i := 20) (a := (nI (cM n f x))) (b := k) (t' := 26) rfl rfl (fun c20 => ?_) (fun c20 => ?_)
        · skip
          refine wn_iinc (i := 26) (x := (cM n f x)) (n := 1) (ls' := [some (.ref o), some (.int (nI j)), some (.int k), some (.int (nI ((cM n f x) + 1))), some (.int (nI x))]) rfl rfl rfl rfl ?_
          refine wn_iinc (i := 27) (x := x) (n := 1) (ls' := [some (.ref o), some (.int (nI j)), some (.int k), some (.int (nI ((cM n f x) + 1))), some (.int (nI (x + 1)))]) rfl rfl rfl rfl ?_
          refine wn_goto (i := 28) (t' := 10) rfl rfl ?_
          exact ih (x + 1) _ (by omega) (by omega) (by show _ = cM n f x + (mB n f x).toNat; rw [c17]; rfl) (fun x' hx' e' => by rcases Nat.lt_succ_iff_lt_or_eq.mp hx' with q | q; exact hno x' q e'; subst q; first | (rw [c17] at e'; cases e'; done) | exact fun e => c20 e.symm)
        · skip
          refine wn_aload (i := 21) rfl rfl ?_
          refine wn_iload (i := 22) rfl rfl ?_
          refine wn_iload (i := 23) rfl rfl ?_
          refine wn_callv (i := 24) (as := [.int (nI j), .int (nI x)]) (b := o) (rest := []) (es := [some (.ref o), some (.int (nI j)), some (.int (nI x))]) rfl rfl rfl rfl rfl (Nat.le_of_ble_eq_true rfl) rfl hX.1.1 rfl ?_
          refine m_by hX (by omega) ?_
          show xm_wp sc (d + 2) 33 25 [some (.ref o), some (.int (nI j)), some (.int k), some (.int (nI (cM n f x))), some (.int (nI x))] [.int (nI (f 3 (4096 * j + x)))] h Q
          exact wn_ret (i := 25) rfl rfl (hQ1 x (by omega) c17 c20.symm)
theorem m_value (hX : MX o n f h0 h) (hb : MB n f) {a k : Int32} (hBad : (∀ j, j < n 0 → a ≠ nI j) → Q (some (.int (-2))) h) (hQ1 : ∀ j, j < n 0 → a = nI j → ∀ x, x < 2 ^ n 4 → mB n f x = true → k = nI (cM n f x) → Q (some (.int (nI (f 3 (4096 * j + x))))) h) (hQ0 : ∀ j, j < n 0 → a = nI j → (∀ x, x < 2 ^ n 4 → mB n f x = true → k ≠ nI (cM n f x)) → Q (some (.int (-1))) h) : xm_wp sc (d + 2) 33 0 [some (.ref o), some (.int a), some (.int k), none, none] [] h Q := by
  have hT := hb.1
  refine wn_aload (i := 0) rfl rfl ?_
  refine wn_iload (i := 1) rfl rfl ?_
  refine wn_callv (i := 2) (as := [.int a]) (b := o) (rest := []) (es := [some (.ref o), some (.int a)]) rfl rfl rfl rfl rfl (Nat.le_of_ble_eq_true rfl) rfl hX.1.1 rfl ?_
  refine m_has hX hT (fun j hj ej => ?_) (fun hno2 => ?_)
  · skip
    subst ej
    show xm_wp sc (d + 2) 33 3 [some (.ref o), some (.int (nI j)), some (.int k), none, none] [.int (nI (true).toNat)] h Q
    refine wb_if_ne (i := 3) (b := true) (t' := 6) rfl rfl (fun c3 => ?_) (fun c3 => ?_)
    · skip
      refine wn_const (i := 6) (n := 0) rfl rfl ?_
      refine wn_istore (i := 7) (ls' := [some (.ref o), some (.int (nI j)), some (.int k), some (.int (nI 0)), none]) rfl (Nat.le_of_ble_eq_true rfl) rfl ?_
      refine wn_const (i := 8) (n := 0) rfl rfl ?_
      refine wn_istore (i := 9) (ls' := [some (.ref o), some (.int (nI j)), some (.int k), some (.int (nI 0)), some (.int (nI 0))]) rfl (Nat.le_of_ble_eq_true rfl) rfl ?_
      exact l_value hX hb hj (hQ1 j hj rfl) (hQ0 j hj rfl) (2 ^ n 4 + 1) 0 0 (Nat.zero_le _) (by omega) rfl (fun x' hx' => absurd hx' (Nat.not_lt_zero _))
    · cases c3
  · skip
    show xm_wp sc (d + 2) 33 3 [some (.ref o), some (.int a), some (.int k), none, none] [.int (nI (false).toNat)] h Q
    refine wb_if_ne (i := 3) (b := false) (t' := 6) rfl rfl (fun c3 => ?_) (fun c3 => ?_)
    · cases c3
    · skip
      refine wn_constI (i := 4) (n := -2) rfl rfl ?_
      exact wn_ret (i := 5) rfl rfl (hBad hno2)
theorem l_where (hX : MX o n f h0 h) (hb : MB n f) {j v : Nat} (hj : j < n 0) (hv : v < 4096) (hQ1 : ∀ x, x < 2 ^ n 4 → mB n f x = true → f 3 (4096 * j + x) = v → (∀ x', x' < x → mB n f x' = true → f 3 (4096 * j + x') ≠ v) → Q (some (.int (nI (cM n f x)))) h) (hQ0 : (∀ x, x < 2 ^ n 4 → mB n f x = true → f 3 (4096 * j + x) ≠ v) → Q (some (.int (-1))) h) : ∀ (m : Nat) (x c : Nat), x ≤ 2 ^ n 4 → 2 ^ n 4 < x + m → c = cM n f x → (∀ x', x' < x → mB n f x' = true → f 3 (4096 * j + x') ≠ v) → xm_wp sc (d + 2) 35 19 [some (.ref o), some (.int (nI j)), some (.int (nI v)), some (.int (nI c)), some (.int (nI x))] [] h Q := by
  intro m
  induction m with
  | zero => intro x c h1 h2; exact absurd h2 (by omega)
  | succ m ih =>
    intro x c h1 h2 ec hno
    obtain ⟨hT, hB, b5, b7, bc, ba, bl, bn⟩ := id hb
    have hN := xn_p12 hB
    have hc := cM_le n f x
    subst ec
    refine wn_iload (i := 19) rfl rfl ?_
    refine wn_aload (i := 20) rfl rfl ?_
    refine wn_callv (i := 21) (as := []) (b := o) (rest := [.int (nI x)]) (es := [some (.ref o)]) rfl rfl rfl rfl rfl (Nat.le_of_ble_eq_true rfl) rfl hX.1.1 rfl ?_
    refine m_all hX hB ?_
    show xm_wp sc (d + 2) 35 22 [some (.ref o), some (.int (nI j)), some (.int (nI v)), some (.int (nI (cM n f x))), some (.int (nI x))] [.int (nI (2 ^ n 4)), .int (nI x)] h Q
    refine wn_ic_ge (i := 22) (a := x) (b := (2 ^ n 4)) (t' := 38) rfl rfl (by omega) (by omega) (fun c22 => ?_) (fun c22 => ?_)
    · skip
      have ex : x = 2 ^ n 4 := by omega
      subst ex
      refine wn_constI (i := 38) (n := -1) rfl rfl ?_
      exact wn_ret (i := 39) rfl rfl (hQ0 hno)
    · skip
      refine wn_aload (i := 23) rfl rfl ?_
      refine wn_iload (i := 24) rfl rfl ?_
      refine wn_callv (i := 25) (as := [.int (nI x)]) (b := o) (rest := []) (es := [some (.ref o), some (.int (nI x)), none, none]) rfl rfl rfl rfl rfl (Nat.le_of_ble_eq_true rfl) rfl hX.1.1 rfl ?_
      refine m_isModel hX hb (by omega) ?_
      show xm_wp sc (d + 2) 35 26 [some (.ref o), some (.int (nI j)), some (.int (nI v)), some (.int (nI (cM n f x))), some (.int (nI x))] [.int (nI (mB n f x).toNat)] h Q
      refine wb_if_eq (i := 26) (b := (mB n f x)) (t' := 36) rfl rfl (fun c26 => ?_) (fun c26 => ?_)
      · skip
        refine wn_iinc (i := 36) (x := x) (n := 1) (ls' := [some (.ref o), some (.int (nI j)), some (.int (nI v)), some (.int (nI (cM n f x))), some (.int (nI (x + 1)))]) rfl rfl rfl rfl ?_
        refine wn_goto (i := 37) (t' := 19) rfl rfl ?_
        exact ih (x + 1) _ (by omega) (by omega) (by show _ = cM n f x + (mB n f x).toNat; rw [c26]; rfl) (fun x' hx' e' => by rcases Nat.lt_succ_iff_lt_or_eq.mp hx' with q | q; exact hno x' q e'; subst q; first | (rw [c26] at e'; cases e'; done) | exact c32)
      · skip
        have hbn := bn (4096 * j + x) (by omega)
        refine wn_aload (i := 27) rfl rfl ?_
        refine wn_iload (i := 28) rfl rfl ?_
        refine wn_iload (i := 29) rfl rfl ?_
        refine wn_callv (i := 30) (as := [.int (nI j), .int (nI x)]) (b := o) (rest := []) (es := [some (.ref o), some (.int (nI j)), some (.int (nI x))]) rfl rfl rfl rfl rfl (Nat.le_of_ble_eq_true rfl) rfl hX.1.1 rfl ?_
        refine m_by hX (by omega) ?_
        show xm_wp sc (d + 2) 35 31 [some (.ref o), some (.int (nI j)), some (.int (nI v)), some (.int (nI (cM n f x))), some (.int (nI x))] [.int (nI (f 3 (4096 * j + x)))] h Q
        refine wn_iload (i := 31) rfl rfl ?_
        refine wn_ic_ne (i := 32) (a := (f 3 (4096 * j + x))) (b := v) (t' := 35) rfl rfl (by omega) (by omega) (fun c32 => ?_) (fun c32 => ?_)
        · skip
          refine wn_iinc (i := 35) (x := (cM n f x)) (n := 1) (ls' := [some (.ref o), some (.int (nI j)), some (.int (nI v)), some (.int (nI ((cM n f x) + 1))), some (.int (nI x))]) rfl rfl rfl rfl ?_
          refine wn_iinc (i := 36) (x := x) (n := 1) (ls' := [some (.ref o), some (.int (nI j)), some (.int (nI v)), some (.int (nI ((cM n f x) + 1))), some (.int (nI (x + 1)))]) rfl rfl rfl rfl ?_
          refine wn_goto (i := 37) (t' := 19) rfl rfl ?_
          exact ih (x + 1) _ (by omega) (by omega) (by show _ = cM n f x + (mB n f x).toNat; rw [c26]; rfl) (fun x' hx' e' => by rcases Nat.lt_succ_iff_lt_or_eq.mp hx' with q | q; exact hno x' q e'; subst q; first | (rw [c26] at e'; cases e'; done) | exact c32)
        · skip
          refine wn_iload (i := 33) rfl rfl ?_

          exact wn_ret (i := 34) rfl rfl (hQ1 x (by omega) c26 c32 hno)
theorem m_where (hX : MX o n f h0 h) (hb : MB n f) {a v : Int32} (hs : ∀ t, t < n 0 → f 1 t ≤ 12) (hBad : (∀ j u, j < n 0 → a = nI j → u < 2 ^ f 1 j → v ≠ nI u) → Q (some (.int (-2))) h) (hQ1 : ∀ j u, j < n 0 → a = nI j → u < 2 ^ f 1 j → v = nI u → ∀ x, x < 2 ^ n 4 → mB n f x = true → f 3 (4096 * j + x) = u → (∀ x', x' < x → mB n f x' = true → f 3 (4096 * j + x') ≠ u) → Q (some (.int (nI (cM n f x)))) h) (hQ0 : ∀ j u, j < n 0 → a = nI j → u < 2 ^ f 1 j → v = nI u → (∀ x, x < 2 ^ n 4 → mB n f x = true → f 3 (4096 * j + x) ≠ u) → Q (some (.int (-1))) h) : xm_wp sc (d + 2) 35 0 [some (.ref o), some (.int a), some (.int v), none, none] [] h Q := by
  have hT := hb.1
  refine wn_aload (i := 0) rfl rfl ?_
  refine wn_iload (i := 1) rfl rfl ?_
  refine wn_callv (i := 2) (as := [.int a]) (b := o) (rest := []) (es := [some (.ref o), some (.int a)]) rfl rfl rfl rfl rfl (Nat.le_of_ble_eq_true rfl) rfl hX.1.1 rfl ?_
  refine m_has hX hT (fun j hj ej => ?_) (fun hno2 => ?_)
  · skip
    subst ej
    show xm_wp sc (d + 2) 35 3 [some (.ref o), some (.int (nI j)), some (.int v), none, none] [.int (nI (true).toNat)] h Q
    refine wb_if_eq (i := 3) (b := true) (t' := 13) rfl rfl (fun c3 => ?_) (fun c3 => ?_)
    · cases c3
    · skip
      have hsj := hs _ hj
      have hp := xn_p12 hsj
      have hp0 := Nat.two_pow_pos (f 1 j)
      refine wn_iload (i := 4) rfl rfl ?_
      refine wn_const (i := 5) (n := 0) rfl rfl ?_
      refine wn_aload (i := 6) rfl rfl ?_
      refine wp_get (i := 7) (n := 1) (a := o) (v := .ref (o + 1)) rfl hX.1.1 rfl ?_
      refine wn_iload (i := 8) rfl rfl ?_
      refine wm_iald (i := 9) (k := 1) (e := j) (len := 24) rfl hX (by decide) (by decide) rfl rfl rfl (by omega) (by decide) ?_
      refine wn_calls (i := 10) (as := [.int (nI (f 1 j))]) (rest := [.int (nI 0), .int v]) (es := [some (.int (nI (f 1 j)))]) rfl rfl (by decide) rfl rfl rfl (Nat.le_of_ble_eq_true rfl) rfl rfl ?_
      refine m_mask (by omega) ?_
      show xm_wp sc (d + 2) 35 11 [some (.ref o), some (.int (nI j)), some (.int v), none, none] [.int (nI (2 ^ (f 1 j) - 1)), .int (nI 0), .int v] h Q
      refine wn_calls (i := 11) (as := [.int v, .int (nI 0), .int (nI (2 ^ (f 1 j) - 1))]) (rest := []) (es := [some (.int v), some (.int (nI 0)), some (.int (nI (2 ^ (f 1 j) - 1)))]) rfl rfl (by decide) rfl rfl rfl (Nat.le_of_ble_eq_true rfl) rfl rfl ?_
      refine m_isIn (fun q1 q2 => ?_) (fun q0 => ?_)
      · skip
        obtain ⟨u, hu, rfl⟩ := xn_isIn (by omega) q1 q2
        show xm_wp sc (d + 2) 35 12 [some (.ref o), some (.int (nI j)), some (.int (nI u)), none, none] [.int (nI (true).toNat)] h Q
        refine wb_if_ne (i := 12) (b := true) (t' := 15) rfl rfl (fun c12 => ?_) (fun c12 => ?_)
        · skip
          refine wn_const (i := 15) (n := 0) rfl rfl ?_
          refine wn_istore (i := 16) (ls' := [some (.ref o), some (.int (nI j)), some (.int (nI u)), some (.int (nI 0)), none]) rfl (Nat.le_of_ble_eq_true rfl) rfl ?_
          refine wn_const (i := 17) (n := 0) rfl rfl ?_
          refine wn_istore (i := 18) (ls' := [some (.ref o), some (.int (nI j)), some (.int (nI u)), some (.int (nI 0)), some (.int (nI 0))]) rfl (Nat.le_of_ble_eq_true rfl) rfl ?_
          exact l_where hX hb hj (by omega) (hQ1 j u hj rfl (by omega) rfl) (hQ0 j u hj rfl (by omega) rfl) (2 ^ n 4 + 1) 0 0 (Nat.zero_le _) (by omega) rfl (fun x' hx' => absurd hx' (Nat.not_lt_zero _))
        · cases c12
      · skip
        have hnu : ∀ u, u ≤ 2 ^ (f 1 j) - 1 → v ≠ nI u := xn_notIn (by omega) q0
        show xm_wp sc (d + 2) 35 12 [some (.ref o), some (.int (nI j)), some (.int v), none, none] [.int (nI (false).toNat)] h Q
        refine wb_if_ne (i := 12) (b := false) (t' := 15) rfl rfl (fun c12 => ?_) (fun c12 => ?_)
        · cases c12
        · skip
          refine wn_constI (i := 13) (n := -2) rfl rfl ?_
          exact wn_ret (i := 14) rfl rfl (hBad (fun j' u hj' ej' hu => by first | exact absurd ej' (hno2 j' hj') | (have ejj := (nI_eq (by omega) (by omega)).mp ej'; subst ejj; exact hnu u (by omega))))
  · skip
    show xm_wp sc (d + 2) 35 3 [some (.ref o), some (.int a), some (.int v), none, none] [.int (nI (false).toNat)] h Q
    refine wb_if_eq (i := 3) (b := false) (t' := 13) rfl rfl (fun c3 => ?_) (fun c3 => ?_)
    · skip
      refine wn_constI (i := 13) (n := -2) rfl rfl ?_
      exact wn_ret (i := 14) rfl rfl (hBad (fun j' u hj' ej' hu => by first | exact absurd ej' (hno2 j' hj') | (have ejj := (nI_eq (by omega) (by omega)).mp ej'; subst ejj; exact hnu u (by omega))))
    · cases c3
theorem l_bound (hX : MX o n f h0 h) (hb : MB n f) {j : Nat} (hj : j < n 0) {g : Bool} (hQ : Q (some (.int (oI (bO n f j g (2 ^ n 4))))) h) : ∀ (m : Nat) (x : Nat) (b : Int32) (z : Option Value), x ≤ 2 ^ n 4 → 2 ^ n 4 < x + m → b = oI (bO n f j g x) → xm_wp sc (d + 2) 6 10 [some (.ref o), some (.int (nI j)), some (.int (nI (g).toNat)), some (.int b), some (.int (nI x)), z] [] h Q := by
  intro m
  induction m with
  | zero => intro x b z h1 h2; exact absurd h2 (by omega)
  | succ m ih =>
    intro x b z h1 h2 eb
    obtain ⟨hT, hB, b5, b7, bc, ba, bl, bn⟩ := id hb
    have hN := xn_p12 hB
    have hc := cM_le n f x
    have hbd : ∀ v, bO n f j g x = some v → v < 4096 := bO_lt (N := 2 ^ n 4) (fun x hx => bn _ (by omega)) (by omega)
    subst eb
    refine wn_iload (i := 10) rfl rfl ?_
    refine wn_aload (i := 11) rfl rfl ?_
    refine wn_callv (i := 12) (as := []) (b := o) (rest := [.int (nI x)]) (es := [some (.ref o)]) rfl rfl rfl rfl rfl (Nat.le_of_ble_eq_true rfl) rfl hX.1.1 rfl ?_
    refine m_all hX hB ?_
    show xm_wp sc (d + 2) 6 13 [some (.ref o), some (.int (nI j)), some (.int (nI (g).toNat)), some (.int (oI (bO n f j g x))), some (.int (nI x)), z] [.int (nI (2 ^ n 4)), .int (nI x)] h Q
    refine wn_ic_ge (i := 13) (a := x) (b := (2 ^ n 4)) (t' := 41) rfl rfl (by omega) (by omega) (fun c13 => ?_) (fun c13 => ?_)
    · skip
      have ex : x = 2 ^ n 4 := by omega
      subst ex
      refine wn_iload (i := 41) rfl rfl ?_
      exact wn_ret (i := 42) rfl rfl hQ
    · skip
      refine wn_aload (i := 14) rfl rfl ?_
      refine wn_iload (i := 15) rfl rfl ?_
      refine wn_callv (i := 16) (as := [.int (nI x)]) (b := o) (rest := []) (es := [some (.ref o), some (.int (nI x)), none, none]) rfl rfl rfl rfl rfl (Nat.le_of_ble_eq_true rfl) rfl hX.1.1 rfl ?_
      refine m_isModel hX hb (by omega) ?_
      show xm_wp sc (d + 2) 6 17 [some (.ref o), some (.int (nI j)), some (.int (nI (g).toNat)), some (.int (oI (bO n f j g x))), some (.int (nI x)), z] [.int (nI (mB n f x).toNat)] h Q
      refine wb_if_eq (i := 17) (b := (mB n f x)) (t' := 39) rfl rfl (fun c17 => ?_) (fun c17 => ?_)
      · skip
        refine wn_iinc (i := 39) (x := x) (n := 1) (ls' := [some (.ref o), some (.int (nI j)), some (.int (nI (g).toNat)), some (.int (oI (bO n f j g x))), some (.int (nI (x + 1))), z]) rfl rfl rfl rfl ?_
        refine wn_goto (i := 40) (t' := 10) rfl rfl ?_
        exact ih (x + 1) _ _ (by omega) (by omega) (by rw [show bO n f j g (x + 1) = bO n f j g x by simp [bO, c17]])
      · skip
        refine wn_aload (i := 18) rfl rfl ?_
        refine wn_iload (i := 19) rfl rfl ?_
        refine wn_iload (i := 20) rfl rfl ?_
        refine wn_callv (i := 21) (as := [.int (nI j), .int (nI x)]) (b := o) (rest := []) (es := [some (.ref o), some (.int (nI j)), some (.int (nI x))]) rfl rfl rfl rfl rfl (Nat.le_of_ble_eq_true rfl) rfl hX.1.1 rfl ?_
        refine m_by hX (by omega) ?_
        show xm_wp sc (d + 2) 6 22 [some (.ref o), some (.int (nI j)), some (.int (nI (g).toNat)), some (.int (oI (bO n f j g x))), some (.int (nI x)), z] [.int (nI (f 3 (4096 * j + x)))] h Q
        refine wn_istore (i := 22) (ls' := [some (.ref o), some (.int (nI j)), some (.int (nI (g).toNat)), some (.int (oI (bO n f j g x))), some (.int (nI x)), some (.int (nI (f 3 (4096 * j + x))))]) rfl (Nat.le_of_ble_eq_true rfl) rfl ?_
        have hbn := bn (4096 * j + x) (by omega)
        cases eo : bO n f j g x with
        | none =>
          show xm_wp sc (d + 2) 6 23 [some (.ref o), some (.int (nI j)), some (.int (nI (g).toNat)), some (.int (-1)), some (.int (nI x)), some (.int (nI (f 3 (4096 * j + x))))] [] h Q
          refine wn_iload (i := 23) rfl rfl ?_
          refine wn_constI (i := 24) (n := -1) rfl rfl ?_
          refine wi_ic_eq (i := 25) (a := -1) (b := -1) (t' := 35) rfl rfl (fun c25 => ?_) (fun c25 => absurd rfl c25)
          refine wn_iload (i := 35) rfl rfl ?_
          refine wn_goto (i := 36) (t' := 38) rfl rfl ?_
          refine wn_istore (i := 38) (ls' := [some (.ref o), some (.int (nI j)), some (.int (nI (g).toNat)), some (.int (nI (f 3 (4096 * j + x)))), some (.int (nI x)), some (.int (nI (f 3 (4096 * j + x))))]) rfl (Nat.le_of_ble_eq_true rfl) rfl ?_
          refine wn_iinc (i := 39) (x := x) (n := 1) (ls' := [some (.ref o), some (.int (nI j)), some (.int (nI (g).toNat)), some (.int (nI (f 3 (4096 * j + x)))), some (.int (nI (x + 1))), some (.int (nI (f 3 (4096 * j + x))))]) rfl rfl rfl rfl ?_
          refine wn_goto (i := 40) (t' := 10) rfl rfl ?_
          exact ih (x + 1) _ _ (by omega) (by omega) (by simp [bO, oI, c17, eo])
        | some b =>
          have hbb := hbd b eo
          show xm_wp sc (d + 2) 6 23 [some (.ref o), some (.int (nI j)), some (.int (nI (g).toNat)), some (.int (nI b)), some (.int (nI x)), some (.int (nI (f 3 (4096 * j + x))))] [] h Q
          refine wn_iload (i := 23) rfl rfl ?_
          refine wn_constI (i := 24) (n := -1) rfl rfl ?_
          refine wi_ic_eq (i := 25) (a := nI b) (b := -1) (t' := 35) rfl rfl (fun c25 => absurd c25 (xn_m1 (by omega))) (fun c25 => ?_)
          refine wn_iload (i := 26) rfl rfl ?_
          refine wb_if_eq (i := 27) (b := g) (t' := 32) rfl rfl (fun c27 => ?_) (fun c27 => ?_)
          · skip
            refine wn_iload (i := 32) rfl rfl ?_
            refine wn_iload (i := 33) rfl rfl ?_
            refine wn_ic_ge (i := 34) (a := (f 3 (4096 * j + x))) (b := b) (t' := 37) rfl rfl (by omega) (by omega) (fun c34 => ?_) (fun c34 => ?_)
            · skip
              refine wn_iload (i := 37) rfl rfl ?_
              refine wn_istore (i := 38) (ls' := [some (.ref o), some (.int (nI j)), some (.int (nI (g).toNat)), some (.int (nI b)), some (.int (nI x)), some (.int (nI (f 3 (4096 * j + x))))]) rfl (Nat.le_of_ble_eq_true rfl) rfl ?_
              refine wn_iinc (i := 39) (x := x) (n := 1) (ls' := [some (.ref o), some (.int (nI j)), some (.int (nI (g).toNat)), some (.int (nI b)), some (.int (nI (x + 1))), some (.int (nI (f 3 (4096 * j + x))))]) rfl rfl rfl rfl ?_
              refine wn_goto (i := 40) (t' := 10) rfl rfl ?_
              exact ih (x + 1) _ _ (by omega) (by omega) (by subst c27; simp only [bO, c17, if_true, eo, eq_self, Bool.false_eq_true, if_false]; first | (rw [if_pos (by omega)]; rfl) | (rw [if_neg (by omega)]; rfl))
            · skip
              refine wn_iload (i := 35) rfl rfl ?_
              refine wn_goto (i := 36) (t' := 38) rfl rfl ?_
              refine wn_istore (i := 38) (ls' := [some (.ref o), some (.int (nI j)), some (.int (nI (g).toNat)), some (.int (nI (f 3 (4096 * j + x)))), some (.int (nI x)), some (.int (nI (f 3 (4096 * j + x))))]) rfl (Nat.le_of_ble_eq_true rfl) rfl ?_
              refine wn_iinc (i := 39) (x := x) (n := 1) (ls' := [some (.ref o), some (.int (nI j)), some (.int (nI (g).toNat)), some (.int (nI (f 3 (4096 * j + x)))), some (.int (nI (x + 1))), some (.int (nI (f 3 (4096 * j + x))))]) rfl rfl rfl rfl ?_
              refine wn_goto (i := 40) (t' := 10) rfl rfl ?_
              exact ih (x + 1) _ _ (by omega) (by omega) (by subst c27; simp only [bO, c17, if_true, eo, eq_self, Bool.false_eq_true, if_false]; first | (rw [if_pos (by omega)]; rfl) | (rw [if_neg (by omega)]; rfl))
          · skip
            refine wn_iload (i := 28) rfl rfl ?_
            refine wn_iload (i := 29) rfl rfl ?_
            refine wn_ic_le (i := 30) (a := (f 3 (4096 * j + x))) (b := b) (t' := 37) rfl rfl (by omega) (by omega) (fun c30 => ?_) (fun c30 => ?_)
            · skip
              refine wn_iload (i := 37) rfl rfl ?_
              refine wn_istore (i := 38) (ls' := [some (.ref o), some (.int (nI j)), some (.int (nI (g).toNat)), some (.int (nI b)), some (.int (nI x)), some (.int (nI (f 3 (4096 * j + x))))]) rfl (Nat.le_of_ble_eq_true rfl) rfl ?_
              refine wn_iinc (i := 39) (x := x) (n := 1) (ls' := [some (.ref o), some (.int (nI j)), some (.int (nI (g).toNat)), some (.int (nI b)), some (.int (nI (x + 1))), some (.int (nI (f 3 (4096 * j + x))))]) rfl rfl rfl rfl ?_
              refine wn_goto (i := 40) (t' := 10) rfl rfl ?_
              exact ih (x + 1) _ _ (by omega) (by omega) (by subst c27; simp only [bO, c17, if_true, eo, eq_self, Bool.false_eq_true, if_false]; first | (rw [if_pos (by omega)]; rfl) | (rw [if_neg (by omega)]; rfl))
            · skip
              refine wn_goto (i := 31) (t' := 35) rfl rfl ?_
              refine wn_iload (i := 35) rfl rfl ?_
              refine wn_goto (i := 36) (t' := 38) rfl rfl ?_
              refine wn_istore (i := 38) (ls' := [some (.ref o), some (.int (nI j)), some (.int (nI (g).toNat)), some (.int (nI (f 3 (4096 * j + x)))), some (.int (nI x)), some (.int (nI (f 3 (4096 * j + x))))]) rfl (Nat.le_of_ble_eq_true rfl) rfl ?_
              refine wn_iinc (i := 39) (x := x) (n := 1) (ls' := [some (.ref o), some (.int (nI j)), some (.int (nI (g).toNat)), some (.int (nI (f 3 (4096 * j + x)))), some (.int (nI (x + 1))), some (.int (nI (f 3 (4096 * j + x))))]) rfl rfl rfl rfl ?_
              refine wn_goto (i := 40) (t' := 10) rfl rfl ?_
              exact ih (x + 1) _ _ (by omega) (by omega) (by subst c27; simp only [bO, c17, if_true, eo, eq_self, Bool.false_eq_true, if_false]; first | (rw [if_pos (by omega)]; rfl) | (rw [if_neg (by omega)]; rfl))
theorem m_bound (hX : MX o n f h0 h) (hb : MB n f) {a : Int32} {g : Bool} (hBad : (∀ j, j < n 0 → a ≠ nI j) → Q (some (.int (-2))) h) (hQ : ∀ j, j < n 0 → a = nI j → Q (some (.int (oI (bO n f j g (2 ^ n 4))))) h) : xm_wp sc (d + 2) 6 0 [some (.ref o), some (.int a), some (.int (nI (g).toNat)), none, none, none] [] h Q := by
  have hT := hb.1
  refine wn_aload (i := 0) rfl rfl ?_
  refine wn_iload (i := 1) rfl rfl ?_
  refine wn_callv (i := 2) (as := [.int a]) (b := o) (rest := []) (es := [some (.ref o), some (.int a)]) rfl rfl rfl rfl rfl (Nat.le_of_ble_eq_true rfl) rfl hX.1.1 rfl ?_
  refine m_has hX hT (fun j hj ej => ?_) (fun hno2 => ?_)
  · skip
    subst ej
    show xm_wp sc (d + 2) 6 3 [some (.ref o), some (.int (nI j)), some (.int (nI (g).toNat)), none, none, none] [.int (nI (true).toNat)] h Q
    refine wb_if_ne (i := 3) (b := true) (t' := 6) rfl rfl (fun c3 => ?_) (fun c3 => ?_)
    · skip
      refine wn_constI (i := 6) (n := -1) rfl rfl ?_
      refine wn_istore (i := 7) (ls' := [some (.ref o), some (.int (nI j)), some (.int (nI (g).toNat)), some (.int (-1)), none, none]) rfl (Nat.le_of_ble_eq_true rfl) rfl ?_
      refine wn_const (i := 8) (n := 0) rfl rfl ?_
      refine wn_istore (i := 9) (ls' := [some (.ref o), some (.int (nI j)), some (.int (nI (g).toNat)), some (.int (-1)), some (.int (nI 0)), none]) rfl (Nat.le_of_ble_eq_true rfl) rfl ?_
      exact l_bound hX hb hj (hQ j hj rfl) (2 ^ n 4 + 1) 0 _ _ (Nat.zero_le _) (by omega) rfl
    · cases c3
  · skip
    show xm_wp sc (d + 2) 6 3 [some (.ref o), some (.int a), some (.int (nI (g).toNat)), none, none, none] [.int (nI (false).toNat)] h Q
    refine wb_if_ne (i := 3) (b := false) (t' := 6) rfl rfl (fun c3 => ?_) (fun c3 => ?_)
    · cases c3
    · skip
      refine wn_constI (i := 4) (n := -2) rfl rfl ?_
      exact wn_ret (i := 5) rfl rfl (hBad hno2)
theorem l_same (hX : MX o n f h0 h) (hb : MB n f) {j u : Nat} (hj : j < n 0) (hu : u < n 0) (hQ : Q (some (.int (nI (sE n f j u (2 ^ n 4)).toNat))) h) : ∀ (m : Nat) (x b : Nat), x ≤ 2 ^ n 4 → 2 ^ n 4 < x + m → b = (sE n f j u x).toNat → xm_wp sc (d + 2) 29 23 [some (.ref o), some (.int (nI j)), some (.int (nI u)), some (.int (nI b)), some (.int (nI x))] [] h Q := by
  intro m
  induction m with
  | zero => intro x b h1 h2; exact absurd h2 (by omega)
  | succ m ih =>
    intro x b h1 h2 eb
    obtain ⟨hT, hB, b5, b7, bc, ba, bl, bn⟩ := id hb
    have hN := xn_p12 hB
    have hc := cM_le n f x
    subst eb
    refine wn_iload (i := 23) rfl rfl ?_
    refine wn_aload (i := 24) rfl rfl ?_
    refine wn_callv (i := 25) (as := []) (b := o) (rest := [.int (nI x)]) (es := [some (.ref o)]) rfl rfl rfl rfl rfl (Nat.le_of_ble_eq_true rfl) rfl hX.1.1 rfl ?_
    refine m_all hX hB ?_
    show xm_wp sc (d + 2) 29 26 [some (.ref o), some (.int (nI j)), some (.int (nI u)), some (.int (nI (sE n f j u x).toNat)), some (.int (nI x))] [.int (nI (2 ^ n 4)), .int (nI x)] h Q
    refine wn_ic_ge (i := 26) (a := x) (b := (2 ^ n 4)) (t' := 48) rfl rfl (by omega) (by omega) (fun c26 => ?_) (fun c26 => ?_)
    · skip
      have ex : x = 2 ^ n 4 := by omega
      refine wn_iload (i := 48) rfl rfl ?_
      refine wb_if_eq (i := 49) (b := (sE n f j u x)) (t' := 52) rfl rfl (fun c49 => ?_) (fun c49 => ?_)
      · skip
        refine wn_const (i := 52) (n := 0) rfl rfl ?_
        have e1 : (sE n f j u (2 ^ n 4)).toNat = 0 := by rw [← ex, c49]; rfl
        rw [e1] at hQ
        exact wn_ret (i := 53) rfl rfl hQ
      · skip
        refine wn_const (i := 50) (n := 1) rfl rfl ?_
        refine wn_goto (i := 51) (t' := 53) rfl rfl ?_
        have e1 : (sE n f j u (2 ^ n 4)).toNat = 1 := by rw [← ex, c49]; rfl
        rw [e1] at hQ
        exact wn_ret (i := 53) rfl rfl hQ
    · skip
      refine wn_iload (i := 27) rfl rfl ?_
      refine wb_if_eq (i := 28) (b := (sE n f j u x)) (t' := 44) rfl rfl (fun c28 => ?_) (fun c28 => ?_)
      · skip
        refine wn_const (i := 44) (n := 0) rfl rfl ?_
        refine wn_istore (i := 45) (ls' := [some (.ref o), some (.int (nI j)), some (.int (nI u)), some (.int (nI 0)), some (.int (nI x))]) rfl (Nat.le_of_ble_eq_true rfl) rfl ?_
        refine wn_iinc (i := 46) (x := x) (n := 1) (ls' := [some (.ref o), some (.int (nI j)), some (.int (nI u)), some (.int (nI 0)), some (.int (nI (x + 1)))]) rfl rfl rfl rfl ?_
        refine wn_goto (i := 47) (t' := 23) rfl rfl ?_
        exact ih (x + 1) 0 (by omega) (by omega) (by simp [sE, c28])
      · skip
        refine wn_aload (i := 29) rfl rfl ?_
        refine wn_iload (i := 30) rfl rfl ?_
        refine wn_callv (i := 31) (as := [.int (nI x)]) (b := o) (rest := []) (es := [some (.ref o), some (.int (nI x)), none, none]) rfl rfl rfl rfl rfl (Nat.le_of_ble_eq_true rfl) rfl hX.1.1 rfl ?_
        refine m_isModel hX hb (by omega) ?_
        show xm_wp sc (d + 2) 29 32 [some (.ref o), some (.int (nI j)), some (.int (nI u)), some (.int (nI (sE n f j u x).toNat)), some (.int (nI x))] [.int (nI (mB n f x).toNat)] h Q
        refine wb_if_eq (i := 32) (b := (mB n f x)) (t' := 42) rfl rfl (fun c32 => ?_) (fun c32 => ?_)
        · skip
          refine wn_const (i := 42) (n := 1) rfl rfl ?_
          refine wn_goto (i := 43) (t' := 45) rfl rfl ?_
          refine wn_istore (i := 45) (ls' := [some (.ref o), some (.int (nI j)), some (.int (nI u)), some (.int (nI 1)), some (.int (nI x))]) rfl (Nat.le_of_ble_eq_true rfl) rfl ?_
          refine wn_iinc (i := 46) (x := x) (n := 1) (ls' := [some (.ref o), some (.int (nI j)), some (.int (nI u)), some (.int (nI 1)), some (.int (nI (x + 1)))]) rfl rfl rfl rfl ?_
          refine wn_goto (i := 47) (t' := 23) rfl rfl ?_
          exact ih (x + 1) 1 (by omega) (by omega) (by simp [sE, c28, c32])
        · skip
          have hbn := bn (4096 * j + x) (by omega)
          have hbn2 := bn (4096 * u + x) (by omega)
          refine wn_aload (i := 33) rfl rfl ?_
          refine wn_iload (i := 34) rfl rfl ?_
          refine wn_iload (i := 35) rfl rfl ?_
          refine wn_callv (i := 36) (as := [.int (nI j), .int (nI x)]) (b := o) (rest := []) (es := [some (.ref o), some (.int (nI j)), some (.int (nI x))]) rfl rfl rfl rfl rfl (Nat.le_of_ble_eq_true rfl) rfl hX.1.1 rfl ?_
          refine m_by hX (by omega) ?_
          show xm_wp sc (d + 2) 29 37 [some (.ref o), some (.int (nI j)), some (.int (nI u)), some (.int (nI (sE n f j u x).toNat)), some (.int (nI x))] [.int (nI (f 3 (4096 * j + x)))] h Q
          refine wn_aload (i := 37) rfl rfl ?_
          refine wn_iload (i := 38) rfl rfl ?_
          refine wn_iload (i := 39) rfl rfl ?_
          refine wn_callv (i := 40) (as := [.int (nI u), .int (nI x)]) (b := o) (rest := [.int (nI (f 3 (4096 * j + x)))]) (es := [some (.ref o), some (.int (nI u)), some (.int (nI x))]) rfl rfl rfl rfl rfl (Nat.le_of_ble_eq_true rfl) rfl hX.1.1 rfl ?_
          refine m_by hX (by omega) ?_
          show xm_wp sc (d + 2) 29 41 [some (.ref o), some (.int (nI j)), some (.int (nI u)), some (.int (nI (sE n f j u x).toNat)), some (.int (nI x))] [.int (nI (f 3 (4096 * u + x))), .int (nI (f 3 (4096 * j + x)))] h Q
          refine wn_ic_ne (i := 41) (a := (f 3 (4096 * j + x))) (b := (f 3 (4096 * u + x))) (t' := 44) rfl rfl (by omega) (by omega) (fun c41 => ?_) (fun c41 => ?_)
          · skip
            refine wn_const (i := 44) (n := 0) rfl rfl ?_
            refine wn_istore (i := 45) (ls' := [some (.ref o), some (.int (nI j)), some (.int (nI u)), some (.int (nI 0)), some (.int (nI x))]) rfl (Nat.le_of_ble_eq_true rfl) rfl ?_
            refine wn_iinc (i := 46) (x := x) (n := 1) (ls' := [some (.ref o), some (.int (nI j)), some (.int (nI u)), some (.int (nI 0)), some (.int (nI (x + 1)))]) rfl rfl rfl rfl ?_
            refine wn_goto (i := 47) (t' := 23) rfl rfl ?_
            exact ih (x + 1) 0 (by omega) (by omega) (by simp [sE, c28, c32, c41])
          · skip
            refine wn_const (i := 42) (n := 1) rfl rfl ?_
            refine wn_goto (i := 43) (t' := 45) rfl rfl ?_
            refine wn_istore (i := 45) (ls' := [some (.ref o), some (.int (nI j)), some (.int (nI u)), some (.int (nI 1)), some (.int (nI x))]) rfl (Nat.le_of_ble_eq_true rfl) rfl ?_
            refine wn_iinc (i := 46) (x := x) (n := 1) (ls' := [some (.ref o), some (.int (nI j)), some (.int (nI u)), some (.int (nI 1)), some (.int (nI (x + 1)))]) rfl rfl rfl rfl ?_
            refine wn_goto (i := 47) (t' := 23) rfl rfl ?_
            exact ih (x + 1) 1 (by omega) (by omega) (by simp [sE, c28, c32, c41])
theorem m_same (hX : MX o n f h0 h) (hb : MB n f) {a b : Int32} (hs : ∀ t, t < n 0 → f 1 t ≤ 12) (hBad : (∀ j u, j < n 0 → u < n 0 → a = nI j → b = nI u → f 1 j ≠ f 1 u) → Q (some (.int (-2))) h) (hQ : ∀ j u, j < n 0 → u < n 0 → a = nI j → b = nI u → f 1 j = f 1 u → Q (some (.int (nI (sE n f j u (2 ^ n 4)).toNat))) h) : xm_wp sc (d + 2) 29 0 [some (.ref o), some (.int a), some (.int b), none, none] [] h Q := by
  have hT := hb.1
  refine wn_aload (i := 0) rfl rfl ?_
  refine wn_iload (i := 1) rfl rfl ?_
  refine wn_callv (i := 2) (as := [.int a]) (b := o) (rest := []) (es := [some (.ref o), some (.int a)]) rfl rfl rfl rfl rfl (Nat.le_of_ble_eq_true rfl) rfl hX.1.1 rfl ?_
  refine m_has hX hT (fun j hj ej => ?_) (fun hno2 => ?_)
  · skip
    subst ej
    show xm_wp sc (d + 2) 29 3 [some (.ref o), some (.int (nI j)), some (.int b), none, none] [.int (nI (true).toNat)] h Q
    refine wb_if_eq (i := 3) (b := true) (t' := 17) rfl rfl (fun c3 => ?_) (fun c3 => ?_)
    · cases c3
    · skip
      refine wn_aload (i := 4) rfl rfl ?_
      refine wn_iload (i := 5) rfl rfl ?_
      refine wn_callv (i := 6) (as := [.int b]) (b := o) (rest := []) (es := [some (.ref o), some (.int b)]) rfl rfl rfl rfl rfl (Nat.le_of_ble_eq_true rfl) rfl hX.1.1 rfl ?_
      refine m_has hX hT (fun u hu eu => ?_) (fun hno6 => ?_)
      · skip
        subst eu
        show xm_wp sc (d + 2) 29 7 [some (.ref o), some (.int (nI j)), some (.int (nI u)), none, none] [.int (nI (true).toNat)] h Q
        refine wb_if_eq (i := 7) (b := true) (t' := 17) rfl rfl (fun c7 => ?_) (fun c7 => ?_)
        · cases c7
        · skip
          have hs1 := hs j hj
          have hs2 := hs u hu
          refine wn_aload (i := 8) rfl rfl ?_
          refine wp_get (i := 9) (n := 1) (a := o) (v := .ref (o + 1)) rfl hX.1.1 rfl ?_
          refine wn_iload (i := 10) rfl rfl ?_
          refine wm_iald (i := 11) (k := 1) (e := j) (len := 24) rfl hX (by decide) (by decide) rfl rfl rfl (by omega) (by decide) ?_
          refine wn_aload (i := 12) rfl rfl ?_
          refine wp_get (i := 13) (n := 1) (a := o) (v := .ref (o + 1)) rfl hX.1.1 rfl ?_
          refine wn_iload (i := 14) rfl rfl ?_
          refine wm_iald (i := 15) (k := 1) (e := u) (len := 24) rfl hX (by decide) (by decide) rfl rfl rfl (by omega) (by decide) ?_
          refine wn_ic_eq (i := 16) (a := (f 1 j)) (b := (f 1 u)) (t' := 19) rfl rfl (by omega) (by omega) (fun c16 => ?_) (fun c16 => ?_)
          · skip
            refine wn_const (i := 19) (n := 1) rfl rfl ?_
            refine wn_istore (i := 20) (ls' := [some (.ref o), some (.int (nI j)), some (.int (nI u)), some (.int (nI 1)), none]) rfl (Nat.le_of_ble_eq_true rfl) rfl ?_
            refine wn_const (i := 21) (n := 0) rfl rfl ?_
            refine wn_istore (i := 22) (ls' := [some (.ref o), some (.int (nI j)), some (.int (nI u)), some (.int (nI 1)), some (.int (nI 0))]) rfl (Nat.le_of_ble_eq_true rfl) rfl ?_
            exact l_same hX hb hj hu (hQ j u hj hu rfl rfl c16) (2 ^ n 4 + 1) 0 1 (Nat.zero_le _) (by omega) rfl
          · skip
            refine wn_constI (i := 17) (n := -2) rfl rfl ?_
            exact wn_ret (i := 18) rfl rfl (hBad (fun j' u' hj' hu' ej' eu' => by first | exact absurd ej' (hno2 j' hj') | exact absurd eu' (hno6 u' hu') | (rw [← (nI_eq (by omega) (by omega)).mp ej', ← (nI_eq (by omega) (by omega)).mp eu']; exact c16)))
      · skip
        show xm_wp sc (d + 2) 29 7 [some (.ref o), some (.int (nI j)), some (.int b), none, none] [.int (nI (false).toNat)] h Q
        refine wb_if_eq (i := 7) (b := false) (t' := 17) rfl rfl (fun c7 => ?_) (fun c7 => ?_)
        · skip
          refine wn_constI (i := 17) (n := -2) rfl rfl ?_
          exact wn_ret (i := 18) rfl rfl (hBad (fun j' u' hj' hu' ej' eu' => by first | exact absurd ej' (hno2 j' hj') | exact absurd eu' (hno6 u' hu') | (rw [← (nI_eq (by omega) (by omega)).mp ej', ← (nI_eq (by omega) (by omega)).mp eu']; exact c16)))
        · cases c7
  · skip
    show xm_wp sc (d + 2) 29 3 [some (.ref o), some (.int a), some (.int b), none, none] [.int (nI (false).toNat)] h Q
    refine wb_if_eq (i := 3) (b := false) (t' := 17) rfl rfl (fun c3 => ?_) (fun c3 => ?_)
    · skip
      refine wn_constI (i := 17) (n := -2) rfl rfl ?_
      exact wn_ret (i := 18) rfl rfl (hBad (fun j' u' hj' hu' ej' eu' => by first | exact absurd ej' (hno2 j' hj') | exact absurd eu' (hno6 u' hu') | (rw [← (nI_eq (by omega) (by omega)).mp ej', ← (nI_eq (by omega) (by omega)).mp eu']; exact c16)))
    · cases c3
end MM
end
section
/-! ===== the reference: certain, values, count ===== -/
def cF (n : Nat → Nat) (f : Nat → Nat → Nat) (a : Nat) : Nat → Option Nat
  | 0 => none
  | x + 1 => if mB n f x then (match cF n f a x with
    | none => some (f 3 (4096 * a + x))
    | some w => some w) else cF n f a x
def cS (n : Nat → Nat) (f : Nat → Nat → Nat) (a w : Nat) : Nat → Int32
  | 0 => nI (2 ^ w - 1)
  | x + 1 => if mB n f x then cS n f a w x &&& (nI (((cF n f a x).getD (f 3 (4096 * a + x))) ^^^ f 3 (4096 * a + x)) ^^^ -1) else cS n f a w x
def cR (n : Nat → Nat) (f : Nat → Nat → Nat) (a w x : Nat) : Int32 := match cF n f a x with
  | none => -1
  | some _ => cS n f a w x
theorem cF_lt {n : Nat → Nat} {f : Nat → Nat → Nat} {a N : Nat} (hn : ∀ x, x < N → f 3 (4096 * a + x) < 4096) : ∀ {x : Nat}, x ≤ N → ∀ v, cF n f a x = some v → v < 4096
  | 0, _, v, hv => by cases hv
  | x + 1, hx, v, hv => by
    have ih := cF_lt hn (x := x) (n := n) (by omega)
    have h1 := hn x (by omega)
    unfold cF at hv
    split at hv
    · split at hv
      · cases hv; exact h1
      · rename_i b hb
        cases hv
        exact ih _ hb
    · exact ih v hv
/-- the arrays that count are the same -/
def sF (f f' : Nat → Nat → Nat) : Prop := ∀ k, k < 8 → f' k = f k
theorem sF.rf (f : Nat → Nat → Nat) : sF f f := fun _ _ => rfl
theorem sF.up {f f' : Nat → Nat → Nat} (h : sF f f') {k e x : Nat} (hk : 8 ≤ k) : sF f (fU f' k e x) := by
  intro k' hk'
  rw [← h k' hk']
  funext j
  exact fU_ne (fun q => by omega)
theorem kC_congr {f f' : Nat → Nat → Nat} (h3 : f' 3 = f 3) (h4 : f' 4 = f 4) (x : Nat) : ∀ k, kC f' x k = kC f x k
  | 0 => rfl
  | k + 1 => by simp only [kC, kC_congr h3 h4 x k, h3, h4]
theorem kA_congr {f f' : Nat → Nat → Nat} (h3 : f' 3 = f 3) (h5 : f' 5 = f 5) (h7 : f' 7 = f 7) (x : Nat) : ∀ k, kA f' x k = kA f x k
  | 0 => rfl
  | k + 1 => by simp only [kA, kA_congr h3 h5 h7 x k, h3, h5, h7]
theorem mB_congr {n : Nat → Nat} {f f' : Nat → Nat → Nat} (h : sF f f') (x : Nat) : mB n f' x = mB n f x := by
  unfold mB
  rw [kC_congr (h 3 (by omega)) (h 4 (by omega)), kA_congr (h 3 (by omega)) (h 5 (by omega)) (h 7 (by omega))]
theorem MB_congr {n : Nat → Nat} {f f' : Nat → Nat → Nat} (h : sF f f') (hb : MB n f) : MB n f' := by
  unfold MB at hb ⊢
  rw [h 4 (by omega), h 5 (by omega), h 7 (by omega), h 3 (by omega)]
  exact hb
section MM
variable {sc : Nat × Nat × (Nat → Int32)} {d o : Nat} {h h0 : xm_S} {Q : Option Value → xm_S → Prop} {n : Nat → Nat} {f : Nat → Nat → Nat}
theorem m_isModelS {f1 : Nat → Nat → Nat} (hX : MX o n f1 h0 h) (hs : sF f f1) (hb : MB n f) {x : Nat} (hx : x < 4096) (hQ : Q (some (.int (nI (mB n f x).toNat))) h) : xm_wp sc (d + 1) 21 0 [some (.ref o), some (.int (nI x)), none, none] [] h Q := m_isModel hX (MB_congr hs hb) hx (by rw [mB_congr hs]; exact hQ)
theorem m_byS {f1 : Nat → Nat → Nat} {a x : Nat} (hX : MX o n f1 h0 h) (hs : sF f f1) (hb : 4096 * a + x < 98304) (hQ : Q (some (.int (nI (f 3 (4096 * a + x))))) h) : xm_wp sc (d) 7 0 [some (.ref o), some (.int (nI a)), some (.int (nI x))] [] h Q := m_by hX hb (by rw [hs 3 (by omega)]; exact hQ)
theorem l_certain (hX : MX o n f h0 h) (hb : MB n f) {j : Nat} (hj : j < n 0) (hQ : Q (some (.int (cR n f j (f 1 j) (2 ^ n 4)))) h) : ∀ (m : Nat) (x : Nat) (b c : Int32), x ≤ 2 ^ n 4 → 2 ^ n 4 < x + m → b = oI (cF n f j x) → c = cS n f j (f 1 j) x → xm_wp sc (d + 2) 8 16 [some (.ref o), some (.int (nI j)), some (.int b), some (.int c), some (.int (nI x))] [] h Q := by
  intro m
  induction m with
  | zero => intro x b c h1 h2; exact absurd h2 (by omega)
  | succ m ih =>
    intro x b c h1 h2 eb ec
    obtain ⟨hT, hB, b5, b7, bc, ba, bl, bn⟩ := id hb
    have hN := xn_p12 hB
    have hc := cM_le n f x
    have hbd : ∀ v, cF n f j x = some v → v < 4096 := cF_lt (N := 2 ^ n 4) (fun x hx => bn _ (by omega)) (by omega)
    subst eb
    subst ec
    refine wn_iload (i := 16) rfl rfl ?_
    refine wn_aload (i := 17) rfl rfl ?_
    refine wn_callv (i := 18) (as := []) (b := o) (rest := [.int (nI x)]) (es := [some (.ref o)]) rfl rfl rfl rfl rfl (Nat.le_of_ble_eq_true rfl) rfl hX.1.1 rfl ?_
    refine m_all hX hB ?_
    show xm_wp sc (d + 2) 8 19 [some (.ref o), some (.int (nI j)), some (.int (oI (cF n f j x))), some (.int (cS n f j (f 1 j) x)), some (.int (nI x))] [.int (nI (2 ^ n 4)), .int (nI x)] h Q
    refine wn_ic_ge (i := 19) (a := x) (b := (2 ^ n 4)) (t' := 47) rfl rfl (by omega) (by omega) (fun c19 => ?_) (fun c19 => ?_)
    · skip
      have ex : x = 2 ^ n 4 := by omega
      subst ex
      unfold cR at hQ
      cases eo : cF n f j (2 ^ n 4) with
      | none =>
        rw [eo] at hQ
        show xm_wp sc (d + 2) 8 47 [some (.ref o), some (.int (nI j)), some (.int (-1)), some (.int (cS n f j (f 1 j) (2 ^ n 4))), some (.int (nI (2 ^ n 4)))] [] h Q
        refine wn_iload (i := 47) rfl rfl ?_
        refine wn_constI (i := 48) (n := -1) rfl rfl ?_
        refine wi_ic_ne (i := 49) (a := -1) (b := -1) (t' := 52) rfl rfl (fun c49 => absurd rfl c49) (fun c49 => ?_)
        refine wn_constI (i := 50) (n := -1) rfl rfl ?_
        refine wn_goto (i := 51) (t' := 53) rfl rfl ?_
        exact wn_ret (i := 53) rfl rfl hQ
      | some b =>
        rw [eo] at hQ
        have hbb := hbd b eo
        show xm_wp sc (d + 2) 8 47 [some (.ref o), some (.int (nI j)), some (.int (nI b)), some (.int (cS n f j (f 1 j) (2 ^ n 4))), some (.int (nI (2 ^ n 4)))] [] h Q
        refine wn_iload (i := 47) rfl rfl ?_
        refine wn_constI (i := 48) (n := -1) rfl rfl ?_
        refine wi_ic_ne (i := 49) (a := nI b) (b := -1) (t' := 52) rfl rfl (fun c49 => ?_) (fun c49 => absurd c49 (xn_m1 (by omega)))
        refine wn_iload (i := 52) rfl rfl ?_
        exact wn_ret (i := 53) rfl rfl hQ
    · skip
      refine wn_aload (i := 20) rfl rfl ?_
      refine wn_iload (i := 21) rfl rfl ?_
      refine wn_callv (i := 22) (as := [.int (nI x)]) (b := o) (rest := []) (es := [some (.ref o), some (.int (nI x)), none, none]) rfl rfl rfl rfl rfl (Nat.le_of_ble_eq_true rfl) rfl hX.1.1 rfl ?_
      refine m_isModel hX hb (by omega) ?_
      show xm_wp sc (d + 2) 8 23 [some (.ref o), some (.int (nI j)), some (.int (oI (cF n f j x))), some (.int (cS n f j (f 1 j) x)), some (.int (nI x))] [.int (nI (mB n f x).toNat)] h Q
      refine wb_if_eq (i := 23) (b := (mB n f x)) (t' := 45) rfl rfl (fun c23 => ?_) (fun c23 => ?_)
      · skip
        refine wn_iinc (i := 45) (x := x) (n := 1) (ls' := [some (.ref o), some (.int (nI j)), some (.int (oI (cF n f j x))), some (.int (cS n f j (f 1 j) x)), some (.int (nI (x + 1)))]) rfl rfl rfl rfl ?_
        refine wn_goto (i := 46) (t' := 16) rfl rfl ?_
        exact ih (x + 1) _ _ (by omega) (by omega) (by simp [cF, c23]) (by simp [cS, c23])
      · skip
        have hbn := bn (4096 * j + x) (by omega)
        cases eo : cF n f j x with
        | none =>
          show xm_wp sc (d + 2) 8 24 [some (.ref o), some (.int (nI j)), some (.int (-1)), some (.int (cS n f j (f 1 j) x)), some (.int (nI x))] [] h Q
          refine wn_iload (i := 24) rfl rfl ?_
          refine wn_constI (i := 25) (n := -1) rfl rfl ?_
          refine wi_ic_ne (i := 26) (a := -1) (b := -1) (t' := 32) rfl rfl (fun c26 => absurd rfl c26) (fun c26 => ?_)
          refine wn_aload (i := 27) rfl rfl ?_
          refine wn_iload (i := 28) rfl rfl ?_
          refine wn_iload (i := 29) rfl rfl ?_
          refine wn_callv (i := 30) (as := [.int (nI j), .int (nI x)]) (b := o) (rest := []) (es := [some (.ref o), some (.int (nI j)), some (.int (nI x))]) rfl rfl rfl rfl rfl (Nat.le_of_ble_eq_true rfl) rfl hX.1.1 rfl ?_
          refine m_by hX (by omega) ?_
          show xm_wp sc (d + 2) 8 31 [some (.ref o), some (.int (nI j)), some (.int (-1)), some (.int (cS n f j (f 1 j) x)), some (.int (nI x))] [.int (nI (f 3 (4096 * j + x)))] h Q
          refine wn_goto (i := 31) (t' := 33) rfl rfl ?_
          refine wn_istore (i := 33) (ls' := [some (.ref o), some (.int (nI j)), some (.int (nI (f 3 (4096 * j + x)))), some (.int (cS n f j (f 1 j) x)), some (.int (nI x))]) rfl (Nat.le_of_ble_eq_true rfl) rfl ?_
          refine wn_iload (i := 34) rfl rfl ?_
          refine wn_iload (i := 35) rfl rfl ?_
          refine wn_aload (i := 36) rfl rfl ?_
          refine wn_iload (i := 37) rfl rfl ?_
          refine wn_iload (i := 38) rfl rfl ?_
          refine wn_callv (i := 39) (as := [.int (nI j), .int (nI x)]) (b := o) (rest := [.int (nI (f 3 (4096 * j + x))), .int (cS n f j (f 1 j) x)]) (es := [some (.ref o), some (.int (nI j)), some (.int (nI x))]) rfl rfl rfl rfl rfl (Nat.le_of_ble_eq_true rfl) rfl hX.1.1 rfl ?_
          refine m_by hX (by omega) ?_
          show xm_wp sc (d + 2) 8 40 [some (.ref o), some (.int (nI j)), some (.int (nI (f 3 (4096 * j + x)))), some (.int (cS n f j (f 1 j) x)), some (.int (nI x))] [.int (nI (f 3 (4096 * j + x))), .int (nI (f 3 (4096 * j + x))), .int (cS n f j (f 1 j) x)] h Q
          refine wn_ixor (i := 40) (a := (f 3 (4096 * j + x))) (b := (f 3 (4096 * j + x))) rfl ?_
          refine wn_constI (i := 41) (n := -1) rfl rfl ?_
          refine wi_ixor (i := 42) (a := (nI ((f 3 (4096 * j + x)) ^^^ (f 3 (4096 * j + x))))) (b := (-1)) rfl ?_
          refine wi_iand (i := 43) (a := (cS n f j (f 1 j) x)) (b := ((nI ((f 3 (4096 * j + x)) ^^^ (f 3 (4096 * j + x)))) ^^^ (-1))) rfl ?_
          refine wn_istore (i := 44) (ls' := [some (.ref o), some (.int (nI j)), some (.int (nI (f 3 (4096 * j + x)))), some (.int ((cS n f j (f 1 j) x) &&& ((nI ((f 3 (4096 * j + x)) ^^^ (f 3 (4096 * j + x)))) ^^^ (-1)))), some (.int (nI x))]) rfl (Nat.le_of_ble_eq_true rfl) rfl ?_
          refine wn_iinc (i := 45) (x := x) (n := 1) (ls' := [some (.ref o), some (.int (nI j)), some (.int (nI (f 3 (4096 * j + x)))), some (.int ((cS n f j (f 1 j) x) &&& ((nI ((f 3 (4096 * j + x)) ^^^ (f 3 (4096 * j + x)))) ^^^ (-1)))), some (.int (nI (x + 1)))]) rfl rfl rfl rfl ?_
          refine wn_goto (i := 46) (t' := 16) rfl rfl ?_
          exact ih (x + 1) _ _ (by omega) (by omega) (by simp [cF, oI, c23, eo]) (by simp [cS, c23, eo])
        | some b =>
          have hbb := hbd b eo
          show xm_wp sc (d + 2) 8 24 [some (.ref o), some (.int (nI j)), some (.int (nI b)), some (.int (cS n f j (f 1 j) x)), some (.int (nI x))] [] h Q
          refine wn_iload (i := 24) rfl rfl ?_
          refine wn_constI (i := 25) (n := -1) rfl rfl ?_
          refine wi_ic_ne (i := 26) (a := nI b) (b := -1) (t' := 32) rfl rfl (fun c26 => ?_) (fun c26 => absurd c26 (xn_m1 (by omega)))
          refine wn_iload (i := 32) rfl rfl ?_
          refine wn_istore (i := 33) (ls' := [some (.ref o), some (.int (nI j)), some (.int (nI b)), some (.int (cS n f j (f 1 j) x)), some (.int (nI x))]) rfl (Nat.le_of_ble_eq_true rfl) rfl ?_
          refine wn_iload (i := 34) rfl rfl ?_
          refine wn_iload (i := 35) rfl rfl ?_
          refine wn_aload (i := 36) rfl rfl ?_
          refine wn_iload (i := 37) rfl rfl ?_
          refine wn_iload (i := 38) rfl rfl ?_
          refine wn_callv (i := 39) (as := [.int (nI j), .int (nI x)]) (b := o) (rest := [.int (nI b), .int (cS n f j (f 1 j) x)]) (es := [some (.ref o), some (.int (nI j)), some (.int (nI x))]) rfl rfl rfl rfl rfl (Nat.le_of_ble_eq_true rfl) rfl hX.1.1 rfl ?_
          refine m_by hX (by omega) ?_
          show xm_wp sc (d + 2) 8 40 [some (.ref o), some (.int (nI j)), some (.int (nI b)), some (.int (cS n f j (f 1 j) x)), some (.int (nI x))] [.int (nI (f 3 (4096 * j + x))), .int (nI b), .int (cS n f j (f 1 j) x)] h Q
          refine wn_ixor (i := 40) (a := b) (b := (f 3 (4096 * j + x))) rfl ?_
          refine wn_constI (i := 41) (n := -1) rfl rfl ?_
          refine wi_ixor (i := 42) (a := (nI (b ^^^ (f 3 (4096 * j + x))))) (b := (-1)) rfl ?_
          refine wi_iand (i := 43) (a := (cS n f j (f 1 j) x)) (b := ((nI (b ^^^ (f 3 (4096 * j + x)))) ^^^ (-1))) rfl ?_
          refine wn_istore (i := 44) (ls' := [some (.ref o), some (.int (nI j)), some (.int (nI b)), some (.int ((cS n f j (f 1 j) x) &&& ((nI (b ^^^ (f 3 (4096 * j + x)))) ^^^ (-1)))), some (.int (nI x))]) rfl (Nat.le_of_ble_eq_true rfl) rfl ?_
          refine wn_iinc (i := 45) (x := x) (n := 1) (ls' := [some (.ref o), some (.int (nI j)), some (.int (nI b)), some (.int ((cS n f j (f 1 j) x) &&& ((nI (b ^^^ (f 3 (4096 * j + x)))) ^^^ (-1)))), some (.int (nI (x + 1)))]) rfl rfl rfl rfl ?_
          refine wn_goto (i := 46) (t' := 16) rfl rfl ?_
          exact ih (x + 1) _ _ (by omega) (by omega) (by simp [cF, oI, c23, eo]) (by simp [cS, c23, eo])
theorem m_certain (hX : MX o n f h0 h) (hb : MB n f) {a : Int32} (hs : ∀ t, t < n 0 → f 1 t ≤ 12) (hBad : (∀ j, j < n 0 → a ≠ nI j) → Q (some (.int (-2))) h) (hQ : ∀ j, j < n 0 → a = nI j → Q (some (.int (cR n f j (f 1 j) (2 ^ n 4)))) h) : xm_wp sc (d + 2) 8 0 [some (.ref o), some (.int a), none, none, none] [] h Q := by
  have hT := hb.1
  refine wn_aload (i := 0) rfl rfl ?_
  refine wn_iload (i := 1) rfl rfl ?_
  refine wn_callv (i := 2) (as := [.int a]) (b := o) (rest := []) (es := [some (.ref o), some (.int a)]) rfl rfl rfl rfl rfl (Nat.le_of_ble_eq_true rfl) rfl hX.1.1 rfl ?_
  refine m_has hX hT (fun j hj ej => ?_) (fun hno2 => ?_)
  · skip
    subst ej
    show xm_wp sc (d + 2) 8 3 [some (.ref o), some (.int (nI j)), none, none, none] [.int (nI (true).toNat)] h Q
    refine wb_if_ne (i := 3) (b := true) (t' := 6) rfl rfl (fun c3 => ?_) (fun c3 => ?_)
    · skip
      have hsj := hs j hj
      refine wn_constI (i := 6) (n := -1) rfl rfl ?_
      refine wn_istore (i := 7) (ls' := [some (.ref o), some (.int (nI j)), some (.int (-1)), none, none]) rfl (Nat.le_of_ble_eq_true rfl) rfl ?_
      refine wn_aload (i := 8) rfl rfl ?_
      refine wp_get (i := 9) (n := 1) (a := o) (v := .ref (o + 1)) rfl hX.1.1 rfl ?_
      refine wn_iload (i := 10) rfl rfl ?_
      refine wm_iald (i := 11) (k := 1) (e := j) (len := 24) rfl hX (by decide) (by decide) rfl rfl rfl (by omega) (by decide) ?_
      refine wn_calls (i := 12) (as := [.int (nI (f 1 j))]) (rest := []) (es := [some (.int (nI (f 1 j)))]) rfl rfl (by decide) rfl rfl rfl (Nat.le_of_ble_eq_true rfl) rfl rfl ?_
      refine m_mask (by omega) ?_
      show xm_wp sc (d + 2) 8 13 [some (.ref o), some (.int (nI j)), some (.int (-1)), none, none] [.int (nI (2 ^ (f 1 j) - 1))] h Q
      refine wn_istore (i := 13) (ls' := [some (.ref o), some (.int (nI j)), some (.int (-1)), some (.int (nI (2 ^ (f 1 j) - 1))), none]) rfl (Nat.le_of_ble_eq_true rfl) rfl ?_
      refine wn_const (i := 14) (n := 0) rfl rfl ?_
      refine wn_istore (i := 15) (ls' := [some (.ref o), some (.int (nI j)), some (.int (-1)), some (.int (nI (2 ^ (f 1 j) - 1))), some (.int (nI 0))]) rfl (Nat.le_of_ble_eq_true rfl) rfl ?_
      exact l_certain hX hb hj (hQ j hj rfl) (2 ^ n 4 + 1) 0 _ _ (Nat.zero_le _) (by omega) rfl rfl
    · cases c3
  · skip
    show xm_wp sc (d + 2) 8 3 [some (.ref o), some (.int a), none, none, none] [.int (nI (false).toNat)] h Q
    refine wb_if_ne (i := 3) (b := false) (t' := 6) rfl rfl (fun c3 => ?_) (fun c3 => ?_)
    · cases c3
    · skip
      refine wn_constI (i := 4) (n := -2) rfl rfl ?_
      exact wn_ret (i := 5) rfl rfl (hBad hno2)
theorem l_values2 (hb : MB n f) {j : Nat} (hj : j < n 0) (hQ : ∀ (h' : xm_S) (f1 : Nat → Nat → Nat), MX o n f1 h0 h' → sF f f1 → Q (some (.int (nI (vC n f j (2 ^ n 4))))) h') : ∀ (m : Nat) (x c : Nat) (h : xm_S) (f1 : Nat → Nat → Nat), x ≤ 2 ^ n 4 → 2 ^ n 4 < x + m → c = vC n f j x → MX o n f1 h0 h → sF f f1 → (∀ v, v < 4096 → f1 8 v = (sN n f j x v).toNat) → xm_wp sc (d + 2) 34 22 [some (.ref o), some (.int (nI j)), some (.int (nI c)), some (.int (nI x))] [] h Q := by
  intro m
  induction m with
  | zero => intro x c h f1 h1 h2; exact absurd h2 (by omega)
  | succ m ih =>
    intro x c h f1 h1 h2 ec hX hs hm
    obtain ⟨hT, hB, b5, b7, bc, ba, bl, bn⟩ := id hb
    have hN := xn_p12 hB
    have hc := cM_le n f x
    have hvc := vC_le n f j x
    subst ec
    refine wn_iload (i := 22) rfl rfl ?_
    refine wn_aload (i := 23) rfl rfl ?_
    refine wn_callv (i := 24) (as := []) (b := o) (rest := [.int (nI x)]) (es := [some (.ref o)]) rfl rfl rfl rfl rfl (Nat.le_of_ble_eq_true rfl) rfl hX.1.1 rfl ?_
    refine m_all hX hB ?_
    show xm_wp sc (d + 2) 34 25 [some (.ref o), some (.int (nI j)), some (.int (nI (vC n f j x))), some (.int (nI x))] [.int (nI (2 ^ n 4)), .int (nI x)] h Q
    refine wn_ic_ge (i := 25) (a := x) (b := (2 ^ n 4)) (t' := 49) rfl rfl (by omega) (by omega) (fun c25 => ?_) (fun c25 => ?_)
    · skip
      have ex : x = 2 ^ n 4 := by omega
      subst ex
      refine wn_iload (i := 49) rfl rfl ?_
      exact wn_ret (i := 50) rfl rfl (hQ _ _ hX hs)
    · skip
      refine wn_aload (i := 26) rfl rfl ?_
      refine wn_iload (i := 27) rfl rfl ?_
      refine wn_callv (i := 28) (as := [.int (nI x)]) (b := o) (rest := []) (es := [some (.ref o), some (.int (nI x)), none, none]) rfl rfl rfl rfl rfl (Nat.le_of_ble_eq_true rfl) rfl hX.1.1 rfl ?_
      refine m_isModelS hX hs hb (by omega) ?_
      show xm_wp sc (d + 2) 34 29 [some (.ref o), some (.int (nI j)), some (.int (nI (vC n f j x))), some (.int (nI x))] [.int (nI (mB n f x).toNat)] h Q
      refine wb_if_eq (i := 29) (b := (mB n f x)) (t' := 47) rfl rfl (fun c29 => ?_) (fun c29 => ?_)
      · skip
        refine wn_iinc (i := 47) (x := x) (n := 1) (ls' := [some (.ref o), some (.int (nI j)), some (.int (nI (vC n f j x))), some (.int (nI (x + 1)))]) rfl rfl rfl rfl ?_
        refine wn_goto (i := 48) (t' := 22) rfl rfl ?_
        exact ih (x + 1) _ _ _ (by omega) (by omega) (by show _ = vC n f j x + (mB n f x && !sN n f j x (f 3 (4096 * j + x))).toNat; simp [c29]) hX hs (fun v hv => by rw [hm v hv]; simp [sN, c29])
      · skip
        have hbn := bn (4096 * j + x) (by omega)
        have hm1 := hm _ hbn
        have htn := xn_tn (sN n f j x (f 3 (4096 * j + x)))
        refine wn_aload (i := 30) rfl rfl ?_
        refine wp_get (i := 31) (n := 12) (a := o) (v := .ref (o + 8)) rfl hX.1.1 rfl ?_
        refine wn_aload (i := 32) rfl rfl ?_
        refine wn_iload (i := 33) rfl rfl ?_
        refine wn_iload (i := 34) rfl rfl ?_
        refine wn_callv (i := 35) (as := [.int (nI j), .int (nI x)]) (b := o) (rest := [.ref (o + 8)]) (es := [some (.ref o), some (.int (nI j)), some (.int (nI x))]) rfl rfl rfl rfl rfl (Nat.le_of_ble_eq_true rfl) rfl hX.1.1 rfl ?_
        refine m_byS hX hs (by omega) ?_
        show xm_wp sc (d + 2) 34 36 [some (.ref o), some (.int (nI j)), some (.int (nI (vC n f j x))), some (.int (nI x))] [.int (nI (f 3 (4096 * j + x))), .ref (o + 8)] h Q
        refine wm_bald (i := 36) (k := 8) (e := (f 3 (4096 * j + x))) (len := 4096) rfl hX (by decide) (by decide) rfl rfl rfl (by omega) (by decide) ?_
        refine wn_if_ne (i := 37) (a := (f1 8 (f 3 (4096 * j + x)))) (t' := 47) rfl rfl (by omega) (fun c37 => ?_) (fun c37 => ?_)
        · skip
          refine wn_iinc (i := 47) (x := x) (n := 1) (ls' := [some (.ref o), some (.int (nI j)), some (.int (nI (vC n f j x))), some (.int (nI (x + 1)))]) rfl rfl rfl rfl ?_
          refine wn_goto (i := 48) (t' := 22) rfl rfl ?_
          have c38 : sN n f j x (f 3 (4096 * j + x)) = true := by have := hm _ hbn; rcases Bool.eq_false_or_eq_true (sN n f j x (f 3 (4096 * j + x))) with e | e <;> simp [e] at this <;> first | exact e | omega
          exact ih (x + 1) _ _ _ (by omega) (by omega) (by show _ = vC n f j x + (mB n f x && !sN n f j x (f 3 (4096 * j + x))).toNat; simp [c29, c38]) hX hs (fun v hv => by rw [hm v hv]; by_cases hq : f 3 (4096 * j + x) = v; rw [← hq]; simp [sN, c38]; simp [sN, hq])
        · skip
          refine wn_aload (i := 38) rfl rfl ?_
          refine wp_get (i := 39) (n := 12) (a := o) (v := .ref (o + 8)) rfl hX.1.1 rfl ?_
          refine wn_aload (i := 40) rfl rfl ?_
          refine wn_iload (i := 41) rfl rfl ?_
          refine wn_iload (i := 42) rfl rfl ?_
          refine wn_callv (i := 43) (as := [.int (nI j), .int (nI x)]) (b := o) (rest := [.ref (o + 8)]) (es := [some (.ref o), some (.int (nI j)), some (.int (nI x))]) rfl rfl rfl rfl rfl (Nat.le_of_ble_eq_true rfl) rfl hX.1.1 rfl ?_
          refine m_byS hX hs (by omega) ?_
          show xm_wp sc (d + 2) 34 44 [some (.ref o), some (.int (nI j)), some (.int (nI (vC n f j x))), some (.int (nI x))] [.int (nI (f 3 (4096 * j + x))), .ref (o + 8)] h Q
          refine wn_const (i := 44) (n := 1) rfl rfl ?_
          refine wm_bast (i := 45) (k := 8) (e := (f 3 (4096 * j + x))) (x := 1) (len := 4096) rfl hX (by decide) (by decide) rfl rfl rfl (by omega) (by decide) (by omega) (fun h_45 hX_45 => ?_)
          refine wn_iinc (i := 46) (x := (vC n f j x)) (n := 1) (ls' := [some (.ref o), some (.int (nI j)), some (.int (nI ((vC n f j x) + 1))), some (.int (nI x))]) rfl rfl rfl rfl ?_
          refine wn_iinc (i := 47) (x := x) (n := 1) (ls' := [some (.ref o), some (.int (nI j)), some (.int (nI ((vC n f j x) + 1))), some (.int (nI (x + 1)))]) rfl rfl rfl rfl ?_
          refine wn_goto (i := 48) (t' := 22) rfl rfl ?_
          have c38 : sN n f j x (f 3 (4096 * j + x)) = false := by have := hm _ hbn; rcases Bool.eq_false_or_eq_true (sN n f j x (f 3 (4096 * j + x))) with e | e <;> simp [e] at this <;> first | exact e | omega
          exact ih (x + 1) _ _ _ (by omega) (by omega) (by show _ = vC n f j x + (mB n f x && !sN n f j x (f 3 (4096 * j + x))).toNat; simp [c29, c38]) hX_45 (hs.up (by omega)) (fun v hv => by by_cases hq : f 3 (4096 * j + x) = v; rw [← hq, fU_same]; simp [sN, c29]; rw [fU_ne (fun q => hq q.2.symm), hm v hv]; simp [sN, hq])
theorem l_values1 (hb : MB n f) {j : Nat} (hj : j < n 0) (hQ : ∀ (h' : xm_S) (f1 : Nat → Nat → Nat), MX o n f1 h0 h' → sF f f1 → Q (some (.int (nI (vC n f j (2 ^ n 4))))) h') : ∀ (m : Nat) (x : Nat) (h : xm_S) (f1 : Nat → Nat → Nat), x ≤ 4096 → 4096 < x + m → MX o n f1 h0 h → sF f f1 → (∀ v, v < x → f1 8 v = 0) → xm_wp sc (d + 2) 34 8 [some (.ref o), some (.int (nI j)), some (.int (nI x)), none] [] h Q := by
  intro m
  induction m with
  | zero => intro x h f1 h1 h2; exact absurd h2 (by omega)
  | succ m ih =>
    intro x h f1 h1 h2 hX hs hm
    refine wn_iload (i := 8) rfl rfl ?_
    refine wn_const (i := 9) (n := 4096) rfl rfl ?_
    refine wn_ic_ge (i := 10) (a := x) (b := 4096) (t' := 18) rfl rfl (by omega) (by omega) (fun c10 => ?_) (fun c10 => ?_)
    · skip
      refine wn_const (i := 18) (n := 0) rfl rfl ?_
      refine wn_istore (i := 19) (ls' := [some (.ref o), some (.int (nI j)), some (.int (nI 0)), none]) rfl (Nat.le_of_ble_eq_true rfl) rfl ?_
      refine wn_const (i := 20) (n := 0) rfl rfl ?_
      refine wn_istore (i := 21) (ls' := [some (.ref o), some (.int (nI j)), some (.int (nI 0)), some (.int (nI 0))]) rfl (Nat.le_of_ble_eq_true rfl) rfl ?_
      exact l_values2 hb hj hQ (2 ^ n 4 + 1) 0 0 _ _ (Nat.zero_le _) (by omega) rfl hX hs (fun v hv => by rw [hm v (by omega)]; rfl)
    · skip
      refine wn_aload (i := 11) rfl rfl ?_
      refine wp_get (i := 12) (n := 12) (a := o) (v := .ref (o + 8)) rfl hX.1.1 rfl ?_
      refine wn_iload (i := 13) rfl rfl ?_
      refine wn_const (i := 14) (n := 0) rfl rfl ?_
      refine wm_bast (i := 15) (k := 8) (e := x) (x := 0) (len := 4096) rfl hX (by decide) (by decide) rfl rfl rfl (by omega) (by decide) (by omega) (fun h_15 hX_15 => ?_)
      refine wn_iinc (i := 16) (x := x) (n := 1) (ls' := [some (.ref o), some (.int (nI j)), some (.int (nI (x + 1))), none]) rfl rfl rfl rfl ?_
      refine wn_goto (i := 17) (t' := 8) rfl rfl ?_
      exact ih (x + 1) _ _ (by omega) (by omega) hX_15 (hs.up (by omega)) (fun v hv => by by_cases hq : v = x; rw [hq, fU_same]; rw [fU_ne (fun q => hq q.2)]; exact hm v (by omega))
theorem m_values (hX : MX o n f h0 h) (hb : MB n f) {a : Int32} (hBad : (∀ j, j < n 0 → a ≠ nI j) → Q (some (.int (-2))) h) (hQ : ∀ j, j < n 0 → a = nI j → ∀ (h' : xm_S) (f1 : Nat → Nat → Nat), MX o n f1 h0 h' → sF f f1 → Q (some (.int (nI (vC n f j (2 ^ n 4))))) h') : xm_wp sc (d + 2) 34 0 [some (.ref o), some (.int a), none, none] [] h Q := by
  have hT := hb.1
  refine wn_aload (i := 0) rfl rfl ?_
  refine wn_iload (i := 1) rfl rfl ?_
  refine wn_callv (i := 2) (as := [.int a]) (b := o) (rest := []) (es := [some (.ref o), some (.int a)]) rfl rfl rfl rfl rfl (Nat.le_of_ble_eq_true rfl) rfl hX.1.1 rfl ?_
  refine m_has hX hT (fun j hj ej => ?_) (fun hno2 => ?_)
  · skip
    subst ej
    show xm_wp sc (d + 2) 34 3 [some (.ref o), some (.int (nI j)), none, none] [.int (nI (true).toNat)] h Q
    refine wb_if_ne (i := 3) (b := true) (t' := 6) rfl rfl (fun c3 => ?_) (fun c3 => ?_)
    · skip
      refine wn_const (i := 6) (n := 0) rfl rfl ?_
      refine wn_istore (i := 7) (ls' := [some (.ref o), some (.int (nI j)), some (.int (nI 0)), none]) rfl (Nat.le_of_ble_eq_true rfl) rfl ?_
      exact l_values1 hb hj (hQ j hj rfl) 4097 0 _ _ (by omega) (by omega) hX (sF.rf f) (fun v hv => absurd hv (Nat.not_lt_zero _))
    · cases c3
  · skip
    show xm_wp sc (d + 2) 34 3 [some (.ref o), some (.int a), none, none] [.int (nI (false).toNat)] h Q
    refine wb_if_ne (i := 3) (b := false) (t' := 6) rfl rfl (fun c3 => ?_) (fun c3 => ?_)
    · cases c3
    · skip
      refine wn_constI (i := 4) (n := -2) rfl rfl ?_
      exact wn_ret (i := 5) rfl rfl (hBad hno2)
end MM
end
section
/-! ===== the reference: count, the core ===== -/
section WS
variable {sc : Nat × Nat × (Nat → Int32)} {d y i : Nat} {ls : xm_L} {r : List Value} {h : xm_S} {Q : Option Value → xm_S → Prop}
theorem wn_swOut {x : Int32} {dd lo hi : Int} {offs : Array Int} {t' : Nat} (hc : (xm_code y)[i]? = some (.tableswitch dd lo hi offs)) (hz : x.toInt < lo ∨ hi < x.toInt) (ht : dd.toNat = t') (w : xm_wp sc d y t' ls r h Q) : xm_wp sc d y i ls (.int x :: r) h Q := by
  subst ht
  exact wp_step (by unfold xm_act; rw [hc]; simp only [xm_do, hz, if_true]) w
theorem wn_swIn {x : Int32} {dd lo hi t : Int} {offs : Array Int} {t' : Nat} (hc : (xm_code y)[i]? = some (.tableswitch dd lo hi offs)) (hz : ¬ (x.toInt < lo ∨ hi < x.toInt)) (ho : offs[(x.toInt - lo).toNat]? = some t) (ht : t.toNat = t') (w : xm_wp sc d y t' ls r h Q) : xm_wp sc d y i ls (.int x :: r) h Q := by
  subst ht
  exact wp_step (by unfold xm_act; rw [hc]; simp only [xm_do, hz, if_false, ho]) w
end WS
theorem xn_outN {x : Int32} {K : Nat} (hK : K < 2 ^ 30) (h : ∀ k, k < K → x ≠ nI k) : x.toInt < 0 ∨ (K : Int) - 1 < x.toInt := by
  by_cases h0 : x.toInt < 0
  · exact Or.inl h0
  · right
    apply Int.not_le.mp
    intro h1
    have h2 : ¬ x < 0 := by
      intro q
      have := Int32.lt_iff_toInt_lt.mp q
      simp at this
      omega
    obtain ⟨j, hj, rfl⟩ := nI_of h2
    rw [nI_toInt hj] at h1
    exact h j (by omega) rfl
def fR (f : Nat → Nat → Nat) (k : Nat) (g : Nat → Nat) : Nat → Nat → Nat := fun k' j => if k' = k then g j else f k' j
theorem fR_same {f : Nat → Nat → Nat} {k : Nat} {g : Nat → Nat} : fR f k g k = g := by funext j; simp [fR]
theorem fR_ne {f : Nat → Nat → Nat} {k k' : Nat} {g : Nat → Nat} (h : k' ≠ k) : fR f k g k' = f k' := by funext j; simp [fR, h]
theorem fR_up (f : Nat → Nat → Nat) (k : Nat) (g : Nat → Nat) (e x : Nat) : fU (fR f k g) k e x = fR f k (nU g e x) := by
  funext k' j
  simp only [fU, fR, nU]
  by_cases h1 : k' = k
  · by_cases h2 : j = e <;> simp [h1, h2]
  · simp [h1]
theorem fR_id {f : Nat → Nat → Nat} {k : Nat} {g : Nat → Nat} (h : ∀ j, g j = f k j) : fR f k g = f := by
  funext k' j
  by_cases h1 : k' = k
  · subst h1; simp [fR, h]
  · simp [fR, h1]
/-- what is left out when k of what is assumed have been looked at -/
def lS (n : Nat → Nat) (f : Nat → Nat → Nat) : Nat → Nat → Nat
  | 0 => fun j => if j < 8 then 0 else f 7 j
  | k + 1 => nU (lS n f k) k (if cM n (fR f 7 (nU (lS n f k) k 1)) (2 ^ n 4) = 0 then 1 else 0)
theorem lS_le (n : Nat → Nat) (f : Nat → Nat → Nat) : ∀ k j, j < 8 → lS n f k j ≤ 1
  | 0, j, h => by simp [lS, h]
  | k + 1, j, h => by
    unfold lS nU
    split
    · split <;> omega
    · exact lS_le n f k j h
def cK (l : Nat → Nat) : Nat → Nat
  | 0 => 0
  | k + 1 => cK l k + (if l k = 0 then 1 else 0)
theorem cK_le (l : Nat → Nat) : ∀ k, cK l k ≤ k
  | 0 => Nat.le_refl _
  | k + 1 => by
    have := cK_le l k
    unfold cK
    split <;> omega
/-- the term in place k of what is not left out, among the first m -/
def fK (f : Nat → Nat → Nat) (l : Nat → Nat) (k : Int32) : Nat → Option Nat
  | 0 => none
  | m + 1 => if l m = 0 ∧ nI (cK l m) = k then some (f 5 m) else fK f l k m
theorem MB_fR {n : Nat → Nat} {f : Nat → Nat → Nat} {l : Nat → Nat} (hb : MB n f) (hl : ∀ j, j < 8 → l j ≤ 1) : MB n (fR f 7 l) := by
  obtain ⟨b0, b4, b5, b7, bc, ba, bl, bn⟩ := hb
  refine ⟨b0, b4, b5, b7, ?_, ?_, ?_, ?_⟩
  · rw [fR_ne (by decide)]; exact bc
  · rw [fR_ne (by decide)]; exact ba
  · rw [fR_same]; exact hl
  · rw [fR_ne (by decide)]; exact bn
section MM
variable {sc : Nat × Nat × (Nat → Int32)} {d o : Nat} {h h0 : xm_S} {Q : Option Value → xm_S → Prop} {n : Nat → Nat} {f : Nat → Nat → Nat}
theorem m_count (hX : MX o n f h0 h) {a : Int32} (hQ : ∀ k c, (k, c) ∈ [(0, 0), (1, 4), (2, 5), (3, 7), (4, 9)] → a = nI k → Q (some (.int (nI (n c)))) h) (hBad : (∀ k, k < 5 → a ≠ nI k) → Q (some (.int (-2))) h) : xm_wp sc (d) 15 0 [some (.ref o), some (.int a)] [] h Q := by
  refine wn_iload (i := 0) rfl rfl ?_
  by_cases q0 : a = nI 0
  · subst q0
    refine wn_swIn (i := 1) (t := 2) (t' := 2) rfl (by decide) (by decide) rfl ?_
    refine wn_aload (i := 2) rfl rfl ?_
    refine wp_get (i := 3) (n := 0) (a := o) (v := .int (nI (n 0))) rfl hX.1.1 rfl ?_
    exact wn_ret (i := 4) rfl rfl (hQ 0 0 (by decide) rfl)
  by_cases q1 : a = nI 1
  · subst q1
    refine wn_swIn (i := 1) (t := 5) (t' := 5) rfl (by decide) (by decide) rfl ?_
    refine wn_aload (i := 5) rfl rfl ?_
    refine wp_get (i := 6) (n := 4) (a := o) (v := .int (nI (n 4))) rfl hX.1.1 rfl ?_
    exact wn_ret (i := 7) rfl rfl (hQ 1 4 (by decide) rfl)
  by_cases q2 : a = nI 2
  · subst q2
    refine wn_swIn (i := 1) (t := 8) (t' := 8) rfl (by decide) (by decide) rfl ?_
    refine wn_aload (i := 8) rfl rfl ?_
    refine wp_get (i := 9) (n := 5) (a := o) (v := .int (nI (n 5))) rfl hX.1.1 rfl ?_
    exact wn_ret (i := 10) rfl rfl (hQ 2 5 (by decide) rfl)
  by_cases q3 : a = nI 3
  · subst q3
    refine wn_swIn (i := 1) (t := 11) (t' := 11) rfl (by decide) (by decide) rfl ?_
    refine wn_aload (i := 11) rfl rfl ?_
    refine wp_get (i := 12) (n := 7) (a := o) (v := .int (nI (n 7))) rfl hX.1.1 rfl ?_
    exact wn_ret (i := 13) rfl rfl (hQ 3 7 (by decide) rfl)
  by_cases q4 : a = nI 4
  · subst q4
    refine wn_swIn (i := 1) (t := 14) (t' := 14) rfl (by decide) (by decide) rfl ?_
    refine wn_aload (i := 14) rfl rfl ?_
    refine wp_get (i := 15) (n := 9) (a := o) (v := .int (nI (n 9))) rfl hX.1.1 rfl ?_
    exact wn_ret (i := 16) rfl rfl (hQ 4 9 (by decide) rfl)
  have hno : ∀ k, k < 5 → a ≠ nI k := by intro k hk; rcases (show k = 0 ∨ k = 1 ∨ k = 2 ∨ k = 3 ∨ k = 4 by omega) with e | e | e | e | e <;> subst e <;> assumption
  refine wn_swOut (i := 1) (t' := 17) rfl (by simpa using xn_outN (K := 5) (by decide) hno) rfl ?_
  refine wn_constI (i := 17) (n := -2) rfl rfl ?_
  exact wn_ret (i := 18) rfl rfl (hBad hno)
theorem l_leaveNone {l : Nat → Nat} (hQ : ∀ (h' : xm_S), MX o n (fR f 7 (fun j => if j < 8 then 0 else l j)) h0 h' → Q none h') : ∀ (m : Nat) (x : Nat) (h : xm_S), x ≤ 8 → 8 < x + m → MX o n (fR f 7 (fun j => if j < x then 0 else l j)) h0 h → xm_wp sc (d) 23 2 [some (.ref o), some (.int (nI x))] [] h Q := by
  intro m
  induction m with
  | zero => intro x h h1 h2; exact absurd h2 (by omega)
  | succ m ih =>
    intro x h h1 h2 hX
    refine wn_iload (i := 2) rfl rfl ?_
    refine wn_const (i := 3) (n := 8) rfl rfl ?_
    refine wn_ic_ge (i := 4) (a := x) (b := 8) (t' := 12) rfl rfl (by omega) (by omega) (fun c4 => ?_) (fun c4 => ?_)
    · skip
      have ex : x = 8 := by omega
      subst ex
      exact wn_retV (i := 12) rfl (hQ _ hX)
    · skip
      refine wn_aload (i := 5) rfl rfl ?_
      refine wp_get (i := 6) (n := 11) (a := o) (v := .ref (o + 7)) rfl hX.1.1 rfl ?_
      refine wn_iload (i := 7) rfl rfl ?_
      refine wn_const (i := 8) (n := 0) rfl rfl ?_
      refine wm_bast (i := 9) (k := 7) (e := x) (x := 0) (len := 8) rfl hX (by decide) (by decide) rfl rfl rfl (by omega) (by decide) (by omega) (fun h_9 hX_9 => ?_)
      refine wn_iinc (i := 10) (x := x) (n := 1) (ls' := [some (.ref o), some (.int (nI (x + 1)))]) rfl rfl rfl rfl ?_
      refine wn_goto (i := 11) (t' := 2) rfl rfl ?_
      refine ih (x + 1) _ (by omega) (by omega) ?_
      rw [fR_up] at hX_9
      have ef : nU (fun j => if j < x then 0 else l j) x 0 = (fun j => if j < x + 1 then 0 else l j) := by funext j; simp only [nU]; by_cases q1 : j = x; simp [q1]; by_cases q2 : j < x; simp [q1, q2, show j < x + 1 by omega]; simp [q1, q2, show ¬ j < x + 1 by omega]
      rw [ef] at hX_9
      exact hX_9
theorem m_leaveNone {l : Nat → Nat} (hX : MX o n (fR f 7 l) h0 h) (hQ : ∀ (h' : xm_S), MX o n (fR f 7 (fun j => if j < 8 then 0 else l j)) h0 h' → Q none h') : xm_wp sc (d) 23 0 [some (.ref o), none] [] h Q := by
  refine wn_const (i := 0) (n := 0) rfl rfl ?_
  refine wn_istore (i := 1) (ls' := [some (.ref o), some (.int (nI 0))]) rfl (Nat.le_of_ble_eq_true rfl) rfl ?_
  exact l_leaveNone hQ 9 0 _ (by omega) (by omega) (by simpa using hX)
theorem l_leave (hb : MB n f) (hQ : ∀ (h' : xm_S), MX o n (fR f 7 (lS n f (n 7))) h0 h' → Q (some (.int (nI true.toNat))) h') : ∀ (m : Nat) (k : Nat) (h : xm_S), k ≤ n 7 → n 7 < k + m → MX o n (fR f 7 (lS n f k)) h0 h → xm_wp sc (d + 3) 22 9 [some (.ref o), some (.int (nI k))] [] h Q := by
  intro m
  induction m with
  | zero => intro k h h1 h2; exact absurd h2 (by omega)
  | succ m ih =>
    intro k h h1 h2 hX
    obtain ⟨hT, hB, b5, b7, bc, ba, bl, bn⟩ := id hb
    have hN := xn_p12 hB
    have hl1 : ∀ j, j < 8 → nU (lS n f k) k 1 j ≤ 1 := by intro j hj; unfold nU; split; omega; exact lS_le n f k j hj
    have hcm := cM_le n (fR f 7 (nU (lS n f k) k 1)) (2 ^ n 4)
    refine wn_iload (i := 9) rfl rfl ?_
    refine wn_aload (i := 10) rfl rfl ?_
    refine wp_get (i := 11) (n := 7) (a := o) (v := .int (nI (n 7))) rfl hX.1.1 rfl ?_
    refine wn_ic_ge (i := 12) (a := k) (b := (n 7)) (t' := 30) rfl rfl (by omega) (by omega) (fun c12 => ?_) (fun c12 => ?_)
    · skip
      refine wn_const (i := 30) (n := 1) rfl rfl ?_
      have ek : k = n 7 := by omega
      subst ek
      exact wn_retZ (i := 31) rfl (by decide) (hQ _ hX)
    · skip
      refine wn_aload (i := 13) rfl rfl ?_
      refine wp_get (i := 14) (n := 11) (a := o) (v := .ref (o + 7)) rfl hX.1.1 rfl ?_
      refine wn_iload (i := 15) rfl rfl ?_
      refine wn_const (i := 16) (n := 1) rfl rfl ?_
      refine wm_bast (i := 17) (k := 7) (e := k) (x := 1) (len := 8) rfl hX (by decide) (by decide) rfl rfl rfl (by omega) (by decide) (by omega) (fun h_17 hX_17 => ?_)
      refine wn_aload (i := 18) rfl rfl ?_
      refine wp_get (i := 19) (n := 11) (a := o) (v := .ref (o + 7)) rfl hX_17.1.1 rfl ?_
      refine wn_iload (i := 20) rfl rfl ?_
      refine wn_aload (i := 21) rfl rfl ?_
      refine wn_callv (i := 22) (as := []) (b := o) (rest := [.int (nI k), .ref (o + 7)]) (es := [some (.ref o), none, none]) rfl rfl rfl rfl rfl (Nat.le_of_ble_eq_true rfl) rfl hX_17.1.1 rfl ?_
      rw [fR_up] at hX_17
      refine m_models hX_17 (MB_fR hb hl1) ?_
      show xm_wp sc (d + 3) 22 23 [some (.ref o), some (.int (nI k))] [.int (nI (cM n (fR f 7 (nU (lS n f k) k 1)) (2 ^ n 4))), .int (nI k), .ref (o + 7)] h_17 Q
      refine wn_if_ne (i := 23) (a := (cM n (fR f 7 (nU (lS n f k) k 1)) (2 ^ n 4))) (t' := 26) rfl rfl (by omega) (fun c23 => ?_) (fun c23 => ?_)
      · skip
        refine wn_const (i := 26) (n := 0) rfl rfl ?_
        refine wm_bast (i := 27) (k := 7) (e := k) (x := 0) (len := 8) rfl hX_17 (by decide) (by decide) rfl rfl rfl (by omega) (by decide) (by omega) (fun h_27 hX_27 => ?_)
        refine wn_iinc (i := 28) (x := k) (n := 1) (ls' := [some (.ref o), some (.int (nI (k + 1)))]) rfl rfl rfl rfl ?_
        refine wn_goto (i := 29) (t' := 9) rfl rfl ?_
        rw [fR_up] at hX_27
        refine ih (k + 1) _ (by omega) (by omega) ?_
        rw [show lS n f (k + 1) = nU (nU (lS n f k) k 1) k 0 by rw [show lS n f (k + 1) = nU (lS n f k) k (if cM n (fR f 7 (nU (lS n f k) k 1)) (2 ^ n 4) = 0 then 1 else 0) from rfl, if_neg c23]; funext j; simp only [nU]; split <;> rfl]
        exact hX_27
      · skip
        refine wn_const (i := 24) (n := 1) rfl rfl ?_
        refine wn_goto (i := 25) (t' := 27) rfl rfl ?_
        refine wm_bast (i := 27) (k := 7) (e := k) (x := 1) (len := 8) rfl hX_17 (by decide) (by decide) rfl rfl rfl (by omega) (by decide) (by omega) (fun h_27 hX_27 => ?_)
        refine wn_iinc (i := 28) (x := k) (n := 1) (ls' := [some (.ref o), some (.int (nI (k + 1)))]) rfl rfl rfl rfl ?_
        refine wn_goto (i := 29) (t' := 9) rfl rfl ?_
        rw [fR_up] at hX_27
        refine ih (k + 1) _ (by omega) (by omega) ?_
        rw [show lS n f (k + 1) = nU (nU (lS n f k) k 1) k 1 by rw [show lS n f (k + 1) = nU (lS n f k) k (if cM n (fR f 7 (nU (lS n f k) k 1)) (2 ^ n 4) = 0 then 1 else 0) from rfl, if_pos c23]; funext j; simp only [nU]; split <;> rfl]
        exact hX_27
theorem m_leave {l : Nat → Nat} (hX : MX o n (fR f 7 l) h0 h) (hl : ∀ j, 8 ≤ j → l j = f 7 j) (hb : MB n f) (hQ1 : cM n (fR f 7 (lS n f 0)) (2 ^ n 4) = 0 → ∀ (h' : xm_S), MX o n (fR f 7 (lS n f (n 7))) h0 h' → Q (some (.int (nI true.toNat))) h') (hQ0 : 0 < cM n (fR f 7 (lS n f 0)) (2 ^ n 4) → ∀ (h' : xm_S), MX o n (fR f 7 (lS n f 0)) h0 h' → Q (some (.int (nI false.toNat))) h') : xm_wp sc (d + 3) 22 0 [some (.ref o), none] [] h Q := by
  have hB := hb.2.1
  have hN := xn_p12 hB
  have hcm := cM_le n (fR f 7 (lS n f 0)) (2 ^ n 4)
  refine wn_aload (i := 0) rfl rfl ?_
  refine wn_callv (i := 1) (as := []) (b := o) (rest := []) (es := [some (.ref o), none]) rfl rfl rfl rfl rfl (Nat.le_of_ble_eq_true rfl) rfl hX.1.1 rfl ?_
  refine m_leaveNone hX (fun h1 hX1 => ?_)
  rw [show (fun j => if j < 8 then 0 else l j) = lS n f 0 by funext j; simp only [lS]; split; rfl; exact hl j (by omega)] at hX1
  show xm_wp sc (d + 3) 22 2 [some (.ref o), none] [] h1 Q
  refine wn_aload (i := 2) rfl rfl ?_
  refine wn_callv (i := 3) (as := []) (b := o) (rest := []) (es := [some (.ref o), none, none]) rfl rfl rfl rfl rfl (Nat.le_of_ble_eq_true rfl) rfl hX1.1.1 rfl ?_
  refine m_models hX1 (MB_fR hb (lS_le n f 0)) ?_
  show xm_wp sc (d + 3) 22 4 [some (.ref o), none] [.int (nI (cM n (fR f 7 (lS n f 0)) (2 ^ n 4)))] h1 Q
  refine wn_if_le (i := 4) (a := (cM n (fR f 7 (lS n f 0)) (2 ^ n 4))) (t' := 7) rfl rfl (by omega) (fun c4 => ?_) (fun c4 => ?_)
  · skip
    refine wn_const (i := 7) (n := 0) rfl rfl ?_
    refine wn_istore (i := 8) (ls' := [some (.ref o), some (.int (nI 0))]) rfl (Nat.le_of_ble_eq_true rfl) rfl ?_
    exact l_leave hb (hQ1 c4) (n 7 + 1) 0 _ (Nat.zero_le _) (by omega) hX1
  · skip
    refine wn_const (i := 5) (n := 0) rfl rfl ?_
    exact wn_retZ (i := 6) rfl (by decide) (hQ0 c4 _ hX1)
theorem l_cores (hb : MB n f) {b : Bool} {l : Nat → Nat} (hX : MX o n (fR f 7 l) h0 h) (hl : ∀ j, 8 ≤ j → l j = f 7 j) (hl1 : ∀ j, j < 8 → l j ≤ 1) (hz : ∀ j, j < 8 → f 7 j = 0) (hQ : ∀ (h' : xm_S), MX o n f h0 h' → Q (some (.int (if b then nI (cK l (n 7)) else -1))) h') : ∀ (m : Nat) (k c : Nat), k ≤ n 7 → n 7 < k + m → c = cK l k → xm_wp sc (d + 4) 14 7 [some (.ref o), some (.int (nI (b).toNat)), some (.int (nI c)), some (.int (nI k))] [] h Q := by
  intro m
  induction m with
  | zero => intro k c h1 h2; exact absurd h2 (by omega)
  | succ m ih =>
    intro k c h1 h2 ec
    obtain ⟨hT, hB, b5, b7, bc, ba, bl, bn⟩ := id hb
    have hck := cK_le l k
    subst ec
    refine wn_iload (i := 7) rfl rfl ?_
    refine wn_aload (i := 8) rfl rfl ?_
    refine wp_get (i := 9) (n := 7) (a := o) (v := .int (nI (n 7))) rfl hX.1.1 rfl ?_
    refine wn_ic_ge (i := 10) (a := k) (b := (n 7)) (t' := 24) rfl rfl (by omega) (by omega) (fun c10 => ?_) (fun c10 => ?_)
    · skip
      have ek : k = n 7 := by omega
      refine wn_aload (i := 24) rfl rfl ?_
      refine wn_callv (i := 25) (as := []) (b := o) (rest := []) (es := [some (.ref o), none]) rfl rfl rfl rfl rfl (Nat.le_of_ble_eq_true rfl) rfl hX.1.1 rfl ?_
      refine m_leaveNone hX (fun h1 hX1 => ?_)
      rw [show fR f 7 (fun j => if j < 8 then 0 else l j) = f from fR_id (fun j => by by_cases q : j < 8; simp [q, hz j q]; simp [q, hl j (by omega)])] at hX1
      show xm_wp sc (d + 4) 14 26 [some (.ref o), some (.int (nI (b).toNat)), some (.int (nI (cK l k))), some (.int (nI k))] [] h1 Q
      refine wn_iload (i := 26) rfl rfl ?_
      refine wb_if_eq (i := 27) (b := b) (t' := 30) rfl rfl (fun c27 => ?_) (fun c27 => ?_)
      · skip
        refine wn_constI (i := 30) (n := -1) rfl rfl ?_
        have hq1 := hQ _ hX1
        rw [c27, ← ek] at hq1
        exact wn_ret (i := 31) rfl rfl hq1
      · skip
        refine wn_iload (i := 28) rfl rfl ?_
        refine wn_goto (i := 29) (t' := 31) rfl rfl ?_
        have hq1 := hQ _ hX1
        rw [c27, ← ek] at hq1
        exact wn_ret (i := 31) rfl rfl hq1
    · skip
      have hlk := hl1 k (by omega)
      have hlk2 : fR f 7 l 7 k ≤ 1 := by rw [fR_same]; exact hlk
      refine wn_iload (i := 11) rfl rfl ?_
      refine wn_aload (i := 12) rfl rfl ?_
      refine wp_get (i := 13) (n := 11) (a := o) (v := .ref (o + 7)) rfl hX.1.1 rfl ?_
      refine wn_iload (i := 14) rfl rfl ?_
      refine wm_bald (i := 15) (k := 7) (e := k) (len := 8) rfl hX (by decide) (by decide) rfl rfl rfl (by omega) (by decide) ?_
      refine wn_if_eq (i := 16) (a := ((fR f 7 l) 7 k)) (t' := 19) rfl rfl (by omega) (fun c16 => ?_) (fun c16 => ?_)
      · skip
        have e16 : l k = 0 := by rw [fR_same] at c16; exact c16
        refine wn_const (i := 19) (n := 1) rfl rfl ?_
        refine wn_iadd (i := 20) (a := (cK l k)) (b := 1) rfl ?_
        refine wn_istore (i := 21) (ls' := [some (.ref o), some (.int (nI (b).toNat)), some (.int (nI ((cK l k) + 1))), some (.int (nI k))]) rfl (Nat.le_of_ble_eq_true rfl) rfl ?_
        refine wn_iinc (i := 22) (x := k) (n := 1) (ls' := [some (.ref o), some (.int (nI (b).toNat)), some (.int (nI ((cK l k) + 1))), some (.int (nI (k + 1)))]) rfl rfl rfl rfl ?_
        refine wn_goto (i := 23) (t' := 7) rfl rfl ?_
        exact ih (k + 1) _ (by omega) (by omega) (by simp [cK, e16])
      · skip
        have e16 : ¬ l k = 0 := by rw [fR_same] at c16; exact c16
        refine wn_const (i := 17) (n := 0) rfl rfl ?_
        refine wn_goto (i := 18) (t' := 20) rfl rfl ?_
        refine wn_iadd (i := 20) (a := (cK l k)) (b := 0) rfl ?_
        refine wn_istore (i := 21) (ls' := [some (.ref o), some (.int (nI (b).toNat)), some (.int (nI ((cK l k) + 0))), some (.int (nI k))]) rfl (Nat.le_of_ble_eq_true rfl) rfl ?_
        refine wn_iinc (i := 22) (x := k) (n := 1) (ls' := [some (.ref o), some (.int (nI (b).toNat)), some (.int (nI ((cK l k) + 0))), some (.int (nI (k + 1)))]) rfl rfl rfl rfl ?_
        refine wn_goto (i := 23) (t' := 7) rfl rfl ?_
        exact ih (k + 1) _ (by omega) (by omega) (by simp [cK, e16])
theorem m_cores (hX : MX o n f h0 h) (hb : MB n f) (hz : ∀ j, j < 8 → f 7 j = 0) (hQ : ∀ (h' : xm_S), MX o n f h0 h' → Q (some (.int (if cM n f (2 ^ n 4) = 0 then nI (cK (lS n f (n 7)) (n 7)) else -1))) h') : xm_wp sc (d + 4) 14 0 [some (.ref o), none, none, none] [] h Q := by
  have h70 : lS n f 0 = f 7 := by funext j; simp only [lS]; split; rw [hz j (by assumption)]; rfl
  have hf0 : fR f 7 (lS n f 0) = f := fR_id (fun j => by rw [h70])
  have hX' : MX o n (fR f 7 (f 7)) h0 h := by rw [fR_id (fun j => rfl)]; exact hX
  have hge : ∀ k, k ≤ 8 → ∀ j, 8 ≤ j → lS n f k j = f 7 j := by
    intro k
    induction k with
    | zero => intro _ j hj; rw [h70]
    | succ k ih => intro hk j hj; rw [show lS n f (k + 1) = nU (lS n f k) k (if cM n (fR f 7 (nU (lS n f k) k 1)) (2 ^ n 4) = 0 then 1 else 0) from rfl, nU_ne (by omega)]; exact ih (by omega) j hj
  have b7 := hb.2.2.2.1
  refine wn_aload (i := 0) rfl rfl ?_
  refine wn_callv (i := 1) (as := []) (b := o) (rest := []) (es := [some (.ref o), none]) rfl rfl rfl rfl rfl (Nat.le_of_ble_eq_true rfl) rfl hX.1.1 rfl ?_
  refine m_leave hX' (fun j hj => rfl) hb (fun e1 h1 hX1 => ?_) (fun e1 h1 hX1 => ?_)
  · skip
    rw [hf0] at e1
    show xm_wp sc (d + 4) 14 2 [some (.ref o), none, none, none] [.int (nI (true).toNat)] h1 Q
    refine wn_istore (i := 2) (ls' := [some (.ref o), some (.int (nI (true).toNat)), none, none]) rfl (Nat.le_of_ble_eq_true rfl) rfl ?_
    refine wn_const (i := 3) (n := 0) rfl rfl ?_
    refine wn_istore (i := 4) (ls' := [some (.ref o), some (.int (nI (true).toNat)), some (.int (nI 0)), none]) rfl (Nat.le_of_ble_eq_true rfl) rfl ?_
    refine wn_const (i := 5) (n := 0) rfl rfl ?_
    refine wn_istore (i := 6) (ls' := [some (.ref o), some (.int (nI (true).toNat)), some (.int (nI 0)), some (.int (nI 0))]) rfl (Nat.le_of_ble_eq_true rfl) rfl ?_
    exact l_cores hb (b := true) hX1 (hge (n 7) b7) (lS_le n f (n 7)) hz (fun h' hX' => by have := hQ h' hX'; rw [if_pos e1] at this; exact this) (n 7 + 1) 0 0 (Nat.zero_le _) (by omega) rfl
  · skip
    rw [hf0] at e1
    show xm_wp sc (d + 4) 14 2 [some (.ref o), none, none, none] [.int (nI (false).toNat)] h1 Q
    refine wn_istore (i := 2) (ls' := [some (.ref o), some (.int (nI (false).toNat)), none, none]) rfl (Nat.le_of_ble_eq_true rfl) rfl ?_
    refine wn_const (i := 3) (n := 0) rfl rfl ?_
    refine wn_istore (i := 4) (ls' := [some (.ref o), some (.int (nI (false).toNat)), some (.int (nI 0)), none]) rfl (Nat.le_of_ble_eq_true rfl) rfl ?_
    refine wn_const (i := 5) (n := 0) rfl rfl ?_
    refine wn_istore (i := 6) (ls' := [some (.ref o), some (.int (nI (false).toNat)), some (.int (nI 0)), some (.int (nI 0))]) rfl (Nat.le_of_ble_eq_true rfl) rfl ?_
    exact l_cores hb (b := false) hX1 (hge 0 (by omega)) (lS_le n f 0) hz (fun h' hX' => by have := hQ h' hX'; rw [if_neg (by omega)] at this; exact this) (n 7 + 1) 0 0 (Nat.zero_le _) (by omega) rfl
theorem l_core (hb : MB n f) {b : Bool} {l : Nat → Nat} {k : Int32} (hX : MX o n (fR f 7 l) h0 h) (hl : ∀ j, 8 ≤ j → l j = f 7 j) (hl1 : ∀ j, j < 8 → l j ≤ 1) (hz : ∀ j, j < 8 → f 7 j = 0) (hQ : ∀ (h' : xm_S), MX o n f h0 h' → Q (some (.int (if b then oI (fK f l k (n 7)) else -1))) h') : ∀ (m : Nat) (x c : Nat) (z : Int32), x ≤ n 7 → n 7 < x + m → c = cK l x → z = oI (fK f l k x) → (b = false → x = 0) → xm_wp sc (d + 4) 13 9 [some (.ref o), some (.int k), some (.int (nI (b).toNat)), some (.int (nI c)), some (.int z), some (.int (nI x))] [] h Q := by
  intro m
  induction m with
  | zero => intro x c z h1 h2; exact absurd h2 (by omega)
  | succ m ih =>
    intro x c z h1 h2 ec ez hb0
    obtain ⟨hT, hB, b5, b7, bc, ba, bl, bn⟩ := id hb
    have hck := cK_le l x
    subst ec
    subst ez
    refine wn_iload (i := 9) rfl rfl ?_
    refine wn_aload (i := 10) rfl rfl ?_
    refine wp_get (i := 11) (n := 7) (a := o) (v := .int (nI (n 7))) rfl hX.1.1 rfl ?_
    refine wn_ic_ge (i := 12) (a := x) (b := (n 7)) (t' := 33) rfl rfl (by omega) (by omega) (fun c12 => ?_) (fun c12 => ?_)
    · skip
      refine wn_aload (i := 33) rfl rfl ?_
      refine wn_callv (i := 34) (as := []) (b := o) (rest := []) (es := [some (.ref o), none]) rfl rfl rfl rfl rfl (Nat.le_of_ble_eq_true rfl) rfl hX.1.1 rfl ?_
      refine m_leaveNone hX (fun h1 hX1 => ?_)
      rw [show fR f 7 (fun j => if j < 8 then 0 else l j) = f from fR_id (fun j => by by_cases q : j < 8; simp [q, hz j q]; simp [q, hl j (by omega)])] at hX1
      show xm_wp sc (d + 4) 13 35 [some (.ref o), some (.int k), some (.int (nI (b).toNat)), some (.int (nI (cK l x))), some (.int (oI (fK f l k x))), some (.int (nI x))] [] h1 Q
      refine wn_iload (i := 35) rfl rfl ?_
      have hq1 := hQ _ hX1
      have ex : x = n 7 := by omega
      rw [← ex] at hq1
      rcases Bool.eq_false_or_eq_true b with eb | eb
      · rw [eb] at hq1; exact wn_ret (i := 36) rfl rfl hq1
      · have hx0 := hb0 eb; subst hx0; rw [eb] at hq1; exact wn_ret (i := 36) rfl rfl hq1
    · skip
      refine wn_iload (i := 13) rfl rfl ?_
      refine wb_if_eq (i := 14) (b := b) (t' := 33) rfl rfl (fun c14 => ?_) (fun c14 => ?_)
      · skip
        refine wn_aload (i := 33) rfl rfl ?_
        refine wn_callv (i := 34) (as := []) (b := o) (rest := []) (es := [some (.ref o), none]) rfl rfl rfl rfl rfl (Nat.le_of_ble_eq_true rfl) rfl hX.1.1 rfl ?_
        refine m_leaveNone hX (fun h1 hX1 => ?_)
        rw [show fR f 7 (fun j => if j < 8 then 0 else l j) = f from fR_id (fun j => by by_cases q : j < 8; simp [q, hz j q]; simp [q, hl j (by omega)])] at hX1
        show xm_wp sc (d + 4) 13 35 [some (.ref o), some (.int k), some (.int (nI (b).toNat)), some (.int (nI (cK l x))), some (.int (oI (fK f l k x))), some (.int (nI x))] [] h1 Q
        refine wn_iload (i := 35) rfl rfl ?_
        have hq1 := hQ _ hX1
        rw [c14] at hq1
        have hx0 := hb0 c14
        subst hx0
        exact wn_ret (i := 36) rfl rfl hq1
      · skip
        have hlk := hl1 x (by omega)
        have hlk2 : fR f 7 l 7 x ≤ 1 := by rw [fR_same]; exact hlk
        refine wn_aload (i := 15) rfl rfl ?_
        refine wp_get (i := 16) (n := 11) (a := o) (v := .ref (o + 7)) rfl hX.1.1 rfl ?_
        refine wn_iload (i := 17) rfl rfl ?_
        refine wm_bald (i := 18) (k := 7) (e := x) (len := 8) rfl hX (by decide) (by decide) rfl rfl rfl (by omega) (by decide) ?_
        refine wn_if_ne (i := 19) (a := ((fR f 7 l) 7 x)) (t' := 31) rfl rfl (by omega) (fun c19 => ?_) (fun c19 => ?_)
        · skip
          have e19 : ¬ l x = 0 := by rw [fR_same] at c19; exact c19
          refine wn_iinc (i := 31) (x := x) (n := 1) (ls' := [some (.ref o), some (.int k), some (.int (nI (b).toNat)), some (.int (nI (cK l x))), some (.int (oI (fK f l k x))), some (.int (nI (x + 1)))]) rfl rfl rfl rfl ?_
          refine wn_goto (i := 32) (t' := 9) rfl rfl ?_
          exact ih (x + 1) _ _ (by omega) (by omega) (by simp [cK, e19]) (by simp [fK, e19]) (fun q => by rw [c14] at q; cases q)
        · skip
          have e19 : l x = 0 := by rw [fR_same] at c19; exact c19
          refine wn_iload (i := 20) rfl rfl ?_
          refine wn_iload (i := 21) rfl rfl ?_
          refine wi_ic_ne (i := 22) (a := (nI (cK l x))) (b := k) (t' := 28) rfl rfl (fun c22 => ?_) (fun c22 => ?_)
          · skip
            refine wn_iload (i := 28) rfl rfl ?_
            refine wn_istore (i := 29) (ls' := [some (.ref o), some (.int k), some (.int (nI (b).toNat)), some (.int (nI (cK l x))), some (.int (oI (fK f l k x))), some (.int (nI x))]) rfl (Nat.le_of_ble_eq_true rfl) rfl ?_
            refine wn_iinc (i := 30) (x := (cK l x)) (n := 1) (ls' := [some (.ref o), some (.int k), some (.int (nI (b).toNat)), some (.int (nI ((cK l x) + 1))), some (.int (oI (fK f l k x))), some (.int (nI x))]) rfl rfl rfl rfl ?_
            refine wn_iinc (i := 31) (x := x) (n := 1) (ls' := [some (.ref o), some (.int k), some (.int (nI (b).toNat)), some (.int (nI ((cK l x) + 1))), some (.int (oI (fK f l k x))), some (.int (nI (x + 1)))]) rfl rfl rfl rfl ?_
            refine wn_goto (i := 32) (t' := 9) rfl rfl ?_
            exact ih (x + 1) _ _ (by omega) (by omega) (by simp [cK, e19]) (by simp [fK, e19, c22]) (fun q => by rw [c14] at q; cases q)
          · skip
            refine wn_aload (i := 23) rfl rfl ?_
            refine wp_get (i := 24) (n := 8) (a := o) (v := .ref (o + 5)) rfl hX.1.1 rfl ?_
            refine wn_iload (i := 25) rfl rfl ?_
            refine wm_iald (i := 26) (k := 5) (e := x) (len := 8) rfl hX (by decide) (by decide) rfl rfl rfl (by omega) (by decide) ?_
            refine wn_goto (i := 27) (t' := 29) rfl rfl ?_
            refine wn_istore (i := 29) (ls' := [some (.ref o), some (.int k), some (.int (nI (b).toNat)), some (.int (nI (cK l x))), some (.int (nI ((fR f 7 l) 5 x))), some (.int (nI x))]) rfl (Nat.le_of_ble_eq_true rfl) rfl ?_
            refine wn_iinc (i := 30) (x := (cK l x)) (n := 1) (ls' := [some (.ref o), some (.int k), some (.int (nI (b).toNat)), some (.int (nI ((cK l x) + 1))), some (.int (nI ((fR f 7 l) 5 x))), some (.int (nI x))]) rfl rfl rfl rfl ?_
            refine wn_iinc (i := 31) (x := x) (n := 1) (ls' := [some (.ref o), some (.int k), some (.int (nI (b).toNat)), some (.int (nI ((cK l x) + 1))), some (.int (nI ((fR f 7 l) 5 x))), some (.int (nI (x + 1)))]) rfl rfl rfl rfl ?_
            refine wn_goto (i := 32) (t' := 9) rfl rfl ?_
            exact ih (x + 1) _ _ (by omega) (by omega) (by simp [cK, e19]) (by simp [fK, oI, e19, c22]; rw [fR_ne (by decide)]) (fun q => by rw [c14] at q; cases q)
theorem m_core (hX : MX o n f h0 h) (hb : MB n f) (hz : ∀ j, j < 8 → f 7 j = 0) {k : Int32} (hQ : ∀ (h' : xm_S), MX o n f h0 h' → Q (some (.int (if cM n f (2 ^ n 4) = 0 then oI (fK f (lS n f (n 7)) k (n 7)) else -1))) h') : xm_wp sc (d + 4) 13 0 [some (.ref o), some (.int k), none, none, none, none] [] h Q := by
  have h70 : lS n f 0 = f 7 := by funext j; simp only [lS]; split; rw [hz j (by assumption)]; rfl
  have hf0 : fR f 7 (lS n f 0) = f := fR_id (fun j => by rw [h70])
  have hX' : MX o n (fR f 7 (f 7)) h0 h := by rw [fR_id (fun j => rfl)]; exact hX
  have hge : ∀ k, k ≤ 8 → ∀ j, 8 ≤ j → lS n f k j = f 7 j := by
    intro k
    induction k with
    | zero => intro _ j hj; rw [h70]
    | succ k ih => intro hk j hj; rw [show lS n f (k + 1) = nU (lS n f k) k (if cM n (fR f 7 (nU (lS n f k) k 1)) (2 ^ n 4) = 0 then 1 else 0) from rfl, nU_ne (by omega)]; exact ih (by omega) j hj
  have b7 := hb.2.2.2.1
  refine wn_aload (i := 0) rfl rfl ?_
  refine wn_callv (i := 1) (as := []) (b := o) (rest := []) (es := [some (.ref o), none]) rfl rfl rfl rfl rfl (Nat.le_of_ble_eq_true rfl) rfl hX.1.1 rfl ?_
  refine m_leave hX' (fun j hj => rfl) hb (fun e1 h1 hX1 => ?_) (fun e1 h1 hX1 => ?_)
  · skip
    rw [hf0] at e1
    show xm_wp sc (d + 4) 13 2 [some (.ref o), some (.int k), none, none, none, none] [.int (nI (true).toNat)] h1 Q
    refine wn_istore (i := 2) (ls' := [some (.ref o), some (.int k), some (.int (nI (true).toNat)), none, none, none]) rfl (Nat.le_of_ble_eq_true rfl) rfl ?_
    refine wn_const (i := 3) (n := 0) rfl rfl ?_
    refine wn_istore (i := 4) (ls' := [some (.ref o), some (.int k), some (.int (nI (true).toNat)), some (.int (nI 0)), none, none]) rfl (Nat.le_of_ble_eq_true rfl) rfl ?_
    refine wn_constI (i := 5) (n := -1) rfl rfl ?_
    refine wn_istore (i := 6) (ls' := [some (.ref o), some (.int k), some (.int (nI (true).toNat)), some (.int (nI 0)), some (.int (-1)), none]) rfl (Nat.le_of_ble_eq_true rfl) rfl ?_
    refine wn_const (i := 7) (n := 0) rfl rfl ?_
    refine wn_istore (i := 8) (ls' := [some (.ref o), some (.int k), some (.int (nI (true).toNat)), some (.int (nI 0)), some (.int (-1)), some (.int (nI 0))]) rfl (Nat.le_of_ble_eq_true rfl) rfl ?_
    exact l_core hb (b := true) hX1 (hge (n 7) b7) (lS_le n f (n 7)) hz (fun h' hX' => by have := hQ h' hX'; rw [if_pos e1] at this; exact this) (n 7 + 1) 0 0 _ (Nat.zero_le _) (by omega) rfl rfl (fun q => by cases q)
  · skip
    rw [hf0] at e1
    show xm_wp sc (d + 4) 13 2 [some (.ref o), some (.int k), none, none, none, none] [.int (nI (false).toNat)] h1 Q
    refine wn_istore (i := 2) (ls' := [some (.ref o), some (.int k), some (.int (nI (false).toNat)), none, none, none]) rfl (Nat.le_of_ble_eq_true rfl) rfl ?_
    refine wn_const (i := 3) (n := 0) rfl rfl ?_
    refine wn_istore (i := 4) (ls' := [some (.ref o), some (.int k), some (.int (nI (false).toNat)), some (.int (nI 0)), none, none]) rfl (Nat.le_of_ble_eq_true rfl) rfl ?_
    refine wn_constI (i := 5) (n := -1) rfl rfl ?_
    refine wn_istore (i := 6) (ls' := [some (.ref o), some (.int k), some (.int (nI (false).toNat)), some (.int (nI 0)), some (.int (-1)), none]) rfl (Nat.le_of_ble_eq_true rfl) rfl ?_
    refine wn_const (i := 7) (n := 0) rfl rfl ?_
    refine wn_istore (i := 8) (ls' := [some (.ref o), some (.int k), some (.int (nI (false).toNat)), some (.int (nI 0)), some (.int (-1)), some (.int (nI 0))]) rfl (Nat.le_of_ble_eq_true rfl) rfl ?_
    exact l_core hb (b := false) hX1 (hge 0 (by omega)) (lS_le n f 0) hz (fun h' hX' => by have := hQ h' hX'; rw [if_neg (by omega)] at this; exact this) (n 7 + 1) 0 0 _ (Nat.zero_le _) (by omega) rfl rfl (fun _ => rfl)
end MM
end
section
/-! ===== the reference: the acts ===== -/
def sI (a n : Nat) : Int32 := (nI a <<< (nI (32 - n) &&& 31)) >>> (nI (32 - n) &&& 31)
def dI (k a b n m : Nat) : Int32 := match k with
  | 0 => nI a ^^^ -1
  | 1 => -(nI a)
  | 2 => nI (a &&& b)
  | 3 => nI (a ||| b)
  | 4 => nI (a ^^^ b)
  | 5 => nI (a + b)
  | 6 => nI a - nI b
  | 7 => nI (a * b)
  | 8 => if b = 0 then -1 else nI (a / b)
  | 9 => if b = 0 then nI a else nI (a % b)
  | 10 => if b = 0 then (if 0 ≤ sI a n then -1 else nI 1) else sI a n / sI b n
  | 11 => if b = 0 then nI a else sI a n - sI a n / sI b n * sI b n
  | 12 => if b < n then nI a <<< (nI b &&& 31) else nI 0
  | 13 => if b < n then nI a >>> (nI b &&& 31) else nI 0
  | 14 => if b < n then sI a n >>> (nI b &&& 31) else sI a n >>> (nI 31 &&& 31)
  | 15 => nI (if a = b then 1 else 0)
  | 16 => nI (if a < b then 1 else 0)
  | 17 => nI (if sI b n ≤ sI a n then 0 else 1)
  | 18 => (nI a <<< (nI m &&& 31)) ||| nI b
  | _ => (nI a <<< (nI (b % n) &&& 31)) ||| (nI a >>> (nI (n - b % n) &&& 31))
def sI_chk (n : Nat) : Bool := (List.range (2 ^ n)).all (fun b => decide (b = 0) || decide (¬ sI b n = 0))
theorem sI_all : (List.range 13).all (fun n => sI_chk n) = true := by decide +kernel
theorem sI_ne0 {b n : Nat} (hn : n ≤ 12) (hb : b < 2 ^ n) (h0 : b ≠ 0) : ¬ sI b n = 0 := by
  have h1 := List.all_eq_true.mp sI_all n (List.mem_range.mpr (by omega))
  have h2 := List.all_eq_true.mp h1 b (List.mem_range.mpr hb)
  simp only [Bool.or_eq_true, decide_eq_true_eq] at h2
  exact h2.resolve_left h0
/-- the lowest w bits -/
def mI (w : Nat) (x : Int32) : Nat := x.toBitVec.toNat % 2 ^ w
theorem mI_lt (w : Nat) (x : Int32) : mI w x < 2 ^ w := Nat.mod_lt _ (Nat.two_pow_pos w)
theorem mI_and {w : Nat} (hw : w ≤ 30) (x : Int32) : x &&& nI (2 ^ w - 1) = nI (mI w x) := pk_and x w (pk_tn (by have := xn_pow hw; omega))
section MM
variable {sc : Nat × Nat × (Nat → Int32)} {d o : Nat} {h h0 : xm_S} {Q : Option Value → xm_S → Prop} {n : Nat → Nat} {f : Nat → Nat → Nat}
theorem m_signed {a q : Nat} (hq : q ≤ 32) (hQ : Q (some (.int (sI a q))) h) : xm_wp sc (d) 31 0 [some (.int (nI a)), some (.int (nI q))] [] h Q := by
  refine wn_iload (i := 0) rfl rfl ?_
  refine wn_const (i := 1) (n := 32) rfl rfl ?_
  refine wn_iload (i := 2) rfl rfl ?_
  refine wn_isub (i := 3) (a := 32) (b := q) rfl (by omega) ?_
  refine wi_ishl (i := 4) (a := (nI a)) (b := (nI (32 - q))) rfl ?_
  refine wn_const (i := 5) (n := 32) rfl rfl ?_
  refine wn_iload (i := 6) rfl rfl ?_
  refine wn_isub (i := 7) (a := 32) (b := q) rfl (by omega) ?_
  refine wi_ishr (i := 8) (a := ((nI a) <<< ((nI (32 - q)) &&& 31))) (b := (nI (32 - q))) rfl ?_
  exact wn_ret (i := 9) rfl rfl hQ
theorem m_done {k a b q m : Nat} (hk : k < 20) (ha : a < 4096) (hb : b < 4096) (hq1 : 1 ≤ q) (hq : q ≤ 12) (hm : m ≤ 12) (hbq : k = 10 ∨ k = 11 → b < 2 ^ q) (hQ : Q (some (.int (dI k a b q m))) h) : xm_wp sc (d + 1) 17 0 [some (.int (nI k)), some (.int (nI a)), some (.int (nI b)), some (.int (nI q)), some (.int (nI m)), none, none] [] h Q := by
  refine wn_iload (i := 0) rfl rfl ?_
  refine wn_iload (i := 1) rfl rfl ?_
  refine wn_calls (i := 2) (as := [.int (nI a), .int (nI q)]) (rest := []) (es := [some (.int (nI a)), some (.int (nI q))]) rfl rfl (by decide) rfl rfl rfl (Nat.le_of_ble_eq_true rfl) rfl rfl ?_
  refine m_signed (by omega) ?_
  show xm_wp sc (d + 1) 17 3 [some (.int (nI k)), some (.int (nI a)), some (.int (nI b)), some (.int (nI q)), some (.int (nI m)), none, none] [.int (sI a q)] h Q
  refine wn_istore (i := 3) (ls' := [some (.int (nI k)), some (.int (nI a)), some (.int (nI b)), some (.int (nI q)), some (.int (nI m)), some (.int (sI a q)), none]) rfl (Nat.le_of_ble_eq_true rfl) rfl ?_
  refine wn_iload (i := 4) rfl rfl ?_
  refine wn_iload (i := 5) rfl rfl ?_
  refine wn_calls (i := 6) (as := [.int (nI b), .int (nI q)]) (rest := []) (es := [some (.int (nI b)), some (.int (nI q))]) rfl rfl (by decide) rfl rfl rfl (Nat.le_of_ble_eq_true rfl) rfl rfl ?_
  refine m_signed (by omega) ?_
  show xm_wp sc (d + 1) 17 7 [some (.int (nI k)), some (.int (nI a)), some (.int (nI b)), some (.int (nI q)), some (.int (nI m)), some (.int (sI a q)), none] [.int (sI b q)] h Q
  refine wn_istore (i := 7) (ls' := [some (.int (nI k)), some (.int (nI a)), some (.int (nI b)), some (.int (nI q)), some (.int (nI m)), some (.int (sI a q)), some (.int (sI b q))]) rfl (Nat.le_of_ble_eq_true rfl) rfl ?_
  refine wn_iload (i := 8) rfl rfl ?_
  rcases (show k = 0 ∨ k = 1 ∨ k = 2 ∨ k = 3 ∨ k = 4 ∨ k = 5 ∨ k = 6 ∨ k = 7 ∨ k = 8 ∨ k = 9 ∨ k = 10 ∨ k = 11 ∨ k = 12 ∨ k = 13 ∨ k = 14 ∨ k = 15 ∨ k = 16 ∨ k = 17 ∨ k = 18 ∨ k = 19 by omega) with e | e | e | e | e | e | e | e | e | e | e | e | e | e | e | e | e | e | e | e
  · subst e
    refine wn_swIn (i := 9) (t := 10) (t' := 10) rfl (by decide) (by decide) rfl ?_
    refine wn_iload (i := 10) rfl rfl ?_
    refine wn_constI (i := 11) (n := -1) rfl rfl ?_
    refine wi_ixor (i := 12) (a := (nI a)) (b := (-1)) rfl ?_
    exact wn_ret (i := 13) rfl rfl hQ
  · subst e
    refine wn_swIn (i := 9) (t := 14) (t' := 14) rfl (by decide) (by decide) rfl ?_
    refine wn_iload (i := 14) rfl rfl ?_
    refine wi_ineg (i := 15) (a := (nI a)) rfl ?_
    exact wn_ret (i := 16) rfl rfl hQ
  · subst e
    refine wn_swIn (i := 9) (t := 17) (t' := 17) rfl (by decide) (by decide) rfl ?_
    refine wn_iload (i := 17) rfl rfl ?_
    refine wn_iload (i := 18) rfl rfl ?_
    refine wn_iand (i := 19) (a := a) (b := b) rfl ?_
    exact wn_ret (i := 20) rfl rfl hQ
  · subst e
    refine wn_swIn (i := 9) (t := 21) (t' := 21) rfl (by decide) (by decide) rfl ?_
    refine wn_iload (i := 21) rfl rfl ?_
    refine wn_iload (i := 22) rfl rfl ?_
    refine wn_ior (i := 23) (a := a) (b := b) rfl ?_
    exact wn_ret (i := 24) rfl rfl hQ
  · subst e
    refine wn_swIn (i := 9) (t := 25) (t' := 25) rfl (by decide) (by decide) rfl ?_
    refine wn_iload (i := 25) rfl rfl ?_
    refine wn_iload (i := 26) rfl rfl ?_
    refine wn_ixor (i := 27) (a := a) (b := b) rfl ?_
    exact wn_ret (i := 28) rfl rfl hQ
  · subst e
    refine wn_swIn (i := 9) (t := 29) (t' := 29) rfl (by decide) (by decide) rfl ?_
    refine wn_iload (i := 29) rfl rfl ?_
    refine wn_iload (i := 30) rfl rfl ?_
    refine wn_iadd (i := 31) (a := a) (b := b) rfl ?_
    exact wn_ret (i := 32) rfl rfl hQ
  · subst e
    refine wn_swIn (i := 9) (t := 33) (t' := 33) rfl (by decide) (by decide) rfl ?_
    refine wn_iload (i := 33) rfl rfl ?_
    refine wn_iload (i := 34) rfl rfl ?_
    refine wi_isub (i := 35) (a := (nI a)) (b := (nI b)) rfl ?_
    exact wn_ret (i := 36) rfl rfl hQ
  · subst e
    refine wn_swIn (i := 9) (t := 37) (t' := 37) rfl (by decide) (by decide) rfl ?_
    refine wn_iload (i := 37) rfl rfl ?_
    refine wn_iload (i := 38) rfl rfl ?_
    refine wn_imul (i := 39) (a := a) (b := b) rfl ?_
    exact wn_ret (i := 40) rfl rfl hQ
  · subst e
    refine wn_swIn (i := 9) (t := 41) (t' := 41) rfl (by decide) (by decide) rfl ?_
    refine wn_iload (i := 41) rfl rfl ?_
    refine wn_if_ne (i := 42) (a := b) (t' := 45) rfl rfl (by omega) (fun c42 => ?_) (fun c42 => ?_)
    · skip
      refine wn_iload (i := 45) rfl rfl ?_
      refine wn_iload (i := 46) rfl rfl ?_
      refine wn_idiv (i := 47) (a := a) (b := b) rfl (by omega) (by omega) (by omega) ?_
      exact wn_ret (i := 48) rfl rfl (by have hQ2 := hQ; simp only [dI] at hQ2; first | (simp only [c42, if_true, if_false] at hQ2; exact hQ2) | (simp [c42] at hQ2 ⊢; exact hQ2) | (rw [if_neg (by omega)] at hQ2; first | exact hQ2 | (rw [if_neg (by assumption)] at hQ2; exact hQ2) | (rw [if_pos (by assumption)] at hQ2; exact hQ2)) | (rw [if_pos (by omega)] at hQ2; exact hQ2))
    · skip
      refine wn_constI (i := 43) (n := -1) rfl rfl ?_
      refine wn_goto (i := 44) (t' := 48) rfl rfl ?_
      exact wn_ret (i := 48) rfl rfl (by have hQ2 := hQ; simp only [dI] at hQ2; first | (simp only [c42, if_true, if_false] at hQ2; exact hQ2) | (simp [c42] at hQ2 ⊢; exact hQ2) | (rw [if_neg (by omega)] at hQ2; first | exact hQ2 | (rw [if_neg (by assumption)] at hQ2; exact hQ2) | (rw [if_pos (by assumption)] at hQ2; exact hQ2)) | (rw [if_pos (by omega)] at hQ2; exact hQ2))
  · subst e
    refine wn_swIn (i := 9) (t := 49) (t' := 49) rfl (by decide) (by decide) rfl ?_
    refine wn_iload (i := 49) rfl rfl ?_
    refine wn_if_ne (i := 50) (a := b) (t' := 53) rfl rfl (by omega) (fun c50 => ?_) (fun c50 => ?_)
    · skip
      refine wn_iload (i := 53) rfl rfl ?_
      refine wn_iload (i := 54) rfl rfl ?_
      refine wn_irem (i := 55) (a := a) (b := b) rfl (by omega) (by omega) (by omega) ?_
      exact wn_ret (i := 56) rfl rfl (by have hQ2 := hQ; simp only [dI] at hQ2; first | (simp only [c50, if_true, if_false] at hQ2; exact hQ2) | (simp [c50] at hQ2 ⊢; exact hQ2) | (rw [if_neg (by omega)] at hQ2; first | exact hQ2 | (rw [if_neg (by assumption)] at hQ2; exact hQ2) | (rw [if_pos (by assumption)] at hQ2; exact hQ2)) | (rw [if_pos (by omega)] at hQ2; exact hQ2))
    · skip
      refine wn_iload (i := 51) rfl rfl ?_
      refine wn_goto (i := 52) (t' := 56) rfl rfl ?_
      exact wn_ret (i := 56) rfl rfl (by have hQ2 := hQ; simp only [dI] at hQ2; first | (simp only [c50, if_true, if_false] at hQ2; exact hQ2) | (simp [c50] at hQ2 ⊢; exact hQ2) | (rw [if_neg (by omega)] at hQ2; first | exact hQ2 | (rw [if_neg (by assumption)] at hQ2; exact hQ2) | (rw [if_pos (by assumption)] at hQ2; exact hQ2)) | (rw [if_pos (by omega)] at hQ2; exact hQ2))
  · subst e
    refine wn_swIn (i := 9) (t := 57) (t' := 57) rfl (by decide) (by decide) rfl ?_
    refine wn_iload (i := 57) rfl rfl ?_
    refine wn_if_ne (i := 58) (a := b) (t' := 65) rfl rfl (by omega) (fun c58 => ?_) (fun c58 => ?_)
    · skip
      refine wn_iload (i := 65) rfl rfl ?_
      refine wn_iload (i := 66) rfl rfl ?_
      refine wp_idiv (i := 67) (x := (sI a q)) (z := (sI b q)) rfl (sI_ne0 hq (hbq (by decide)) c58) ?_
      exact wn_ret (i := 68) rfl rfl (by have hQ2 := hQ; simp only [dI] at hQ2; first | (simp only [c58, if_true, if_false] at hQ2; exact hQ2) | (simp [c58] at hQ2 ⊢; exact hQ2) | (rw [if_neg (by omega)] at hQ2; first | exact hQ2 | (rw [if_neg (by assumption)] at hQ2; exact hQ2) | (rw [if_pos (by assumption)] at hQ2; exact hQ2)) | (rw [if_pos (by omega)] at hQ2; exact hQ2))
    · skip
      refine wn_iload (i := 59) rfl rfl ?_
      refine wi_if_ge (i := 60) (a := (sI a q)) (t' := 63) rfl rfl (fun c60 => ?_) (fun c60 => ?_)
      · skip
        refine wn_constI (i := 63) (n := -1) rfl rfl ?_
        refine wn_goto (i := 64) (t' := 68) rfl rfl ?_
        exact wn_ret (i := 68) rfl rfl (by have hQ2 := hQ; simp only [dI] at hQ2; first | (simp only [c58, c60, if_true, if_false] at hQ2; exact hQ2) | (simp [c58, c60] at hQ2 ⊢; exact hQ2) | (rw [if_neg (by omega)] at hQ2; first | exact hQ2 | (rw [if_neg (by assumption)] at hQ2; exact hQ2) | (rw [if_pos (by assumption)] at hQ2; exact hQ2)) | (rw [if_pos (by omega)] at hQ2; exact hQ2))
      · skip
        refine wn_const (i := 61) (n := 1) rfl rfl ?_
        refine wn_goto (i := 62) (t' := 68) rfl rfl ?_
        exact wn_ret (i := 68) rfl rfl (by have hQ2 := hQ; simp only [dI] at hQ2; first | (simp only [c58, c60, if_true, if_false] at hQ2; exact hQ2) | (simp [c58, c60] at hQ2 ⊢; exact hQ2) | (rw [if_neg (by omega)] at hQ2; first | exact hQ2 | (rw [if_neg (by assumption)] at hQ2; exact hQ2) | (rw [if_pos (by assumption)] at hQ2; exact hQ2)) | (rw [if_pos (by omega)] at hQ2; exact hQ2))
  · subst e
    refine wn_swIn (i := 9) (t := 69) (t' := 69) rfl (by decide) (by decide) rfl ?_
    refine wn_iload (i := 69) rfl rfl ?_
    refine wn_if_ne (i := 70) (a := b) (t' := 73) rfl rfl (by omega) (fun c70 => ?_) (fun c70 => ?_)
    · skip
      refine wn_iload (i := 73) rfl rfl ?_
      refine wn_iload (i := 74) rfl rfl ?_
      refine wp_irem (i := 75) (x := (sI a q)) (z := (sI b q)) rfl (sI_ne0 hq (hbq (by decide)) c70) ?_
      exact wn_ret (i := 76) rfl rfl (by have hQ2 := hQ; simp only [dI] at hQ2; first | (simp only [c70, if_true, if_false] at hQ2; exact hQ2) | (simp [c70] at hQ2 ⊢; exact hQ2) | (rw [if_neg (by omega)] at hQ2; first | exact hQ2 | (rw [if_neg (by assumption)] at hQ2; exact hQ2) | (rw [if_pos (by assumption)] at hQ2; exact hQ2)) | (rw [if_pos (by omega)] at hQ2; exact hQ2))
    · skip
      refine wn_iload (i := 71) rfl rfl ?_
      refine wn_goto (i := 72) (t' := 76) rfl rfl ?_
      exact wn_ret (i := 76) rfl rfl (by have hQ2 := hQ; simp only [dI] at hQ2; first | (simp only [c70, if_true, if_false] at hQ2; exact hQ2) | (simp [c70] at hQ2 ⊢; exact hQ2) | (rw [if_neg (by omega)] at hQ2; first | exact hQ2 | (rw [if_neg (by assumption)] at hQ2; exact hQ2) | (rw [if_pos (by assumption)] at hQ2; exact hQ2)) | (rw [if_pos (by omega)] at hQ2; exact hQ2))
  · subst e
    refine wn_swIn (i := 9) (t := 77) (t' := 77) rfl (by decide) (by decide) rfl ?_
    refine wn_iload (i := 77) rfl rfl ?_
    refine wn_iload (i := 78) rfl rfl ?_
    refine wn_ic_lt (i := 79) (a := b) (b := q) (t' := 82) rfl rfl (by omega) (by omega) (fun c79 => ?_) (fun c79 => ?_)
    · skip
      refine wn_iload (i := 82) rfl rfl ?_
      refine wn_iload (i := 83) rfl rfl ?_
      refine wi_ishl (i := 84) (a := (nI a)) (b := (nI b)) rfl ?_
      exact wn_ret (i := 85) rfl rfl (by have hQ2 := hQ; simp only [dI] at hQ2; first | (simp only [c79, if_true, if_false] at hQ2; exact hQ2) | (simp [c79] at hQ2 ⊢; exact hQ2) | (rw [if_neg (by omega)] at hQ2; first | exact hQ2 | (rw [if_neg (by assumption)] at hQ2; exact hQ2) | (rw [if_pos (by assumption)] at hQ2; exact hQ2)) | (rw [if_pos (by omega)] at hQ2; exact hQ2))
    · skip
      refine wn_const (i := 80) (n := 0) rfl rfl ?_
      refine wn_goto (i := 81) (t' := 85) rfl rfl ?_
      exact wn_ret (i := 85) rfl rfl (by have hQ2 := hQ; simp only [dI] at hQ2; first | (simp only [c79, if_true, if_false] at hQ2; exact hQ2) | (simp [c79] at hQ2 ⊢; exact hQ2) | (rw [if_neg (by omega)] at hQ2; first | exact hQ2 | (rw [if_neg (by assumption)] at hQ2; exact hQ2) | (rw [if_pos (by assumption)] at hQ2; exact hQ2)) | (rw [if_pos (by omega)] at hQ2; exact hQ2))
  · subst e
    refine wn_swIn (i := 9) (t := 86) (t' := 86) rfl (by decide) (by decide) rfl ?_
    refine wn_iload (i := 86) rfl rfl ?_
    refine wn_iload (i := 87) rfl rfl ?_
    refine wn_ic_lt (i := 88) (a := b) (b := q) (t' := 91) rfl rfl (by omega) (by omega) (fun c88 => ?_) (fun c88 => ?_)
    · skip
      refine wn_iload (i := 91) rfl rfl ?_
      refine wn_iload (i := 92) rfl rfl ?_
      refine wi_ishr (i := 93) (a := (nI a)) (b := (nI b)) rfl ?_
      exact wn_ret (i := 94) rfl rfl (by have hQ2 := hQ; simp only [dI] at hQ2; first | (simp only [c88, if_true, if_false] at hQ2; exact hQ2) | (simp [c88] at hQ2 ⊢; exact hQ2) | (rw [if_neg (by omega)] at hQ2; first | exact hQ2 | (rw [if_neg (by assumption)] at hQ2; exact hQ2) | (rw [if_pos (by assumption)] at hQ2; exact hQ2)) | (rw [if_pos (by omega)] at hQ2; exact hQ2))
    · skip
      refine wn_const (i := 89) (n := 0) rfl rfl ?_
      refine wn_goto (i := 90) (t' := 94) rfl rfl ?_
      exact wn_ret (i := 94) rfl rfl (by have hQ2 := hQ; simp only [dI] at hQ2; first | (simp only [c88, if_true, if_false] at hQ2; exact hQ2) | (simp [c88] at hQ2 ⊢; exact hQ2) | (rw [if_neg (by omega)] at hQ2; first | exact hQ2 | (rw [if_neg (by assumption)] at hQ2; exact hQ2) | (rw [if_pos (by assumption)] at hQ2; exact hQ2)) | (rw [if_pos (by omega)] at hQ2; exact hQ2))
  · subst e
    refine wn_swIn (i := 9) (t := 95) (t' := 95) rfl (by decide) (by decide) rfl ?_
    refine wn_iload (i := 95) rfl rfl ?_
    refine wn_iload (i := 96) rfl rfl ?_
    refine wn_iload (i := 97) rfl rfl ?_
    refine wn_ic_lt (i := 98) (a := b) (b := q) (t' := 101) rfl rfl (by omega) (by omega) (fun c98 => ?_) (fun c98 => ?_)
    · skip
      refine wn_iload (i := 101) rfl rfl ?_
      refine wi_ishr (i := 102) (a := (sI a q)) (b := (nI b)) rfl ?_
      exact wn_ret (i := 103) rfl rfl (by have hQ2 := hQ; simp only [dI] at hQ2; first | (simp only [c98, if_true, if_false] at hQ2; exact hQ2) | (simp [c98] at hQ2 ⊢; exact hQ2) | (rw [if_neg (by omega)] at hQ2; first | exact hQ2 | (rw [if_neg (by assumption)] at hQ2; exact hQ2) | (rw [if_pos (by assumption)] at hQ2; exact hQ2)) | (rw [if_pos (by omega)] at hQ2; exact hQ2))
    · skip
      refine wn_const (i := 99) (n := 31) rfl rfl ?_
      refine wn_goto (i := 100) (t' := 102) rfl rfl ?_
      refine wi_ishr (i := 102) (a := (sI a q)) (b := (nI 31)) rfl ?_
      exact wn_ret (i := 103) rfl rfl (by have hQ2 := hQ; simp only [dI] at hQ2; first | (simp only [c98, if_true, if_false] at hQ2; exact hQ2) | (simp [c98] at hQ2 ⊢; exact hQ2) | (rw [if_neg (by omega)] at hQ2; first | exact hQ2 | (rw [if_neg (by assumption)] at hQ2; exact hQ2) | (rw [if_pos (by assumption)] at hQ2; exact hQ2)) | (rw [if_pos (by omega)] at hQ2; exact hQ2))
  · subst e
    refine wn_swIn (i := 9) (t := 104) (t' := 104) rfl (by decide) (by decide) rfl ?_
    refine wn_iload (i := 104) rfl rfl ?_
    refine wn_iload (i := 105) rfl rfl ?_
    refine wn_ic_ne (i := 106) (a := a) (b := b) (t' := 109) rfl rfl (by omega) (by omega) (fun c106 => ?_) (fun c106 => ?_)
    · skip
      refine wn_const (i := 109) (n := 0) rfl rfl ?_
      exact wn_ret (i := 110) rfl rfl (by have hQ2 := hQ; simp only [dI] at hQ2; first | (simp only [c106, if_true, if_false] at hQ2; exact hQ2) | (simp [c106] at hQ2 ⊢; exact hQ2) | (rw [if_neg (by omega)] at hQ2; first | exact hQ2 | (rw [if_neg (by assumption)] at hQ2; exact hQ2) | (rw [if_pos (by assumption)] at hQ2; exact hQ2)) | (rw [if_pos (by omega)] at hQ2; exact hQ2))
    · skip
      refine wn_const (i := 107) (n := 1) rfl rfl ?_
      refine wn_goto (i := 108) (t' := 110) rfl rfl ?_
      exact wn_ret (i := 110) rfl rfl (by have hQ2 := hQ; simp only [dI] at hQ2; first | (simp only [c106, if_true, if_false] at hQ2; exact hQ2) | (simp [c106] at hQ2 ⊢; exact hQ2) | (rw [if_neg (by omega)] at hQ2; first | exact hQ2 | (rw [if_neg (by assumption)] at hQ2; exact hQ2) | (rw [if_pos (by assumption)] at hQ2; exact hQ2)) | (rw [if_pos (by omega)] at hQ2; exact hQ2))
  · subst e
    refine wn_swIn (i := 9) (t := 111) (t' := 111) rfl (by decide) (by decide) rfl ?_
    refine wn_iload (i := 111) rfl rfl ?_
    refine wn_iload (i := 112) rfl rfl ?_
    refine wn_ic_ge (i := 113) (a := a) (b := b) (t' := 116) rfl rfl (by omega) (by omega) (fun c113 => ?_) (fun c113 => ?_)
    · skip
      refine wn_const (i := 116) (n := 0) rfl rfl ?_
      exact wn_ret (i := 117) rfl rfl (by have hQ2 := hQ; simp only [dI] at hQ2; first | (simp only [c113, if_true, if_false] at hQ2; exact hQ2) | (simp [c113] at hQ2 ⊢; exact hQ2) | (rw [if_neg (by omega)] at hQ2; first | exact hQ2 | (rw [if_neg (by assumption)] at hQ2; exact hQ2) | (rw [if_pos (by assumption)] at hQ2; exact hQ2)) | (rw [if_pos (by omega)] at hQ2; exact hQ2))
    · skip
      refine wn_const (i := 114) (n := 1) rfl rfl ?_
      refine wn_goto (i := 115) (t' := 117) rfl rfl ?_
      exact wn_ret (i := 117) rfl rfl (by have hQ2 := hQ; simp only [dI] at hQ2; first | (simp only [c113, if_true, if_false] at hQ2; exact hQ2) | (simp [c113] at hQ2 ⊢; exact hQ2) | (rw [if_neg (by omega)] at hQ2; first | exact hQ2 | (rw [if_neg (by assumption)] at hQ2; exact hQ2) | (rw [if_pos (by assumption)] at hQ2; exact hQ2)) | (rw [if_pos (by omega)] at hQ2; exact hQ2))
  · subst e
    refine wn_swIn (i := 9) (t := 118) (t' := 118) rfl (by decide) (by decide) rfl ?_
    refine wn_iload (i := 118) rfl rfl ?_
    refine wn_iload (i := 119) rfl rfl ?_
    refine wi_ic_ge (i := 120) (a := (sI a q)) (b := (sI b q)) (t' := 123) rfl rfl (fun c120 => ?_) (fun c120 => ?_)
    · skip
      refine wn_const (i := 123) (n := 0) rfl rfl ?_
      exact wn_ret (i := 124) rfl rfl (by have hQ2 := hQ; simp only [dI] at hQ2; first | (simp only [c120, if_true, if_false] at hQ2; exact hQ2) | (simp [c120] at hQ2 ⊢; exact hQ2) | (rw [if_neg (by omega)] at hQ2; first | exact hQ2 | (rw [if_neg (by assumption)] at hQ2; exact hQ2) | (rw [if_pos (by assumption)] at hQ2; exact hQ2)) | (rw [if_pos (by omega)] at hQ2; exact hQ2))
    · skip
      refine wn_const (i := 121) (n := 1) rfl rfl ?_
      refine wn_goto (i := 122) (t' := 124) rfl rfl ?_
      exact wn_ret (i := 124) rfl rfl (by have hQ2 := hQ; simp only [dI] at hQ2; first | (simp only [c120, if_true, if_false] at hQ2; exact hQ2) | (simp [c120] at hQ2 ⊢; exact hQ2) | (rw [if_neg (by omega)] at hQ2; first | exact hQ2 | (rw [if_neg (by assumption)] at hQ2; exact hQ2) | (rw [if_pos (by assumption)] at hQ2; exact hQ2)) | (rw [if_pos (by omega)] at hQ2; exact hQ2))
  · subst e
    refine wn_swIn (i := 9) (t := 125) (t' := 125) rfl (by decide) (by decide) rfl ?_
    refine wn_iload (i := 125) rfl rfl ?_
    refine wn_iload (i := 126) rfl rfl ?_
    refine wi_ishl (i := 127) (a := (nI a)) (b := (nI m)) rfl ?_
    refine wn_iload (i := 128) rfl rfl ?_
    refine wi_ior (i := 129) (a := ((nI a) <<< ((nI m) &&& 31))) (b := (nI b)) rfl ?_
    exact wn_ret (i := 130) rfl rfl hQ
  · subst e
    refine wn_swOut (i := 9) (t' := 131) rfl (by decide) rfl ?_
    refine wn_iload (i := 131) rfl rfl ?_
    refine wn_iload (i := 132) rfl rfl ?_
    refine wn_iload (i := 133) rfl rfl ?_
    refine wn_irem (i := 134) (a := b) (b := q) rfl (by omega) (by omega) (by omega) ?_
    refine wi_ishl (i := 135) (a := (nI a)) (b := (nI (b % q))) rfl ?_
    refine wn_iload (i := 136) rfl rfl ?_
    refine wn_iload (i := 137) rfl rfl ?_
    refine wn_iload (i := 138) rfl rfl ?_
    refine wn_iload (i := 139) rfl rfl ?_
    refine wn_irem (i := 140) (a := b) (b := q) rfl (by omega) (by omega) (by omega) ?_
    refine wn_isub (i := 141) (a := q) (b := (b % q)) rfl (by have := Nat.mod_lt b (show 0 < q by omega); omega) ?_
    refine wi_ishr (i := 142) (a := (nI a)) (b := (nI (q - (b % q)))) rfl ?_
    refine wi_ior (i := 143) (a := ((nI a) <<< ((nI (b % q)) &&& 31))) (b := ((nI a) >>> ((nI (q - (b % q))) &&& 31))) rfl ?_
    exact wn_ret (i := 144) rfl rfl hQ
end MM
end
section
/-! ===== the reference: new terms ===== -/
theorem xn_isIn2 {v : Int32} {lo e : Nat} (hl : lo < 2 ^ 30) (he : e < 2 ^ 30) (h1 : nI lo ≤ v) (h2 : v ≤ nI e) : ∃ u : Nat, lo ≤ u ∧ u ≤ e ∧ v = nI u := by
  have h0 : ¬ v < 0 := by
    intro q
    exact absurd (Int32.lt_of_le_of_lt h1 q) (nI_pos (by omega))
  obtain ⟨u, hu, rfl⟩ := nI_of h0
  exact ⟨u, (nI_leI (by omega) hu).mp h1, (nI_leI hu (by omega)).mp h2, rfl⟩
theorem xn_notIn2 {v : Int32} {lo e : Nat} (hl : lo < 2 ^ 30) (he : e < 2 ^ 30) (h : ¬ (nI lo ≤ v ∧ v ≤ nI e)) : ∀ u, lo ≤ u → u ≤ e → v ≠ nI u := by
  intro u hu1 hu ev
  subst ev
  exact h ⟨nI_le hu1 (by omega), nI_le hu (by omega)⟩
/-- the row of the term T is made up to x -/
def tL (f g f1 : Nat → Nat → Nat) (T x : Nat) (V : Nat → Nat) : Prop := (∀ k, k ≠ 3 → f1 k = g k) ∧ (∀ i, i < x → f1 3 (4096 * T + i) = V i) ∧ ∀ j, j < 4096 * T ∨ 4096 * T + x ≤ j → f1 3 j = f 3 j
theorem tL.start {f g : Nat → Nat → Nat} {T : Nat} {V : Nat → Nat} (h : g 3 = f 3) : tL f g g T 0 V := ⟨fun _ _ => rfl, fun i hi => absurd hi (Nat.not_lt_zero _), fun j _ => by rw [h]⟩
theorem tL.step {f g f1 : Nat → Nat → Nat} {T x : Nat} {V : Nat → Nat} (h : tL f g f1 T x V) {v : Nat} (hv : v = V x) : tL f g (fU f1 3 (4096 * T + x) v) T (x + 1) V := by
  obtain ⟨h1, h2, h3⟩ := h
  refine ⟨fun k hk => ?_, fun i hi => ?_, fun j hj => ?_⟩
  · rw [← h1 k hk]
    funext j
    exact fU_ne (fun q => hk q.1)
  · by_cases q : i = x
    · subst q
      rw [fU_same, hv]
    · rw [fU_ne (fun z => q (by omega))]
      exact h2 i (by omega)
  · rw [fU_ne (fun z => by omega)]
    exact h3 j (by omega)
section MM
variable {sc : Nat × Nat × (Nat → Int32)} {d o : Nat} {h h0 : xm_S} {Q : Option Value → xm_S → Prop} {n : Nat → Nat} {f : Nat → Nat → Nat}
theorem m_byT {n1 : Nat → Nat} {g f1 : Nat → Nat → Nat} {T z : Nat} {Vv : Nat → Nat} {a x : Nat} (hX : MX o n1 f1 h0 h) (ht : tL f g f1 T z Vv) (hT : T < 24) (ha : a < T) (hx : x < 4096) (hQ : Q (some (.int (nI (f 3 (4096 * a + x))))) h) : xm_wp sc (d) 7 0 [some (.ref o), some (.int (nI a)), some (.int (nI x))] [] h Q := m_by hX (by omega) (by rw [ht.2.2 _ (Or.inl (by omega))]; exact hQ)
theorem l_constant {n1 : Nat → Nat} {g : Nat → Nat → Nat} {T : Nat} (hB : n1 4 ≤ 12) (hT : T < 24) {u w : Nat} (hQ : ∀ (h' : xm_S) (f1 : Nat → Nat → Nat), MX o n1 f1 h0 h' → tL f g f1 T (2 ^ n1 4) (fun _ => w) → Q (some (.int (nI T))) h') : ∀ (m : Nat) (x : Nat) (h : xm_S) (f1 : Nat → Nat → Nat), x ≤ 2 ^ n1 4 → 2 ^ n1 4 < x + m → MX o n1 f1 h0 h → tL f g f1 T x (fun _ => w) → xm_wp sc (d + 1) 12 26 [some (.ref o), some (.int (nI u)), some (.int (nI w)), some (.int (nI T)), some (.int (nI x))] [] h Q := by
  intro m
  induction m with
  | zero => intro x h f1 h1 h2; exact absurd h2 (by omega)
  | succ m ih =>
    intro x h f1 h1 h2 hX ht
    have hN := xn_p12 hB
    refine wn_iload (i := 26) rfl rfl ?_
    refine wn_aload (i := 27) rfl rfl ?_
    refine wn_callv (i := 28) (as := []) (b := o) (rest := [.int (nI x)]) (es := [some (.ref o)]) rfl rfl rfl rfl rfl (Nat.le_of_ble_eq_true rfl) rfl hX.1.1 rfl ?_
    refine m_all hX hB ?_
    show xm_wp sc (d + 1) 12 29 [some (.ref o), some (.int (nI u)), some (.int (nI w)), some (.int (nI T)), some (.int (nI x))] [.int (nI (2 ^ n1 4)), .int (nI x)] h Q
    refine wn_ic_ge (i := 29) (a := x) (b := (2 ^ n1 4)) (t' := 41) rfl rfl (by omega) (by omega) (fun c29 => ?_) (fun c29 => ?_)
    · skip
      refine wn_iload (i := 41) rfl rfl ?_
      have ex : x = 2 ^ n1 4 := by omega
      subst ex
      exact wn_ret (i := 42) rfl rfl (hQ _ _ hX ht)
    · skip
      refine wn_aload (i := 30) rfl rfl ?_
      refine wp_get (i := 31) (n := 3) (a := o) (v := .ref (o + 3)) rfl hX.1.1 rfl ?_
      refine wn_const (i := 32) (n := 4096) rfl rfl ?_
      refine wn_iload (i := 33) rfl rfl ?_
      refine wn_imul (i := 34) (a := 4096) (b := T) rfl ?_
      refine wn_iload (i := 35) rfl rfl ?_
      refine wn_iadd (i := 36) (a := (4096 * T)) (b := x) rfl ?_
      refine wn_iload (i := 37) rfl rfl ?_
      refine wm_iast (i := 38) (k := 3) (e := ((4096 * T) + x)) (x := w) (len := 98304) rfl hX (by decide) (by decide) rfl rfl rfl (by omega) (by decide) (fun h_38 hX_38 => ?_)
      refine wn_iinc (i := 39) (x := x) (n := 1) (ls' := [some (.ref o), some (.int (nI u)), some (.int (nI w)), some (.int (nI T)), some (.int (nI (x + 1)))]) rfl rfl rfl rfl ?_
      refine wn_goto (i := 40) (t' := 26) rfl rfl ?_
      exact ih (x + 1) _ _ (by omega) (by omega) hX_38 (ht.step (rfl))
theorem m_constant (hX : MX o n f h0 h) (hT : n 0 ≤ 24) (hB : n 4 ≤ 12) {a v : Int32} (hBad : (∀ u w, 1 ≤ u → u ≤ 12 → w < 2 ^ u → a = nI u → v ≠ nI w) → Q (some (.int (-2))) h) (hF : ∀ u w, 1 ≤ u → u ≤ 12 → w < 2 ^ u → a = nI u → v = nI w → n 0 = 24 → Q (some (.int (-3))) h) (hQ : ∀ u w, 1 ≤ u → u ≤ 12 → w < 2 ^ u → a = nI u → v = nI w → n 0 < 24 → ∀ (h' : xm_S) (f1 : Nat → Nat → Nat), MX o (nU n 0 (n 0 + 1)) f1 h0 h' → tL f (fU (fU f 1 (n 0) u) 2 (n 0) 0) f1 (n 0) (2 ^ n 4) (fun _ => w) → Q (some (.int (nI (n 0)))) h') : xm_wp sc (d + 1) 12 0 [some (.ref o), some (.int a), some (.int v), none, none] [] h Q := by
  refine wn_iload (i := 0) rfl rfl ?_
  refine wn_const (i := 1) (n := 1) rfl rfl ?_
  refine wn_const (i := 2) (n := 12) rfl rfl ?_
  refine wn_calls (i := 3) (as := [.int a, .int (nI 1), .int (nI 12)]) (rest := []) (es := [some (.int a), some (.int (nI 1)), some (.int (nI 12))]) rfl rfl (by decide) rfl rfl rfl (Nat.le_of_ble_eq_true rfl) rfl rfl ?_
  refine m_isIn (fun q1 q2 => ?_) (fun q0 => ?_)
  · skip
    obtain ⟨u, hu1, hu2, rfl⟩ := xn_isIn2 (by omega) (by omega) q1 q2
    show xm_wp sc (d + 1) 12 4 [some (.ref o), some (.int (nI u)), some (.int v), none, none] [.int (nI (true).toNat)] h Q
    refine wb_if_eq (i := 4) (b := true) (t' := 11) rfl rfl (fun c4 => ?_) (fun c4 => ?_)
    · cases c4
    · skip
      have hp := xn_p12 hu2
      have hp0 := Nat.two_pow_pos u
      refine wn_iload (i := 5) rfl rfl ?_
      refine wn_const (i := 6) (n := 0) rfl rfl ?_
      refine wn_iload (i := 7) rfl rfl ?_
      refine wn_calls (i := 8) (as := [.int (nI u)]) (rest := [.int (nI 0), .int v]) (es := [some (.int (nI u))]) rfl rfl (by decide) rfl rfl rfl (Nat.le_of_ble_eq_true rfl) rfl rfl ?_
      refine m_mask (by omega) ?_
      show xm_wp sc (d + 1) 12 9 [some (.ref o), some (.int (nI u)), some (.int v), none, none] [.int (nI (2 ^ u - 1)), .int (nI 0), .int v] h Q
      refine wn_calls (i := 9) (as := [.int v, .int (nI 0), .int (nI (2 ^ u - 1))]) (rest := []) (es := [some (.int v), some (.int (nI 0)), some (.int (nI (2 ^ u - 1)))]) rfl rfl (by decide) rfl rfl rfl (Nat.le_of_ble_eq_true rfl) rfl rfl ?_
      refine m_isIn (fun q1 q2 => ?_) (fun q0 => ?_)
      · skip
        obtain ⟨w, hw1, hw2, rfl⟩ := xn_isIn2 (by omega) (by omega) q1 q2
        show xm_wp sc (d + 1) 12 10 [some (.ref o), some (.int (nI u)), some (.int (nI w)), none, none] [.int (nI (true).toNat)] h Q
        refine wb_if_ne (i := 10) (b := true) (t' := 13) rfl rfl (fun c10 => ?_) (fun c10 => ?_)
        · skip
          refine wn_aload (i := 13) rfl rfl ?_
          refine wp_get (i := 14) (n := 0) (a := o) (v := .int (nI (n 0))) rfl hX.1.1 rfl ?_
          refine wn_const (i := 15) (n := 24) rfl rfl ?_
          refine wn_ic_ne (i := 16) (a := (n 0)) (b := 24) (t' := 19) rfl rfl (by omega) (by omega) (fun c16 => ?_) (fun c16 => ?_)
          · skip
            refine wn_aload (i := 19) rfl rfl ?_
            refine wn_iload (i := 20) rfl rfl ?_
            refine wn_const (i := 21) (n := 0) rfl rfl ?_
            refine wn_callv (i := 22) (as := [.int (nI u), .int (nI 0)]) (b := o) (rest := []) (es := [some (.ref o), some (.int (nI u)), some (.int (nI 0))]) rfl rfl rfl rfl rfl (Nat.le_of_ble_eq_true rfl) rfl hX.1.1 rfl ?_
            refine m_add hX (by omega) (by omega) (fun h1 hX1 => ?_)
            show xm_wp sc (d + 1) 12 23 [some (.ref o), some (.int (nI u)), some (.int (nI w)), none, none] [.int (nI (n 0))] h1 Q
            refine wn_istore (i := 23) (ls' := [some (.ref o), some (.int (nI u)), some (.int (nI w)), some (.int (nI (n 0))), none]) rfl (Nat.le_of_ble_eq_true rfl) rfl ?_
            refine wn_const (i := 24) (n := 0) rfl rfl ?_
            refine wn_istore (i := 25) (ls' := [some (.ref o), some (.int (nI u)), some (.int (nI w)), some (.int (nI (n 0))), some (.int (nI 0))]) rfl (Nat.le_of_ble_eq_true rfl) rfl ?_
            exact l_constant (n1 := nU n 0 (n 0 + 1)) hB (by omega) (hQ u w hu1 hu2 (by omega) rfl rfl (by omega)) (2 ^ n 4 + 1) 0 _ _ (Nat.zero_le _) (by show 2 ^ n 4 < _; omega) hX1 (tL.start (by funext j; rw [fU_ne (by simp), fU_ne (by simp)]))
          · skip
            refine wn_constI (i := 17) (n := -3) rfl rfl ?_
            exact wn_ret (i := 18) rfl rfl (hF u w hu1 hu2 (by omega) rfl rfl c16)
        · cases c10
      · skip
        have hin2 : ∀ z_, 0 ≤ z_ → z_ ≤ 2 ^ u - 1 → v ≠ nI z_ := xn_notIn2 (by omega) (by omega) q0
        show xm_wp sc (d + 1) 12 10 [some (.ref o), some (.int (nI u)), some (.int v), none, none] [.int (nI (false).toNat)] h Q
        refine wb_if_ne (i := 10) (b := false) (t' := 13) rfl rfl (fun c10 => ?_) (fun c10 => ?_)
        · cases c10
        · skip
          refine wn_constI (i := 11) (n := -2) rfl rfl ?_
          exact wn_ret (i := 12) rfl rfl (hBad (fun u' w' h1 h2 h3 h4 => by first | exact absurd h4 (hin1 u' h1 h2) | (have e4 := (nI_eq (by omega) (by omega)).mp h4; subst e4; exact hin2 w' (Nat.zero_le _) (by omega))))
  · skip
    have hin1 : ∀ z_, 1 ≤ z_ → z_ ≤ 12 → a ≠ nI z_ := xn_notIn2 (by omega) (by omega) q0
    show xm_wp sc (d + 1) 12 4 [some (.ref o), some (.int a), some (.int v), none, none] [.int (nI (false).toNat)] h Q
    refine wb_if_eq (i := 4) (b := false) (t' := 11) rfl rfl (fun c4 => ?_) (fun c4 => ?_)
    · skip
      refine wn_constI (i := 11) (n := -2) rfl rfl ?_
      exact wn_ret (i := 12) rfl rfl (hBad (fun u' w' h1 h2 h3 h4 => by first | exact absurd h4 (hin1 u' h1 h2) | (have e4 := (nI_eq (by omega) (by omega)).mp h4; subst e4; exact hin2 w' (Nat.zero_le _) (by omega))))
    · cases c4
theorem l_choose {n1 : Nat → Nat} {g : Nat → Nat → Nat} {T : Nat} (hB : n1 4 ≤ 12) (hT : T < 24) {c a b : Nat} (hc : c < T) (ha : a < T) (hb : b < T) (hn : ∀ j, j < 98304 → f 3 j < 4096) (hQ : ∀ (h' : xm_S) (f1 : Nat → Nat → Nat), MX o n1 f1 h0 h' → tL f g f1 T (2 ^ n1 4) (fun i => if f 3 (4096 * c + i) = 1 then f 3 (4096 * a + i) else f 3 (4096 * b + i)) → Q (some (.int (nI T))) h') : ∀ (m : Nat) (x : Nat) (h : xm_S) (f1 : Nat → Nat → Nat), x ≤ 2 ^ n1 4 → 2 ^ n1 4 < x + m → MX o n1 f1 h0 h → tL f g f1 T x (fun i => if f 3 (4096 * c + i) = 1 then f 3 (4096 * a + i) else f 3 (4096 * b + i)) → xm_wp sc (d + 1) 9 45 [some (.ref o), some (.int (nI c)), some (.int (nI a)), some (.int (nI b)), some (.int (nI T)), some (.int (nI x))] [] h Q := by
  intro m
  induction m with
  | zero => intro x h f1 h1 h2; exact absurd h2 (by omega)
  | succ m ih =>
    intro x h f1 h1 h2 hX ht
    have hN := xn_p12 hB
    refine wn_iload (i := 45) rfl rfl ?_
    refine wn_aload (i := 46) rfl rfl ?_
    refine wn_callv (i := 47) (as := []) (b := o) (rest := [.int (nI x)]) (es := [some (.ref o)]) rfl rfl rfl rfl rfl (Nat.le_of_ble_eq_true rfl) rfl hX.1.1 rfl ?_
    refine m_all hX hB ?_
    show xm_wp sc (d + 1) 9 48 [some (.ref o), some (.int (nI c)), some (.int (nI a)), some (.int (nI b)), some (.int (nI T)), some (.int (nI x))] [.int (nI (2 ^ n1 4)), .int (nI x)] h Q
    refine wn_ic_ge (i := 48) (a := x) (b := (2 ^ n1 4)) (t' := 74) rfl rfl (by omega) (by omega) (fun c48 => ?_) (fun c48 => ?_)
    · skip
      refine wn_iload (i := 74) rfl rfl ?_
      have ex : x = 2 ^ n1 4 := by omega
      subst ex
      exact wn_ret (i := 75) rfl rfl (hQ _ _ hX ht)
    · skip
      refine wn_aload (i := 49) rfl rfl ?_
      refine wp_get (i := 50) (n := 3) (a := o) (v := .ref (o + 3)) rfl hX.1.1 rfl ?_
      refine wn_const (i := 51) (n := 4096) rfl rfl ?_
      refine wn_iload (i := 52) rfl rfl ?_
      refine wn_imul (i := 53) (a := 4096) (b := T) rfl ?_
      refine wn_iload (i := 54) rfl rfl ?_
      refine wn_iadd (i := 55) (a := (4096 * T)) (b := x) rfl ?_
      have hcn := hn (4096 * c + x) (by omega)
      refine wn_aload (i := 56) rfl rfl ?_
      refine wn_iload (i := 57) rfl rfl ?_
      refine wn_iload (i := 58) rfl rfl ?_
      refine wn_callv (i := 59) (as := [.int (nI c), .int (nI x)]) (b := o) (rest := [.int (nI ((4096 * T) + x)), .ref (o + 3)]) (es := [some (.ref o), some (.int (nI c)), some (.int (nI x))]) rfl rfl rfl rfl rfl (Nat.le_of_ble_eq_true rfl) rfl hX.1.1 rfl ?_
      refine m_byT hX ht hT (by omega) (by omega) ?_
      show xm_wp sc (d + 1) 9 60 [some (.ref o), some (.int (nI c)), some (.int (nI a)), some (.int (nI b)), some (.int (nI T)), some (.int (nI x))] [.int (nI (f 3 (4096 * c + x))), .int (nI ((4096 * T) + x)), .ref (o + 3)] h Q
      refine wn_const (i := 60) (n := 1) rfl rfl ?_
      refine wn_ic_ne (i := 61) (a := (f 3 (4096 * c + x))) (b := 1) (t' := 67) rfl rfl (by omega) (by omega) (fun c61 => ?_) (fun c61 => ?_)
      · skip
        refine wn_aload (i := 67) rfl rfl ?_
        refine wn_iload (i := 68) rfl rfl ?_
        refine wn_iload (i := 69) rfl rfl ?_
        refine wn_callv (i := 70) (as := [.int (nI b), .int (nI x)]) (b := o) (rest := [.int (nI ((4096 * T) + x)), .ref (o + 3)]) (es := [some (.ref o), some (.int (nI b)), some (.int (nI x))]) rfl rfl rfl rfl rfl (Nat.le_of_ble_eq_true rfl) rfl hX.1.1 rfl ?_
        refine m_byT hX ht hT (by omega) (by omega) ?_
        show xm_wp sc (d + 1) 9 71 [some (.ref o), some (.int (nI c)), some (.int (nI a)), some (.int (nI b)), some (.int (nI T)), some (.int (nI x))] [.int (nI (f 3 (4096 * b + x))), .int (nI ((4096 * T) + x)), .ref (o + 3)] h Q
        refine wm_iast (i := 71) (k := 3) (e := ((4096 * T) + x)) (x := (f 3 (4096 * b + x))) (len := 98304) rfl hX (by decide) (by decide) rfl rfl rfl (by omega) (by decide) (fun h_71 hX_71 => ?_)
        refine wn_iinc (i := 72) (x := x) (n := 1) (ls' := [some (.ref o), some (.int (nI c)), some (.int (nI a)), some (.int (nI b)), some (.int (nI T)), some (.int (nI (x + 1)))]) rfl rfl rfl rfl ?_
        refine wn_goto (i := 73) (t' := 45) rfl rfl ?_
        exact ih (x + 1) _ _ (by omega) (by omega) hX_71 (ht.step (by show _ = if _ then _ else _; rw [if_neg c61]))
      · skip
        refine wn_aload (i := 62) rfl rfl ?_
        refine wn_iload (i := 63) rfl rfl ?_
        refine wn_iload (i := 64) rfl rfl ?_
        refine wn_callv (i := 65) (as := [.int (nI a), .int (nI x)]) (b := o) (rest := [.int (nI ((4096 * T) + x)), .ref (o + 3)]) (es := [some (.ref o), some (.int (nI a)), some (.int (nI x))]) rfl rfl rfl rfl rfl (Nat.le_of_ble_eq_true rfl) rfl hX.1.1 rfl ?_
        refine m_byT hX ht hT (by omega) (by omega) ?_
        show xm_wp sc (d + 1) 9 66 [some (.ref o), some (.int (nI c)), some (.int (nI a)), some (.int (nI b)), some (.int (nI T)), some (.int (nI x))] [.int (nI (f 3 (4096 * a + x))), .int (nI ((4096 * T) + x)), .ref (o + 3)] h Q
        refine wn_goto (i := 66) (t' := 71) rfl rfl ?_
        refine wm_iast (i := 71) (k := 3) (e := ((4096 * T) + x)) (x := (f 3 (4096 * a + x))) (len := 98304) rfl hX (by decide) (by decide) rfl rfl rfl (by omega) (by decide) (fun h_71 hX_71 => ?_)
        refine wn_iinc (i := 72) (x := x) (n := 1) (ls' := [some (.ref o), some (.int (nI c)), some (.int (nI a)), some (.int (nI b)), some (.int (nI T)), some (.int (nI (x + 1)))]) rfl rfl rfl rfl ?_
        refine wn_goto (i := 73) (t' := 45) rfl rfl ?_
        exact ih (x + 1) _ _ (by omega) (by omega) hX_71 (ht.step (by show _ = if _ then _ else _; rw [if_pos c61]))
theorem m_choose (hX : MX o n f h0 h) (hT : n 0 ≤ 24) (hB : n 4 ≤ 12) (hs : ∀ t, t < n 0 → f 1 t ≤ 12) (hn : ∀ j, j < 98304 → f 3 j < 4096) {c a b : Int32} (hBad : (∀ jc ja jb, jc < n 0 → ja < n 0 → jb < n 0 → c = nI jc → a = nI ja → b = nI jb → ¬ (f 1 jc = 1 ∧ f 1 ja = f 1 jb)) → Q (some (.int (-2))) h) (hF : ∀ jc ja jb, jc < n 0 → ja < n 0 → jb < n 0 → c = nI jc → a = nI ja → b = nI jb → f 1 jc = 1 → f 1 ja = f 1 jb → n 0 = 24 → Q (some (.int (-3))) h) (hQ : ∀ jc ja jb, jc < n 0 → ja < n 0 → jb < n 0 → c = nI jc → a = nI ja → b = nI jb → f 1 jc = 1 → f 1 ja = f 1 jb → n 0 < 24 → ∀ (h' : xm_S) (f1 : Nat → Nat → Nat), MX o (nU n 0 (n 0 + 1)) f1 h0 h' → tL f (fU (fU f 1 (n 0) (f 1 ja)) 2 (n 0) 0) f1 (n 0) (2 ^ n 4) (fun i => if f 3 (4096 * jc + i) = 1 then f 3 (4096 * ja + i) else f 3 (4096 * jb + i)) → Q (some (.int (nI (n 0)))) h') : xm_wp sc (d + 2) 9 0 [some (.ref o), some (.int c), some (.int a), some (.int b), none, none] [] h Q := by
  refine wn_aload (i := 0) rfl rfl ?_
  refine wn_iload (i := 1) rfl rfl ?_
  refine wn_callv (i := 2) (as := [.int c]) (b := o) (rest := []) (es := [some (.ref o), some (.int c)]) rfl rfl rfl rfl rfl (Nat.le_of_ble_eq_true rfl) rfl hX.1.1 rfl ?_
  refine m_has hX hT (fun jc hjc ejc => ?_) (fun hno2 => ?_)
  · skip
    subst ejc
    show xm_wp sc (d + 2) 9 3 [some (.ref o), some (.int (nI jc)), some (.int a), some (.int b), none, none] [.int (nI (true).toNat)] h Q
    refine wb_if_eq (i := 3) (b := true) (t' := 27) rfl rfl (fun c3 => ?_) (fun c3 => ?_)
    · cases c3
    · skip
      refine wn_aload (i := 4) rfl rfl ?_
      refine wn_iload (i := 5) rfl rfl ?_
      refine wn_callv (i := 6) (as := [.int a]) (b := o) (rest := []) (es := [some (.ref o), some (.int a)]) rfl rfl rfl rfl rfl (Nat.le_of_ble_eq_true rfl) rfl hX.1.1 rfl ?_
      refine m_has hX hT (fun ja hja eja => ?_) (fun hno6 => ?_)
      · skip
        subst eja
        show xm_wp sc (d + 2) 9 7 [some (.ref o), some (.int (nI jc)), some (.int (nI ja)), some (.int b), none, none] [.int (nI (true).toNat)] h Q
        refine wb_if_eq (i := 7) (b := true) (t' := 27) rfl rfl (fun c7 => ?_) (fun c7 => ?_)
        · cases c7
        · skip
          refine wn_aload (i := 8) rfl rfl ?_
          refine wn_iload (i := 9) rfl rfl ?_
          refine wn_callv (i := 10) (as := [.int b]) (b := o) (rest := []) (es := [some (.ref o), some (.int b)]) rfl rfl rfl rfl rfl (Nat.le_of_ble_eq_true rfl) rfl hX.1.1 rfl ?_
          refine m_has hX hT (fun jb hjb ejb => ?_) (fun hno10 => ?_)
          · skip
            subst ejb
            show xm_wp sc (d + 2) 9 11 [some (.ref o), some (.int (nI jc)), some (.int (nI ja)), some (.int (nI jb)), none, none] [.int (nI (true).toNat)] h Q
            refine wb_if_eq (i := 11) (b := true) (t' := 27) rfl rfl (fun c11 => ?_) (fun c11 => ?_)
            · cases c11
            · skip
              have hs1 := hs jc hjc
              have hs2 := hs ja hja
              have hs3 := hs jb hjb
              refine wn_aload (i := 12) rfl rfl ?_
              refine wp_get (i := 13) (n := 1) (a := o) (v := .ref (o + 1)) rfl hX.1.1 rfl ?_
              refine wn_iload (i := 14) rfl rfl ?_
              refine wm_iald (i := 15) (k := 1) (e := jc) (len := 24) rfl hX (by decide) (by decide) rfl rfl rfl (by omega) (by decide) ?_
              refine wn_const (i := 16) (n := 1) rfl rfl ?_
              refine wn_ic_ne (i := 17) (a := (f 1 jc)) (b := 1) (t' := 27) rfl rfl (by omega) (by omega) (fun c17 => ?_) (fun c17 => ?_)
              · skip
                refine wn_constI (i := 27) (n := -2) rfl rfl ?_
                exact wn_ret (i := 28) rfl rfl (hBad (fun jc' ja' jb' h1 h2 h3 e1 e2 e3 => by first | exact absurd e1 (hno2 jc' h1) | exact absurd e2 (hno6 ja' h2) | exact absurd e3 (hno10 jb' h3) | (rw [← (nI_eq (by omega) (by omega)).mp e1, ← (nI_eq (by omega) (by omega)).mp e2, ← (nI_eq (by omega) (by omega)).mp e3]; omega)))
              · skip
                refine wn_aload (i := 18) rfl rfl ?_
                refine wp_get (i := 19) (n := 1) (a := o) (v := .ref (o + 1)) rfl hX.1.1 rfl ?_
                refine wn_iload (i := 20) rfl rfl ?_
                refine wm_iald (i := 21) (k := 1) (e := ja) (len := 24) rfl hX (by decide) (by decide) rfl rfl rfl (by omega) (by decide) ?_
                refine wn_aload (i := 22) rfl rfl ?_
                refine wp_get (i := 23) (n := 1) (a := o) (v := .ref (o + 1)) rfl hX.1.1 rfl ?_
                refine wn_iload (i := 24) rfl rfl ?_
                refine wm_iald (i := 25) (k := 1) (e := jb) (len := 24) rfl hX (by decide) (by decide) rfl rfl rfl (by omega) (by decide) ?_
                refine wn_ic_eq (i := 26) (a := (f 1 ja)) (b := (f 1 jb)) (t' := 29) rfl rfl (by omega) (by omega) (fun c26 => ?_) (fun c26 => ?_)
                · skip
                  refine wn_aload (i := 29) rfl rfl ?_
                  refine wp_get (i := 30) (n := 0) (a := o) (v := .int (nI (n 0))) rfl hX.1.1 rfl ?_
                  refine wn_const (i := 31) (n := 24) rfl rfl ?_
                  refine wn_ic_ne (i := 32) (a := (n 0)) (b := 24) (t' := 35) rfl rfl (by omega) (by omega) (fun c32 => ?_) (fun c32 => ?_)
                  · skip
                    refine wn_aload (i := 35) rfl rfl ?_
                    refine wn_aload (i := 36) rfl rfl ?_
                    refine wp_get (i := 37) (n := 1) (a := o) (v := .ref (o + 1)) rfl hX.1.1 rfl ?_
                    refine wn_iload (i := 38) rfl rfl ?_
                    refine wm_iald (i := 39) (k := 1) (e := ja) (len := 24) rfl hX (by decide) (by decide) rfl rfl rfl (by omega) (by decide) ?_
                    refine wn_const (i := 40) (n := 0) rfl rfl ?_
                    refine wn_callv (i := 41) (as := [.int (nI (f 1 ja)), .int (nI 0)]) (b := o) (rest := []) (es := [some (.ref o), some (.int (nI (f 1 ja))), some (.int (nI 0))]) rfl rfl rfl rfl rfl (Nat.le_of_ble_eq_true rfl) rfl hX.1.1 rfl ?_
                    refine m_add hX (by omega) (by omega) (fun h1 hX1 => ?_)
                    show xm_wp sc (d + 2) 9 42 [some (.ref o), some (.int (nI jc)), some (.int (nI ja)), some (.int (nI jb)), none, none] [.int (nI (n 0))] h1 Q
                    refine wn_istore (i := 42) (ls' := [some (.ref o), some (.int (nI jc)), some (.int (nI ja)), some (.int (nI jb)), some (.int (nI (n 0))), none]) rfl (Nat.le_of_ble_eq_true rfl) rfl ?_
                    refine wn_const (i := 43) (n := 0) rfl rfl ?_
                    refine wn_istore (i := 44) (ls' := [some (.ref o), some (.int (nI jc)), some (.int (nI ja)), some (.int (nI jb)), some (.int (nI (n 0))), some (.int (nI 0))]) rfl (Nat.le_of_ble_eq_true rfl) rfl ?_
                    exact l_choose (n1 := nU n 0 (n 0 + 1)) hB (by omega) hjc hja hjb hn (hQ jc ja jb hjc hja hjb rfl rfl rfl c17 c26 (by omega)) (2 ^ n 4 + 1) 0 _ _ (Nat.zero_le _) (by show 2 ^ n 4 < _; omega) hX1 (tL.start (by funext j; rw [fU_ne (by simp), fU_ne (by simp)]))
                  · skip
                    refine wn_constI (i := 33) (n := -3) rfl rfl ?_
                    exact wn_ret (i := 34) rfl rfl (hF jc ja jb hjc hja hjb rfl rfl rfl c17 c26 c32)
                · skip
                  refine wn_constI (i := 27) (n := -2) rfl rfl ?_
                  exact wn_ret (i := 28) rfl rfl (hBad (fun jc' ja' jb' h1 h2 h3 e1 e2 e3 => by first | exact absurd e1 (hno2 jc' h1) | exact absurd e2 (hno6 ja' h2) | exact absurd e3 (hno10 jb' h3) | (rw [← (nI_eq (by omega) (by omega)).mp e1, ← (nI_eq (by omega) (by omega)).mp e2, ← (nI_eq (by omega) (by omega)).mp e3]; omega)))
          · skip
            show xm_wp sc (d + 2) 9 11 [some (.ref o), some (.int (nI jc)), some (.int (nI ja)), some (.int b), none, none] [.int (nI (false).toNat)] h Q
            refine wb_if_eq (i := 11) (b := false) (t' := 27) rfl rfl (fun c11 => ?_) (fun c11 => ?_)
            · skip
              refine wn_constI (i := 27) (n := -2) rfl rfl ?_
              exact wn_ret (i := 28) rfl rfl (hBad (fun jc' ja' jb' h1 h2 h3 e1 e2 e3 => by first | exact absurd e1 (hno2 jc' h1) | exact absurd e2 (hno6 ja' h2) | exact absurd e3 (hno10 jb' h3) | (rw [← (nI_eq (by omega) (by omega)).mp e1, ← (nI_eq (by omega) (by omega)).mp e2, ← (nI_eq (by omega) (by omega)).mp e3]; omega)))
            · cases c11
      · skip
        show xm_wp sc (d + 2) 9 7 [some (.ref o), some (.int (nI jc)), some (.int a), some (.int b), none, none] [.int (nI (false).toNat)] h Q
        refine wb_if_eq (i := 7) (b := false) (t' := 27) rfl rfl (fun c7 => ?_) (fun c7 => ?_)
        · skip
          refine wn_constI (i := 27) (n := -2) rfl rfl ?_
          exact wn_ret (i := 28) rfl rfl (hBad (fun jc' ja' jb' h1 h2 h3 e1 e2 e3 => by first | exact absurd e1 (hno2 jc' h1) | exact absurd e2 (hno6 ja' h2) | exact absurd e3 (hno10 jb' h3) | (rw [← (nI_eq (by omega) (by omega)).mp e1, ← (nI_eq (by omega) (by omega)).mp e2, ← (nI_eq (by omega) (by omega)).mp e3]; omega)))
        · cases c7
  · skip
    show xm_wp sc (d + 2) 9 3 [some (.ref o), some (.int c), some (.int a), some (.int b), none, none] [.int (nI (false).toNat)] h Q
    refine wb_if_eq (i := 3) (b := false) (t' := 27) rfl rfl (fun c3 => ?_) (fun c3 => ?_)
    · skip
      refine wn_constI (i := 27) (n := -2) rfl rfl ?_
      exact wn_ret (i := 28) rfl rfl (hBad (fun jc' ja' jb' h1 h2 h3 e1 e2 e3 => by first | exact absurd e1 (hno2 jc' h1) | exact absurd e2 (hno6 ja' h2) | exact absurd e3 (hno10 jb' h3) | (rw [← (nI_eq (by omega) (by omega)).mp e1, ← (nI_eq (by omega) (by omega)).mp e2, ← (nI_eq (by omega) (by omega)).mp e3]; omega)))
    · cases c3
theorem l_cut {n1 : Nat → Nat} {g : Nat → Nat → Nat} {T : Nat} (hB : n1 4 ≤ 12) (hT : T < 24) {a p q : Nat} (ha : a < T) (hp : p ≤ 12) (hq : q ≤ 12) (hn : ∀ j, j < 98304 → f 3 j < 4096) (hQ : ∀ (h' : xm_S) (f1 : Nat → Nat → Nat), MX o n1 f1 h0 h' → tL f g f1 T (2 ^ n1 4) (fun i => f 3 (4096 * a + i) / 2 ^ p &&& (2 ^ q - 1)) → Q (some (.int (nI T))) h') : ∀ (m : Nat) (x : Nat) (h : xm_S) (f1 : Nat → Nat → Nat), x ≤ 2 ^ n1 4 → 2 ^ n1 4 < x + m → MX o n1 f1 h0 h → tL f g f1 T x (fun i => f 3 (4096 * a + i) / 2 ^ p &&& (2 ^ q - 1)) → xm_wp sc (d + 1) 16 38 [some (.ref o), some (.int (nI a)), some (.int (nI p)), some (.int (nI q)), some (.int (nI T)), some (.int (nI x))] [] h Q := by
  intro m
  induction m with
  | zero => intro x h f1 h1 h2; exact absurd h2 (by omega)
  | succ m ih =>
    intro x h f1 h1 h2 hX ht
    have hN := xn_p12 hB
    refine wn_iload (i := 38) rfl rfl ?_
    refine wn_aload (i := 39) rfl rfl ?_
    refine wn_callv (i := 40) (as := []) (b := o) (rest := [.int (nI x)]) (es := [some (.ref o)]) rfl rfl rfl rfl rfl (Nat.le_of_ble_eq_true rfl) rfl hX.1.1 rfl ?_
    refine m_all hX hB ?_
    show xm_wp sc (d + 1) 16 41 [some (.ref o), some (.int (nI a)), some (.int (nI p)), some (.int (nI q)), some (.int (nI T)), some (.int (nI x))] [.int (nI (2 ^ n1 4)), .int (nI x)] h Q
    refine wn_ic_ge (i := 41) (a := x) (b := (2 ^ n1 4)) (t' := 61) rfl rfl (by omega) (by omega) (fun c41 => ?_) (fun c41 => ?_)
    · skip
      refine wn_iload (i := 61) rfl rfl ?_
      have ex : x = 2 ^ n1 4 := by omega
      subst ex
      exact wn_ret (i := 62) rfl rfl (hQ _ _ hX ht)
    · skip
      refine wn_aload (i := 42) rfl rfl ?_
      refine wp_get (i := 43) (n := 3) (a := o) (v := .ref (o + 3)) rfl hX.1.1 rfl ?_
      refine wn_const (i := 44) (n := 4096) rfl rfl ?_
      refine wn_iload (i := 45) rfl rfl ?_
      refine wn_imul (i := 46) (a := 4096) (b := T) rfl ?_
      refine wn_iload (i := 47) rfl rfl ?_
      refine wn_iadd (i := 48) (a := (4096 * T)) (b := x) rfl ?_
      have hcn := hn (4096 * a + x) (by omega)
      refine wn_aload (i := 49) rfl rfl ?_
      refine wn_iload (i := 50) rfl rfl ?_
      refine wn_iload (i := 51) rfl rfl ?_
      refine wn_callv (i := 52) (as := [.int (nI a), .int (nI x)]) (b := o) (rest := [.int (nI ((4096 * T) + x)), .ref (o + 3)]) (es := [some (.ref o), some (.int (nI a)), some (.int (nI x))]) rfl rfl rfl rfl rfl (Nat.le_of_ble_eq_true rfl) rfl hX.1.1 rfl ?_
      refine m_byT hX ht hT (by omega) (by omega) ?_
      show xm_wp sc (d + 1) 16 53 [some (.ref o), some (.int (nI a)), some (.int (nI p)), some (.int (nI q)), some (.int (nI T)), some (.int (nI x))] [.int (nI (f 3 (4096 * a + x))), .int (nI ((4096 * T) + x)), .ref (o + 3)] h Q
      refine wn_iload (i := 53) rfl rfl ?_
      refine wn_ishr (i := 54) (a := (f 3 (4096 * a + x))) (b := p) rfl (by omega) (by omega) ?_
      refine wn_iload (i := 55) rfl rfl ?_
      refine wn_calls (i := 56) (as := [.int (nI q)]) (rest := [.int (nI ((f 3 (4096 * a + x)) / 2 ^ p)), .int (nI ((4096 * T) + x)), .ref (o + 3)]) (es := [some (.int (nI q))]) rfl rfl (by decide) rfl rfl rfl (Nat.le_of_ble_eq_true rfl) rfl rfl ?_
      refine m_mask (by omega) ?_
      show xm_wp sc (d + 1) 16 57 [some (.ref o), some (.int (nI a)), some (.int (nI p)), some (.int (nI q)), some (.int (nI T)), some (.int (nI x))] [.int (nI (2 ^ q - 1)), .int (nI ((f 3 (4096 * a + x)) / 2 ^ p)), .int (nI ((4096 * T) + x)), .ref (o + 3)] h Q
      refine wn_iand (i := 57) (a := ((f 3 (4096 * a + x)) / 2 ^ p)) (b := (2 ^ q - 1)) rfl ?_
      refine wm_iast (i := 58) (k := 3) (e := ((4096 * T) + x)) (x := (((f 3 (4096 * a + x)) / 2 ^ p) &&& (2 ^ q - 1))) (len := 98304) rfl hX (by decide) (by decide) rfl rfl rfl (by omega) (by decide) (fun h_58 hX_58 => ?_)
      refine wn_iinc (i := 59) (x := x) (n := 1) (ls' := [some (.ref o), some (.int (nI a)), some (.int (nI p)), some (.int (nI q)), some (.int (nI T)), some (.int (nI (x + 1)))]) rfl rfl rfl rfl ?_
      refine wn_goto (i := 60) (t' := 38) rfl rfl ?_
      exact ih (x + 1) _ _ (by omega) (by omega) hX_58 (ht.step (rfl))
theorem m_cut (hX : MX o n f h0 h) (hT : n 0 ≤ 24) (hB : n 4 ≤ 12) (hs : ∀ t, t < n 0 → f 1 t ≤ 12) (hn : ∀ j, j < 98304 → f 3 j < 4096) {a v z : Int32} (hBad : (∀ j p q, j < n 0 → a = nI j → 1 ≤ q → p + q ≤ f 1 j → v = nI p → z ≠ nI q) → Q (some (.int (-2))) h) (hF : ∀ j p q, j < n 0 → a = nI j → 1 ≤ q → p + q ≤ f 1 j → v = nI p → z = nI q → n 0 = 24 → Q (some (.int (-3))) h) (hQ : ∀ j p q, j < n 0 → a = nI j → 1 ≤ q → p + q ≤ f 1 j → v = nI p → z = nI q → n 0 < 24 → ∀ (h' : xm_S) (f1 : Nat → Nat → Nat), MX o (nU n 0 (n 0 + 1)) f1 h0 h' → tL f (fU (fU f 1 (n 0) q) 2 (n 0) 0) f1 (n 0) (2 ^ n 4) (fun i => f 3 (4096 * j + i) / 2 ^ p &&& (2 ^ q - 1)) → Q (some (.int (nI (n 0)))) h') : xm_wp sc (d + 2) 16 0 [some (.ref o), some (.int a), some (.int v), some (.int z), none, none] [] h Q := by
  refine wn_aload (i := 0) rfl rfl ?_
  refine wn_iload (i := 1) rfl rfl ?_
  refine wn_callv (i := 2) (as := [.int a]) (b := o) (rest := []) (es := [some (.ref o), some (.int a)]) rfl rfl rfl rfl rfl (Nat.le_of_ble_eq_true rfl) rfl hX.1.1 rfl ?_
  refine m_has hX hT (fun j hj ej => ?_) (fun hno2 => ?_)
  · skip
    subst ej
    show xm_wp sc (d + 2) 16 3 [some (.ref o), some (.int (nI j)), some (.int v), some (.int z), none, none] [.int (nI (true).toNat)] h Q
    refine wb_if_eq (i := 3) (b := true) (t' := 23) rfl rfl (fun c3 => ?_) (fun c3 => ?_)
    · cases c3
    · skip
      have hsj := hs j hj
      refine wn_iload (i := 4) rfl rfl ?_
      refine wi_if_lt (i := 5) (a := v) (t' := 23) rfl rfl (fun c5 => ?_) (fun c5 => ?_)
      · refine wn_constI (i := 23) (n := -2) rfl rfl ?_
        exact wn_ret (i := 24) rfl rfl (hBad (fun j' p q h1 h2 h3 h4 h5 => absurd (by rw [← h5]; exact c5) (nI_pos (show p < 2 ^ 31 by have := hs j' h1; omega))))
      obtain ⟨p, hp, rfl⟩ := nI_of c5
      refine wn_iload (i := 6) rfl rfl ?_
      refine wn_const (i := 7) (n := 1) rfl rfl ?_
      refine wi_ic_lt (i := 8) (a := z) (b := nI 1) (t' := 23) rfl rfl (fun c8 => ?_) (fun c8 => ?_)
      · refine wn_constI (i := 23) (n := -2) rfl rfl ?_
        exact wn_ret (i := 24) rfl rfl (hBad (fun j' p q h1 h2 h3 h4 h5 h6 => by rw [h6] at c8; have := (nI_ltI (by have := hs j' h1; omega) (by omega)).mp c8; omega))
      obtain ⟨q, hq, rfl⟩ := nI_of (x := z) (fun e => c8 (Int32.lt_of_lt_of_le e (by decide)))
      have hq1 : 1 ≤ q := Nat.not_lt.mp (fun e => c8 ((nI_ltI hq (by omega)).mpr e))
      refine wn_iload (i := 9) rfl rfl ?_
      refine wn_aload (i := 10) rfl rfl ?_
      refine wp_get (i := 11) (n := 1) (a := o) (v := .ref (o + 1)) rfl hX.1.1 rfl ?_
      refine wn_iload (i := 12) rfl rfl ?_
      refine wm_iald (i := 13) (k := 1) (e := j) (len := 24) rfl hX (by decide) (by decide) rfl rfl rfl (by omega) (by decide) ?_
      refine wn_ic_gt (i := 14) (a := q) (b := (f 1 j)) (t' := 23) rfl rfl (by omega) (by omega) (fun c14 => ?_) (fun c14 => ?_)
      · skip
        refine wn_constI (i := 23) (n := -2) rfl rfl ?_
        exact wn_ret (i := 24) rfl rfl (hBad (fun j' p' q' h1 h2 h3 h4 h5 h6 => by first | exact absurd h2 (hno2 j' h1) | (have e2 := (nI_eq (by omega) (by omega)).mp h2; subst e2; have e5 := (nI_eq hp (by omega)).mp h5; have e6 := (nI_eq hq (by omega)).mp h6; omega)))
      · skip
        refine wn_iload (i := 15) rfl rfl ?_
        refine wn_aload (i := 16) rfl rfl ?_
        refine wp_get (i := 17) (n := 1) (a := o) (v := .ref (o + 1)) rfl hX.1.1 rfl ?_
        refine wn_iload (i := 18) rfl rfl ?_
        refine wm_iald (i := 19) (k := 1) (e := j) (len := 24) rfl hX (by decide) (by decide) rfl rfl rfl (by omega) (by decide) ?_
        refine wn_iload (i := 20) rfl rfl ?_
        refine wn_isub (i := 21) (a := (f 1 j)) (b := q) rfl (by omega) ?_
        refine wn_ic_le (i := 22) (a := p) (b := ((f 1 j) - q)) (t' := 25) rfl rfl (by omega) (by omega) (fun c22 => ?_) (fun c22 => ?_)
        · skip
          refine wn_aload (i := 25) rfl rfl ?_
          refine wp_get (i := 26) (n := 0) (a := o) (v := .int (nI (n 0))) rfl hX.1.1 rfl ?_
          refine wn_const (i := 27) (n := 24) rfl rfl ?_
          refine wn_ic_ne (i := 28) (a := (n 0)) (b := 24) (t' := 31) rfl rfl (by omega) (by omega) (fun c28 => ?_) (fun c28 => ?_)
          · skip
            refine wn_aload (i := 31) rfl rfl ?_
            refine wn_iload (i := 32) rfl rfl ?_
            refine wn_const (i := 33) (n := 0) rfl rfl ?_
            refine wn_callv (i := 34) (as := [.int (nI q), .int (nI 0)]) (b := o) (rest := []) (es := [some (.ref o), some (.int (nI q)), some (.int (nI 0))]) rfl rfl rfl rfl rfl (Nat.le_of_ble_eq_true rfl) rfl hX.1.1 rfl ?_
            refine m_add hX (by omega) (by omega) (fun h1 hX1 => ?_)
            show xm_wp sc (d + 2) 16 35 [some (.ref o), some (.int (nI j)), some (.int (nI p)), some (.int (nI q)), none, none] [.int (nI (n 0))] h1 Q
            refine wn_istore (i := 35) (ls' := [some (.ref o), some (.int (nI j)), some (.int (nI p)), some (.int (nI q)), some (.int (nI (n 0))), none]) rfl (Nat.le_of_ble_eq_true rfl) rfl ?_
            refine wn_const (i := 36) (n := 0) rfl rfl ?_
            refine wn_istore (i := 37) (ls' := [some (.ref o), some (.int (nI j)), some (.int (nI p)), some (.int (nI q)), some (.int (nI (n 0))), some (.int (nI 0))]) rfl (Nat.le_of_ble_eq_true rfl) rfl ?_
            exact l_cut (n1 := nU n 0 (n 0 + 1)) hB (by omega) hj (by omega) (by omega) hn (hQ j p q hj rfl hq1 (by omega) rfl rfl (by omega)) (2 ^ n 4 + 1) 0 _ _ (Nat.zero_le _) (by show 2 ^ n 4 < _; omega) hX1 (tL.start (by funext j; rw [fU_ne (by simp), fU_ne (by simp)]))
          · skip
            refine wn_constI (i := 29) (n := -3) rfl rfl ?_
            exact wn_ret (i := 30) rfl rfl (hF j p q hj rfl hq1 (by omega) rfl rfl c28)
        · skip
          refine wn_constI (i := 23) (n := -2) rfl rfl ?_
          exact wn_ret (i := 24) rfl rfl (hBad (fun j' p' q' h1 h2 h3 h4 h5 h6 => by first | exact absurd h2 (hno2 j' h1) | (have e2 := (nI_eq (by omega) (by omega)).mp h2; subst e2; have e5 := (nI_eq hp (by omega)).mp h5; have e6 := (nI_eq hq (by omega)).mp h6; omega)))
  · skip
    show xm_wp sc (d + 2) 16 3 [some (.ref o), some (.int a), some (.int v), some (.int z), none, none] [.int (nI (false).toNat)] h Q
    refine wb_if_eq (i := 3) (b := false) (t' := 23) rfl rfl (fun c3 => ?_) (fun c3 => ?_)
    · skip
      refine wn_constI (i := 23) (n := -2) rfl rfl ?_
      exact wn_ret (i := 24) rfl rfl (hBad (fun j' p' q' h1 h2 h3 h4 h5 h6 => by first | exact absurd h2 (hno2 j' h1) | (have e2 := (nI_eq (by omega) (by omega)).mp h2; subst e2; have e5 := (nI_eq hp (by omega)).mp h5; have e6 := (nI_eq hq (by omega)).mp h6; omega)))
    · cases c3
theorem l_widen {n1 : Nat → Nat} {g : Nat → Nat → Nat} {T : Nat} (hB : n1 4 ≤ 12) (hT : T < 24) {a w wa : Nat} {s : Bool} (ha : a < T) (hw : w ≤ 12) (hwa : g 1 a = wa) (hwa2 : wa ≤ 12) (hn : ∀ j, j < 98304 → f 3 j < 4096) (hQ : ∀ (h' : xm_S) (f1 : Nat → Nat → Nat), MX o n1 f1 h0 h' → tL f g f1 T (2 ^ n1 4) (fun i => if s then mI w (sI (f 3 (4096 * a + i)) wa) else f 3 (4096 * a + i) &&& (2 ^ w - 1)) → Q (some (.int (nI T))) h') : ∀ (m : Nat) (x : Nat) (h : xm_S) (f1 : Nat → Nat → Nat), x ≤ 2 ^ n1 4 → 2 ^ n1 4 < x + m → MX o n1 f1 h0 h → tL f g f1 T x (fun i => if s then mI w (sI (f 3 (4096 * a + i)) wa) else f 3 (4096 * a + i) &&& (2 ^ w - 1)) → xm_wp sc (d + 1) 36 27 [some (.ref o), some (.int (nI a)), some (.int (nI w)), some (.int (nI (s).toNat)), some (.int (nI T)), some (.int (nI x))] [] h Q := by
  intro m
  induction m with
  | zero => intro x h f1 h1 h2; exact absurd h2 (by omega)
  | succ m ih =>
    intro x h f1 h1 h2 hX ht
    have hN := xn_p12 hB
    refine wn_iload (i := 27) rfl rfl ?_
    refine wn_aload (i := 28) rfl rfl ?_
    refine wn_callv (i := 29) (as := []) (b := o) (rest := [.int (nI x)]) (es := [some (.ref o)]) rfl rfl rfl rfl rfl (Nat.le_of_ble_eq_true rfl) rfl hX.1.1 rfl ?_
    refine m_all hX hB ?_
    show xm_wp sc (d + 1) 36 30 [some (.ref o), some (.int (nI a)), some (.int (nI w)), some (.int (nI (s).toNat)), some (.int (nI T)), some (.int (nI x))] [.int (nI (2 ^ n1 4)), .int (nI x)] h Q
    refine wn_ic_ge (i := 30) (a := x) (b := (2 ^ n1 4)) (t' := 60) rfl rfl (by omega) (by omega) (fun c30 => ?_) (fun c30 => ?_)
    · skip
      refine wn_iload (i := 60) rfl rfl ?_
      have ex : x = 2 ^ n1 4 := by omega
      subst ex
      exact wn_ret (i := 61) rfl rfl (hQ _ _ hX ht)
    · skip
      refine wn_aload (i := 31) rfl rfl ?_
      refine wp_get (i := 32) (n := 3) (a := o) (v := .ref (o + 3)) rfl hX.1.1 rfl ?_
      refine wn_const (i := 33) (n := 4096) rfl rfl ?_
      refine wn_iload (i := 34) rfl rfl ?_
      refine wn_imul (i := 35) (a := 4096) (b := T) rfl ?_
      refine wn_iload (i := 36) rfl rfl ?_
      refine wn_iadd (i := 37) (a := (4096 * T)) (b := x) rfl ?_
      refine wn_iload (i := 38) rfl rfl ?_
      refine wb_if_eq (i := 39) (b := s) (t' := 50) rfl rfl (fun c39 => ?_) (fun c39 => ?_)
      · skip
        refine wn_aload (i := 50) rfl rfl ?_
        refine wn_iload (i := 51) rfl rfl ?_
        refine wn_iload (i := 52) rfl rfl ?_
        refine wn_callv (i := 53) (as := [.int (nI a), .int (nI x)]) (b := o) (rest := [.int (nI ((4096 * T) + x)), .ref (o + 3)]) (es := [some (.ref o), some (.int (nI a)), some (.int (nI x))]) rfl rfl rfl rfl rfl (Nat.le_of_ble_eq_true rfl) rfl hX.1.1 rfl ?_
        refine m_byT hX ht hT (by omega) (by omega) ?_
        show xm_wp sc (d + 1) 36 54 [some (.ref o), some (.int (nI a)), some (.int (nI w)), some (.int (nI (s).toNat)), some (.int (nI T)), some (.int (nI x))] [.int (nI (f 3 (4096 * a + x))), .int (nI ((4096 * T) + x)), .ref (o + 3)] h Q
        refine wn_iload (i := 54) rfl rfl ?_
        refine wn_calls (i := 55) (as := [.int (nI w)]) (rest := [.int (nI (f 3 (4096 * a + x))), .int (nI ((4096 * T) + x)), .ref (o + 3)]) (es := [some (.int (nI w))]) rfl rfl (by decide) rfl rfl rfl (Nat.le_of_ble_eq_true rfl) rfl rfl ?_
        refine m_mask (by omega) ?_
        show xm_wp sc (d + 1) 36 56 [some (.ref o), some (.int (nI a)), some (.int (nI w)), some (.int (nI (s).toNat)), some (.int (nI T)), some (.int (nI x))] [.int (nI (2 ^ w - 1)), .int (nI (f 3 (4096 * a + x))), .int (nI ((4096 * T) + x)), .ref (o + 3)] h Q
        refine wn_iand (i := 56) (a := (f 3 (4096 * a + x))) (b := (2 ^ w - 1)) rfl ?_
        refine wm_iast (i := 57) (k := 3) (e := ((4096 * T) + x)) (x := ((f 3 (4096 * a + x)) &&& (2 ^ w - 1))) (len := 98304) rfl hX (by decide) (by decide) rfl rfl rfl (by omega) (by decide) (fun h_57 hX_57 => ?_)
        refine wn_iinc (i := 58) (x := x) (n := 1) (ls' := [some (.ref o), some (.int (nI a)), some (.int (nI w)), some (.int (nI (s).toNat)), some (.int (nI T)), some (.int (nI (x + 1)))]) rfl rfl rfl rfl ?_
        refine wn_goto (i := 59) (t' := 27) rfl rfl ?_
        exact ih (x + 1) _ _ (by omega) (by omega) hX_57 (ht.step (by show _ = if _ then _ else _; rw [if_neg (by rw [c39]; decide)]))
      · skip
        have hcn := hn (4096 * a + x) (by omega)
        refine wn_aload (i := 40) rfl rfl ?_
        refine wn_iload (i := 41) rfl rfl ?_
        refine wn_iload (i := 42) rfl rfl ?_
        refine wn_callv (i := 43) (as := [.int (nI a), .int (nI x)]) (b := o) (rest := [.int (nI ((4096 * T) + x)), .ref (o + 3)]) (es := [some (.ref o), some (.int (nI a)), some (.int (nI x))]) rfl rfl rfl rfl rfl (Nat.le_of_ble_eq_true rfl) rfl hX.1.1 rfl ?_
        refine m_byT hX ht hT (by omega) (by omega) ?_
        show xm_wp sc (d + 1) 36 44 [some (.ref o), some (.int (nI a)), some (.int (nI w)), some (.int (nI (s).toNat)), some (.int (nI T)), some (.int (nI x))] [.int (nI (f 3 (4096 * a + x))), .int (nI ((4096 * T) + x)), .ref (o + 3)] h Q
        refine wn_aload (i := 44) rfl rfl ?_
        refine wp_get (i := 45) (n := 1) (a := o) (v := .ref (o + 1)) rfl hX.1.1 rfl ?_
        refine wn_iload (i := 46) rfl rfl ?_
        refine wm_iald (i := 47) (k := 1) (e := a) (len := 24) rfl hX (by decide) (by decide) rfl rfl rfl (by omega) (by decide) ?_
        rw [show f1 1 a = wa from by rw [ht.1 1 (by decide)]; exact hwa]
        refine wn_calls (i := 48) (as := [.int (nI (f 3 (4096 * a + x))), .int (nI wa)]) (rest := [.int (nI ((4096 * T) + x)), .ref (o + 3)]) (es := [some (.int (nI (f 3 (4096 * a + x)))), some (.int (nI wa))]) rfl rfl (by decide) rfl rfl rfl (Nat.le_of_ble_eq_true rfl) rfl rfl ?_
        refine m_signed (by omega) ?_
        show xm_wp sc (d + 1) 36 49 [some (.ref o), some (.int (nI a)), some (.int (nI w)), some (.int (nI (s).toNat)), some (.int (nI T)), some (.int (nI x))] [.int (sI (f 3 (4096 * a + x)) wa), .int (nI ((4096 * T) + x)), .ref (o + 3)] h Q
        refine wn_goto (i := 49) (t' := 54) rfl rfl ?_
        refine wn_iload (i := 54) rfl rfl ?_
        refine wn_calls (i := 55) (as := [.int (nI w)]) (rest := [.int (sI (f 3 (4096 * a + x)) wa), .int (nI ((4096 * T) + x)), .ref (o + 3)]) (es := [some (.int (nI w))]) rfl rfl (by decide) rfl rfl rfl (Nat.le_of_ble_eq_true rfl) rfl rfl ?_
        refine m_mask (by omega) ?_
        show xm_wp sc (d + 1) 36 56 [some (.ref o), some (.int (nI a)), some (.int (nI w)), some (.int (nI (s).toNat)), some (.int (nI T)), some (.int (nI x))] [.int (nI (2 ^ w - 1)), .int (sI (f 3 (4096 * a + x)) wa), .int (nI ((4096 * T) + x)), .ref (o + 3)] h Q
        refine wi_iand (i := 56) (a := (sI (f 3 (4096 * a + x)) wa)) (b := nI (2 ^ w - 1)) rfl ?_
        rw [mI_and (by omega)]
        refine wm_iast (i := 57) (k := 3) (e := ((4096 * T) + x)) (x := (mI w (sI (f 3 (4096 * a + x)) wa))) (len := 98304) rfl hX (by decide) (by decide) rfl rfl rfl (by omega) (by decide) (fun h_57 hX_57 => ?_)
        refine wn_iinc (i := 58) (x := x) (n := 1) (ls' := [some (.ref o), some (.int (nI a)), some (.int (nI w)), some (.int (nI (s).toNat)), some (.int (nI T)), some (.int (nI (x + 1)))]) rfl rfl rfl rfl ?_
        refine wn_goto (i := 59) (t' := 27) rfl rfl ?_
        exact ih (x + 1) _ _ (by omega) (by omega) hX_57 (ht.step (by show _ = if _ then _ else _; rw [if_pos c39]))
theorem m_widen (hX : MX o n f h0 h) (hT : n 0 ≤ 24) (hB : n 4 ≤ 12) (hs : ∀ t, t < n 0 → f 1 t ≤ 12) (hn : ∀ j, j < 98304 → f 3 j < 4096) {a v : Int32} {s : Bool} (hBad : (∀ j w, j < n 0 → a = nI j → f 1 j ≤ w → w ≤ 12 → v ≠ nI w) → Q (some (.int (-2))) h) (hF : ∀ j w, j < n 0 → a = nI j → f 1 j ≤ w → w ≤ 12 → v = nI w → n 0 = 24 → Q (some (.int (-3))) h) (hQ : ∀ j w, j < n 0 → a = nI j → f 1 j ≤ w → w ≤ 12 → v = nI w → n 0 < 24 → ∀ (h' : xm_S) (f1 : Nat → Nat → Nat), MX o (nU n 0 (n 0 + 1)) f1 h0 h' → tL f (fU (fU f 1 (n 0) w) 2 (n 0) 0) f1 (n 0) (2 ^ n 4) (fun i => if s then mI w (sI (f 3 (4096 * j + i)) (f 1 j)) else f 3 (4096 * j + i) &&& (2 ^ w - 1)) → Q (some (.int (nI (n 0)))) h') : xm_wp sc (d + 2) 36 0 [some (.ref o), some (.int a), some (.int v), some (.int (nI (s).toNat)), none, none] [] h Q := by
  refine wn_aload (i := 0) rfl rfl ?_
  refine wn_iload (i := 1) rfl rfl ?_
  refine wn_callv (i := 2) (as := [.int a]) (b := o) (rest := []) (es := [some (.ref o), some (.int a)]) rfl rfl rfl rfl rfl (Nat.le_of_ble_eq_true rfl) rfl hX.1.1 rfl ?_
  refine m_has hX hT (fun j hj ej => ?_) (fun hno2 => ?_)
  · skip
    subst ej
    show xm_wp sc (d + 2) 36 3 [some (.ref o), some (.int (nI j)), some (.int v), some (.int (nI (s).toNat)), none, none] [.int (nI (true).toNat)] h Q
    refine wb_if_eq (i := 3) (b := true) (t' := 12) rfl rfl (fun c3 => ?_) (fun c3 => ?_)
    · cases c3
    · skip
      have hsj := hs j hj
      refine wn_iload (i := 4) rfl rfl ?_
      refine wn_aload (i := 5) rfl rfl ?_
      refine wp_get (i := 6) (n := 1) (a := o) (v := .ref (o + 1)) rfl hX.1.1 rfl ?_
      refine wn_iload (i := 7) rfl rfl ?_
      refine wm_iald (i := 8) (k := 1) (e := j) (len := 24) rfl hX (by decide) (by decide) rfl rfl rfl (by omega) (by decide) ?_
      refine wn_const (i := 9) (n := 12) rfl rfl ?_
      refine wn_calls (i := 10) (as := [.int v, .int (nI (f 1 j)), .int (nI 12)]) (rest := []) (es := [some (.int v), some (.int (nI (f 1 j))), some (.int (nI 12))]) rfl rfl (by decide) rfl rfl rfl (Nat.le_of_ble_eq_true rfl) rfl rfl ?_
      refine m_isIn (fun q1 q2 => ?_) (fun q0 => ?_)
      · skip
        obtain ⟨w, hw1, hw2, rfl⟩ := xn_isIn2 (by omega) (by omega) q1 q2
        show xm_wp sc (d + 2) 36 11 [some (.ref o), some (.int (nI j)), some (.int (nI w)), some (.int (nI (s).toNat)), none, none] [.int (nI (true).toNat)] h Q
        refine wb_if_ne (i := 11) (b := true) (t' := 14) rfl rfl (fun c11 => ?_) (fun c11 => ?_)
        · skip
          refine wn_aload (i := 14) rfl rfl ?_
          refine wp_get (i := 15) (n := 0) (a := o) (v := .int (nI (n 0))) rfl hX.1.1 rfl ?_
          refine wn_const (i := 16) (n := 24) rfl rfl ?_
          refine wn_ic_ne (i := 17) (a := (n 0)) (b := 24) (t' := 20) rfl rfl (by omega) (by omega) (fun c17 => ?_) (fun c17 => ?_)
          · skip
            refine wn_aload (i := 20) rfl rfl ?_
            refine wn_iload (i := 21) rfl rfl ?_
            refine wn_const (i := 22) (n := 0) rfl rfl ?_
            refine wn_callv (i := 23) (as := [.int (nI w), .int (nI 0)]) (b := o) (rest := []) (es := [some (.ref o), some (.int (nI w)), some (.int (nI 0))]) rfl rfl rfl rfl rfl (Nat.le_of_ble_eq_true rfl) rfl hX.1.1 rfl ?_
            refine m_add hX (by omega) (by omega) (fun h1 hX1 => ?_)
            show xm_wp sc (d + 2) 36 24 [some (.ref o), some (.int (nI j)), some (.int (nI w)), some (.int (nI (s).toNat)), none, none] [.int (nI (n 0))] h1 Q
            refine wn_istore (i := 24) (ls' := [some (.ref o), some (.int (nI j)), some (.int (nI w)), some (.int (nI (s).toNat)), some (.int (nI (n 0))), none]) rfl (Nat.le_of_ble_eq_true rfl) rfl ?_
            refine wn_const (i := 25) (n := 0) rfl rfl ?_
            refine wn_istore (i := 26) (ls' := [some (.ref o), some (.int (nI j)), some (.int (nI w)), some (.int (nI (s).toNat)), some (.int (nI (n 0))), some (.int (nI 0))]) rfl (Nat.le_of_ble_eq_true rfl) rfl ?_
            exact l_widen (n1 := nU n 0 (n 0 + 1)) (wa := f 1 j) hB (by omega) hj hw2 (by rw [fU_ne (by simp), fU_ne (by simp; omega)]) hsj hn (hQ j w hj rfl hw1 hw2 rfl (by omega)) (2 ^ n 4 + 1) 0 _ _ (Nat.zero_le _) (by show 2 ^ n 4 < _; omega) hX1 (tL.start (by funext j; rw [fU_ne (by simp), fU_ne (by simp)]))
          · skip
            refine wn_constI (i := 18) (n := -3) rfl rfl ?_
            exact wn_ret (i := 19) rfl rfl (hF j w hj rfl hw1 hw2 rfl c17)
        · cases c11
      · skip
        have hin1 : ∀ z_, f 1 j ≤ z_ → z_ ≤ 12 → v ≠ nI z_ := xn_notIn2 (by omega) (by omega) q0
        show xm_wp sc (d + 2) 36 11 [some (.ref o), some (.int (nI j)), some (.int v), some (.int (nI (s).toNat)), none, none] [.int (nI (false).toNat)] h Q
        refine wb_if_ne (i := 11) (b := false) (t' := 14) rfl rfl (fun c11 => ?_) (fun c11 => ?_)
        · cases c11
        · skip
          refine wn_constI (i := 12) (n := -2) rfl rfl ?_
          exact wn_ret (i := 13) rfl rfl (hBad (fun j' w' h1 h2 h3 h4 => by first | exact absurd h2 (hno2 j' h1) | (have e2 := (nI_eq (by omega) (by omega)).mp h2; subst e2; exact hin1 w' h3 h4)))
  · skip
    show xm_wp sc (d + 2) 36 3 [some (.ref o), some (.int a), some (.int v), some (.int (nI (s).toNat)), none, none] [.int (nI (false).toNat)] h Q
    refine wb_if_eq (i := 3) (b := false) (t' := 12) rfl rfl (fun c3 => ?_) (fun c3 => ?_)
    · skip
      refine wn_constI (i := 12) (n := -2) rfl rfl ?_
      exact wn_ret (i := 13) rfl rfl (hBad (fun j' w' h1 h2 h3 h4 => by first | exact absurd h2 (hno2 j' h1) | (have e2 := (nI_eq (by omega) (by omega)).mp h2; subst e2; exact hin1 w' h3 h4)))
    · cases c3
end MM
end
section
/-! ===== the reference: act and word ===== -/
def aW (k wa wb : Nat) : Nat := if k = 18 then wa + wb else if 15 ≤ k ∧ k ≤ 17 then 1 else wa
section MM
variable {sc : Nat × Nat × (Nat → Int32)} {d o : Nat} {h h0 : xm_S} {Q : Option Value → xm_S → Prop} {n : Nat → Nat} {f : Nat → Nat → Nat}
theorem l_act1 {n1 : Nat → Nat} {g : Nat → Nat → Nat} {T : Nat} (hB : n1 4 ≤ 12) (hT : T < 24) {k a wa wb ww : Nat} {bb : Int32} (hk : k < 2) (ha : a < T) (hw1 : 1 ≤ wa) (hw : wa ≤ 12) (hwb : wb ≤ 12) (hww : ww ≤ 12) (hg : g 1 T = ww) (hn : ∀ j, j < 98304 → f 3 j < 4096) (hQ : ∀ (h' : xm_S) (f1 : Nat → Nat → Nat), MX o n1 f1 h0 h' → tL f g f1 T (2 ^ n1 4) (fun i => mI ww (dI k (f 3 (4096 * a + i)) 0 wa wb)) → Q (some (.int (nI T))) h') : ∀ (m : Nat) (x : Nat) (h : xm_S) (f1 : Nat → Nat → Nat), x ≤ 2 ^ n1 4 → 2 ^ n1 4 < x + m → MX o n1 f1 h0 h → tL f g f1 T x (fun i => mI ww (dI k (f 3 (4096 * a + i)) 0 wa wb)) → xm_wp sc (d + 2) 1 95 [some (.ref o), some (.int (nI k)), some (.int (nI a)), some (.int bb), some (.int (nI 1)), some (.int (nI wa)), some (.int (nI wb)), some (.int (nI T)), some (.int (nI x))] [] h Q := by
  intro m
  induction m with
  | zero => intro x h f1 h1 h2; exact absurd h2 (by omega)
  | succ m ih =>
    intro x h f1 h1 h2 hX ht
    have hN := xn_p12 hB
    refine wn_iload (i := 95) rfl rfl ?_
    refine wn_aload (i := 96) rfl rfl ?_
    refine wn_callv (i := 97) (as := []) (b := o) (rest := [.int (nI x)]) (es := [some (.ref o)]) rfl rfl rfl rfl rfl (Nat.le_of_ble_eq_true rfl) rfl hX.1.1 rfl ?_
    refine m_all hX hB ?_
    show xm_wp sc (d + 2) 1 98 [some (.ref o), some (.int (nI k)), some (.int (nI a)), some (.int bb), some (.int (nI 1)), some (.int (nI wa)), some (.int (nI wb)), some (.int (nI T)), some (.int (nI x))] [.int (nI (2 ^ n1 4)), .int (nI x)] h Q
    refine wn_ic_ge (i := 98) (a := x) (b := (2 ^ n1 4)) (t' := 131) rfl rfl (by omega) (by omega) (fun c98 => ?_) (fun c98 => ?_)
    · skip
      refine wn_iload (i := 131) rfl rfl ?_
      have ex : x = 2 ^ n1 4 := by omega
      subst ex
      exact wn_ret (i := 132) rfl rfl (hQ _ _ hX ht)
    · skip
      refine wn_aload (i := 99) rfl rfl ?_
      refine wp_get (i := 100) (n := 3) (a := o) (v := .ref (o + 3)) rfl hX.1.1 rfl ?_
      refine wn_const (i := 101) (n := 4096) rfl rfl ?_
      refine wn_iload (i := 102) rfl rfl ?_
      refine wn_imul (i := 103) (a := 4096) (b := T) rfl ?_
      refine wn_iload (i := 104) rfl rfl ?_
      refine wn_iadd (i := 105) (a := (4096 * T)) (b := x) rfl ?_
      refine wn_iload (i := 106) rfl rfl ?_
      have hcn := hn (4096 * a + x) (by omega)
      refine wn_aload (i := 107) rfl rfl ?_
      refine wn_iload (i := 108) rfl rfl ?_
      refine wn_iload (i := 109) rfl rfl ?_
      refine wn_callv (i := 110) (as := [.int (nI a), .int (nI x)]) (b := o) (rest := [.int (nI k), .int (nI ((4096 * T) + x)), .ref (o + 3)]) (es := [some (.ref o), some (.int (nI a)), some (.int (nI x))]) rfl rfl rfl rfl rfl (Nat.le_of_ble_eq_true rfl) rfl hX.1.1 rfl ?_
      refine m_byT hX ht hT (by omega) (by omega) ?_
      show xm_wp sc (d + 2) 1 111 [some (.ref o), some (.int (nI k)), some (.int (nI a)), some (.int bb), some (.int (nI 1)), some (.int (nI wa)), some (.int (nI wb)), some (.int (nI T)), some (.int (nI x))] [.int (nI (f 3 (4096 * a + x))), .int (nI k), .int (nI ((4096 * T) + x)), .ref (o + 3)] h Q
      refine wn_iload (i := 111) rfl rfl ?_
      refine wn_if_eq (i := 112) (a := 1) (t' := 115) rfl rfl (by omega) (fun c112 => ?_) (fun c112 => ?_)
      · exact absurd c112 (by decide)
      · skip
        refine wn_const (i := 113) (n := 0) rfl rfl ?_
        refine wn_goto (i := 114) (t' := 119) rfl rfl ?_
        refine wn_iload (i := 119) rfl rfl ?_
        refine wn_iload (i := 120) rfl rfl ?_
        refine wn_calls (i := 121) (as := [.int (nI k), .int (nI (f 3 (4096 * a + x))), .int (nI 0), .int (nI wa), .int (nI wb)]) (rest := [.int (nI ((4096 * T) + x)), .ref (o + 3)]) (es := [some (.int (nI k)), some (.int (nI (f 3 (4096 * a + x)))), some (.int (nI 0)), some (.int (nI wa)), some (.int (nI wb)), none, none]) rfl rfl (by decide) rfl rfl rfl (Nat.le_of_ble_eq_true rfl) rfl rfl ?_
        refine m_done (by omega) (by omega) (by omega) (by omega) (by omega) (by omega) (fun q => by omega) ?_
        show xm_wp sc (d + 2) 1 122 [some (.ref o), some (.int (nI k)), some (.int (nI a)), some (.int bb), some (.int (nI 1)), some (.int (nI wa)), some (.int (nI wb)), some (.int (nI T)), some (.int (nI x))] [.int (dI k (f 3 (4096 * a + x)) 0 wa wb), .int (nI ((4096 * T) + x)), .ref (o + 3)] h Q
        refine wn_aload (i := 122) rfl rfl ?_
        refine wp_get (i := 123) (n := 1) (a := o) (v := .ref (o + 1)) rfl hX.1.1 rfl ?_
        refine wn_iload (i := 124) rfl rfl ?_
        refine wm_iald (i := 125) (k := 1) (e := T) (len := 24) rfl hX (by decide) (by decide) rfl rfl rfl (by omega) (by decide) ?_
        rw [show f1 1 T = ww from by rw [ht.1 1 (by decide)]; exact hg]
        refine wn_calls (i := 126) (as := [.int (nI ww)]) (rest := [.int (dI k (f 3 (4096 * a + x)) 0 wa wb), .int (nI ((4096 * T) + x)), .ref (o + 3)]) (es := [some (.int (nI ww))]) rfl rfl (by decide) rfl rfl rfl (Nat.le_of_ble_eq_true rfl) rfl rfl ?_
        refine m_mask (by omega) ?_
        show xm_wp sc (d + 2) 1 127 [some (.ref o), some (.int (nI k)), some (.int (nI a)), some (.int bb), some (.int (nI 1)), some (.int (nI wa)), some (.int (nI wb)), some (.int (nI T)), some (.int (nI x))] [.int (nI (2 ^ ww - 1)), .int (dI k (f 3 (4096 * a + x)) 0 wa wb), .int (nI ((4096 * T) + x)), .ref (o + 3)] h Q
        refine wi_iand (i := 127) (a := (dI k (f 3 (4096 * a + x)) 0 wa wb)) (b := nI (2 ^ ww - 1)) rfl ?_
        rw [mI_and (by omega)]
        refine wm_iast (i := 128) (k := 3) (e := ((4096 * T) + x)) (x := (mI ww (dI k (f 3 (4096 * a + x)) 0 wa wb))) (len := 98304) rfl hX (by decide) (by decide) rfl rfl rfl (by omega) (by decide) (fun h_128 hX_128 => ?_)
        refine wn_iinc (i := 129) (x := x) (n := 1) (ls' := [some (.ref o), some (.int (nI k)), some (.int (nI a)), some (.int bb), some (.int (nI 1)), some (.int (nI wa)), some (.int (nI wb)), some (.int (nI T)), some (.int (nI (x + 1)))]) rfl rfl rfl rfl ?_
        refine wn_goto (i := 130) (t' := 95) rfl rfl ?_
        exact ih (x + 1) _ _ (by omega) (by omega) hX_128 (ht.step (rfl))
theorem l_act2 {n1 : Nat → Nat} {g : Nat → Nat → Nat} {T : Nat} (hB : n1 4 ≤ 12) (hT : T < 24) {k a b wa wb ww : Nat} (hk : k < 20) (ha : a < T) (hb : b < T) (hw1 : 1 ≤ wa) (hw : wa ≤ 12) (hwb : wb ≤ 12) (hww : ww ≤ 12) (hg : g 1 T = ww) (hbq : k = 10 ∨ k = 11 → ∀ x, x < 2 ^ n1 4 → f 3 (4096 * b + x) < 2 ^ wa) (hn : ∀ j, j < 98304 → f 3 j < 4096) (hQ : ∀ (h' : xm_S) (f1 : Nat → Nat → Nat), MX o n1 f1 h0 h' → tL f g f1 T (2 ^ n1 4) (fun i => mI ww (dI k (f 3 (4096 * a + i)) (f 3 (4096 * b + i)) wa wb)) → Q (some (.int (nI T))) h') : ∀ (m : Nat) (x : Nat) (h : xm_S) (f1 : Nat → Nat → Nat), x ≤ 2 ^ n1 4 → 2 ^ n1 4 < x + m → MX o n1 f1 h0 h → tL f g f1 T x (fun i => mI ww (dI k (f 3 (4096 * a + i)) (f 3 (4096 * b + i)) wa wb)) → xm_wp sc (d + 2) 1 95 [some (.ref o), some (.int (nI k)), some (.int (nI a)), some (.int (nI b)), some (.int (nI 0)), some (.int (nI wa)), some (.int (nI wb)), some (.int (nI T)), some (.int (nI x))] [] h Q := by
  intro m
  induction m with
  | zero => intro x h f1 h1 h2; exact absurd h2 (by omega)
  | succ m ih =>
    intro x h f1 h1 h2 hX ht
    have hN := xn_p12 hB
    refine wn_iload (i := 95) rfl rfl ?_
    refine wn_aload (i := 96) rfl rfl ?_
    refine wn_callv (i := 97) (as := []) (b := o) (rest := [.int (nI x)]) (es := [some (.ref o)]) rfl rfl rfl rfl rfl (Nat.le_of_ble_eq_true rfl) rfl hX.1.1 rfl ?_
    refine m_all hX hB ?_
    show xm_wp sc (d + 2) 1 98 [some (.ref o), some (.int (nI k)), some (.int (nI a)), some (.int (nI b)), some (.int (nI 0)), some (.int (nI wa)), some (.int (nI wb)), some (.int (nI T)), some (.int (nI x))] [.int (nI (2 ^ n1 4)), .int (nI x)] h Q
    refine wn_ic_ge (i := 98) (a := x) (b := (2 ^ n1 4)) (t' := 131) rfl rfl (by omega) (by omega) (fun c98 => ?_) (fun c98 => ?_)
    · skip
      refine wn_iload (i := 131) rfl rfl ?_
      have ex : x = 2 ^ n1 4 := by omega
      subst ex
      exact wn_ret (i := 132) rfl rfl (hQ _ _ hX ht)
    · skip
      refine wn_aload (i := 99) rfl rfl ?_
      refine wp_get (i := 100) (n := 3) (a := o) (v := .ref (o + 3)) rfl hX.1.1 rfl ?_
      refine wn_const (i := 101) (n := 4096) rfl rfl ?_
      refine wn_iload (i := 102) rfl rfl ?_
      refine wn_imul (i := 103) (a := 4096) (b := T) rfl ?_
      refine wn_iload (i := 104) rfl rfl ?_
      refine wn_iadd (i := 105) (a := (4096 * T)) (b := x) rfl ?_
      refine wn_iload (i := 106) rfl rfl ?_
      have hcn := hn (4096 * a + x) (by omega)
      have hcm := hn (4096 * b + x) (by omega)
      refine wn_aload (i := 107) rfl rfl ?_
      refine wn_iload (i := 108) rfl rfl ?_
      refine wn_iload (i := 109) rfl rfl ?_
      refine wn_callv (i := 110) (as := [.int (nI a), .int (nI x)]) (b := o) (rest := [.int (nI k), .int (nI ((4096 * T) + x)), .ref (o + 3)]) (es := [some (.ref o), some (.int (nI a)), some (.int (nI x))]) rfl rfl rfl rfl rfl (Nat.le_of_ble_eq_true rfl) rfl hX.1.1 rfl ?_
      refine m_byT hX ht hT (by omega) (by omega) ?_
      show xm_wp sc (d + 2) 1 111 [some (.ref o), some (.int (nI k)), some (.int (nI a)), some (.int (nI b)), some (.int (nI 0)), some (.int (nI wa)), some (.int (nI wb)), some (.int (nI T)), some (.int (nI x))] [.int (nI (f 3 (4096 * a + x))), .int (nI k), .int (nI ((4096 * T) + x)), .ref (o + 3)] h Q
      refine wn_iload (i := 111) rfl rfl ?_
      refine wn_if_eq (i := 112) (a := 0) (t' := 115) rfl rfl (by omega) (fun c112 => ?_) (fun c112 => ?_)
      · skip
        refine wn_aload (i := 115) rfl rfl ?_
        refine wn_iload (i := 116) rfl rfl ?_
        refine wn_iload (i := 117) rfl rfl ?_
        refine wn_callv (i := 118) (as := [.int (nI b), .int (nI x)]) (b := o) (rest := [.int (nI (f 3 (4096 * a + x))), .int (nI k), .int (nI ((4096 * T) + x)), .ref (o + 3)]) (es := [some (.ref o), some (.int (nI b)), some (.int (nI x))]) rfl rfl rfl rfl rfl (Nat.le_of_ble_eq_true rfl) rfl hX.1.1 rfl ?_
        refine m_byT hX ht hT (by omega) (by omega) ?_
        show xm_wp sc (d + 2) 1 119 [some (.ref o), some (.int (nI k)), some (.int (nI a)), some (.int (nI b)), some (.int (nI 0)), some (.int (nI wa)), some (.int (nI wb)), some (.int (nI T)), some (.int (nI x))] [.int (nI (f 3 (4096 * b + x))), .int (nI (f 3 (4096 * a + x))), .int (nI k), .int (nI ((4096 * T) + x)), .ref (o + 3)] h Q
        refine wn_iload (i := 119) rfl rfl ?_
        refine wn_iload (i := 120) rfl rfl ?_
        refine wn_calls (i := 121) (as := [.int (nI k), .int (nI (f 3 (4096 * a + x))), .int (nI (f 3 (4096 * b + x))), .int (nI wa), .int (nI wb)]) (rest := [.int (nI ((4096 * T) + x)), .ref (o + 3)]) (es := [some (.int (nI k)), some (.int (nI (f 3 (4096 * a + x)))), some (.int (nI (f 3 (4096 * b + x)))), some (.int (nI wa)), some (.int (nI wb)), none, none]) rfl rfl (by decide) rfl rfl rfl (Nat.le_of_ble_eq_true rfl) rfl rfl ?_
        refine m_done (by omega) (by omega) (by omega) (by omega) (by omega) (by omega) (fun q => hbq q x (by omega)) ?_
        show xm_wp sc (d + 2) 1 122 [some (.ref o), some (.int (nI k)), some (.int (nI a)), some (.int (nI b)), some (.int (nI 0)), some (.int (nI wa)), some (.int (nI wb)), some (.int (nI T)), some (.int (nI x))] [.int (dI k (f 3 (4096 * a + x)) (f 3 (4096 * b + x)) wa wb), .int (nI ((4096 * T) + x)), .ref (o + 3)] h Q
        refine wn_aload (i := 122) rfl rfl ?_
        refine wp_get (i := 123) (n := 1) (a := o) (v := .ref (o + 1)) rfl hX.1.1 rfl ?_
        refine wn_iload (i := 124) rfl rfl ?_
        refine wm_iald (i := 125) (k := 1) (e := T) (len := 24) rfl hX (by decide) (by decide) rfl rfl rfl (by omega) (by decide) ?_
        rw [show f1 1 T = ww from by rw [ht.1 1 (by decide)]; exact hg]
        refine wn_calls (i := 126) (as := [.int (nI ww)]) (rest := [.int (dI k (f 3 (4096 * a + x)) (f 3 (4096 * b + x)) wa wb), .int (nI ((4096 * T) + x)), .ref (o + 3)]) (es := [some (.int (nI ww))]) rfl rfl (by decide) rfl rfl rfl (Nat.le_of_ble_eq_true rfl) rfl rfl ?_
        refine m_mask (by omega) ?_
        show xm_wp sc (d + 2) 1 127 [some (.ref o), some (.int (nI k)), some (.int (nI a)), some (.int (nI b)), some (.int (nI 0)), some (.int (nI wa)), some (.int (nI wb)), some (.int (nI T)), some (.int (nI x))] [.int (nI (2 ^ ww - 1)), .int (dI k (f 3 (4096 * a + x)) (f 3 (4096 * b + x)) wa wb), .int (nI ((4096 * T) + x)), .ref (o + 3)] h Q
        refine wi_iand (i := 127) (a := (dI k (f 3 (4096 * a + x)) (f 3 (4096 * b + x)) wa wb)) (b := nI (2 ^ ww - 1)) rfl ?_
        rw [mI_and (by omega)]
        refine wm_iast (i := 128) (k := 3) (e := ((4096 * T) + x)) (x := (mI ww (dI k (f 3 (4096 * a + x)) (f 3 (4096 * b + x)) wa wb))) (len := 98304) rfl hX (by decide) (by decide) rfl rfl rfl (by omega) (by decide) (fun h_128 hX_128 => ?_)
        refine wn_iinc (i := 129) (x := x) (n := 1) (ls' := [some (.ref o), some (.int (nI k)), some (.int (nI a)), some (.int (nI b)), some (.int (nI 0)), some (.int (nI wa)), some (.int (nI wb)), some (.int (nI T)), some (.int (nI (x + 1)))]) rfl rfl rfl rfl ?_
        refine wn_goto (i := 130) (t' := 95) rfl rfl ?_
        exact ih (x + 1) _ _ (by omega) (by omega) hX_128 (ht.step (rfl))
      · exact absurd rfl c112
theorem m_act (hX : MX o n f h0 h) (hT : n 0 ≤ 24) (hB : n 4 ≤ 12) (hs : ∀ t, t < n 0 → 1 ≤ f 1 t ∧ f 1 t ≤ 12) (hn : ∀ j, j < 98304 → f 3 j < 4096) (hv : ∀ t x, t < n 0 → x < 2 ^ n 4 → f 3 (4096 * t + x) < 2 ^ f 1 t) {kd a b : Int32} (hBad : (∀ k ja, k < 2 → kd = nI k → ja < n 0 → a ≠ nI ja) → (∀ k ja jb, 2 ≤ k → k < 20 → kd = nI k → ja < n 0 → a = nI ja → jb < n 0 → b = nI jb → ¬ ((k ≠ 18 → f 1 ja = f 1 jb) ∧ (k = 18 → f 1 ja + f 1 jb ≤ 12))) → Q (some (.int (-2))) h) (hF1 : ∀ k ja, k < 2 → kd = nI k → ja < n 0 → a = nI ja → n 0 = 24 → Q (some (.int (-3))) h) (hF2 : ∀ k ja jb, 2 ≤ k → k < 20 → kd = nI k → ja < n 0 → a = nI ja → jb < n 0 → b = nI jb → (k ≠ 18 → f 1 ja = f 1 jb) → (k = 18 → f 1 ja + f 1 jb ≤ 12) → n 0 = 24 → Q (some (.int (-3))) h) (hQ1 : ∀ k ja, k < 2 → kd = nI k → ja < n 0 → a = nI ja → n 0 < 24 → ∀ (h' : xm_S) (f1 : Nat → Nat → Nat), MX o (nU n 0 (n 0 + 1)) f1 h0 h' → tL f (fU (fU f 1 (n 0) (f 1 ja)) 2 (n 0) 0) f1 (n 0) (2 ^ n 4) (fun i => mI (f 1 ja) (dI k (f 3 (4096 * ja + i)) 0 (f 1 ja) (f 1 ja))) → Q (some (.int (nI (n 0)))) h') (hQ2 : ∀ k ja jb, 2 ≤ k → k < 20 → kd = nI k → ja < n 0 → a = nI ja → jb < n 0 → b = nI jb → (k ≠ 18 → f 1 ja = f 1 jb) → (k = 18 → f 1 ja + f 1 jb ≤ 12) → n 0 < 24 → ∀ (h' : xm_S) (f1 : Nat → Nat → Nat), MX o (nU n 0 (n 0 + 1)) f1 h0 h' → tL f (fU (fU f 1 (n 0) (aW k (f 1 ja) (f 1 jb))) 2 (n 0) 0) f1 (n 0) (2 ^ n 4) (fun i => mI (aW k (f 1 ja) (f 1 jb)) (dI k (f 3 (4096 * ja + i)) (f 3 (4096 * jb + i)) (f 1 ja) (f 1 jb))) → Q (some (.int (nI (n 0)))) h') : xm_wp sc (d + 2) 1 0 [some (.ref o), some (.int kd), some (.int a), some (.int b), none, none, none, none, none] [] h Q := by
  refine wn_iload (i := 0) rfl rfl ?_
  refine wi_if_eq (i := 1) (a := kd) (t' := 5) rfl rfl (fun c1 => ?_) (fun c1 => ?_)
  · skip
    refine wn_const (i := 5) (n := 1) rfl rfl ?_
    refine wn_goto (i := 6) (t' := 8) rfl rfl ?_
    refine wn_istore (i := 8) (ls' := [some (.ref o), some (.int kd), some (.int a), some (.int b), some (.int (nI 1)), none, none, none, none]) rfl (Nat.le_of_ble_eq_true rfl) rfl ?_
    refine wn_iload (i := 9) rfl rfl ?_
    refine wn_const (i := 10) (n := 0) rfl rfl ?_
    refine wn_const (i := 11) (n := 19) rfl rfl ?_
    refine wn_calls (i := 12) (as := [.int kd, .int (nI 0), .int (nI 19)]) (rest := []) (es := [some (.int kd), some (.int (nI 0)), some (.int (nI 19))]) rfl rfl (by decide) rfl rfl rfl (Nat.le_of_ble_eq_true rfl) rfl rfl ?_
    refine m_isIn (fun q1 q2 => ?_) (fun q0 => ?_)
    · skip
      obtain ⟨k, hk1, hk2, rfl⟩ := xn_isIn2 (by omega) (by omega) q1 q2
      show xm_wp sc (d + 2) 1 13 [some (.ref o), some (.int (nI k)), some (.int a), some (.int b), some (.int (nI 1)), none, none, none, none] [.int (nI (true).toNat)] h Q
      refine wb_if_eq (i := 13) (b := true) (t' := 52) rfl rfl (fun c13 => ?_) (fun c13 => ?_)
      · cases c13
      · skip
        have hk1 : k < 2 := by first | (have := (nI_eq (b := 0) (by omega) (by omega)).mp c1; omega) | (have := (nI_eq (by omega) (by omega)).mp c4; omega)
        refine wn_aload (i := 14) rfl rfl ?_
        refine wn_iload (i := 15) rfl rfl ?_
        refine wn_callv (i := 16) (as := [.int a]) (b := o) (rest := []) (es := [some (.ref o), some (.int a)]) rfl rfl rfl rfl rfl (Nat.le_of_ble_eq_true rfl) rfl hX.1.1 rfl ?_
        refine m_has hX hT (fun ja hja eja => ?_) (fun hno16 => ?_)
        · skip
          subst eja
          show xm_wp sc (d + 2) 1 17 [some (.ref o), some (.int (nI k)), some (.int (nI ja)), some (.int b), some (.int (nI 1)), none, none, none, none] [.int (nI (true).toNat)] h Q
          refine wb_if_eq (i := 17) (b := true) (t' := 52) rfl rfl (fun c17 => ?_) (fun c17 => ?_)
          · cases c17
          · skip
            have hs1 := hs ja hja
            refine wn_iload (i := 18) rfl rfl ?_
            refine wn_if_ne (i := 19) (a := 1) (t' := 24) rfl rfl (by omega) (fun c19 => ?_) (fun c19 => ?_)
            · skip
              refine wn_iload (i := 24) rfl rfl ?_
              refine wn_if_ne (i := 25) (a := 1) (t' := 38) rfl rfl (by omega) (fun c25 => ?_) (fun c25 => ?_)
              · skip
                refine wn_iload (i := 38) rfl rfl ?_
                refine wn_const (i := 39) (n := 18) rfl rfl ?_
                refine wn_ic_ne (i := 40) (a := k) (b := 18) (t' := 54) rfl rfl (by omega) (by omega) (fun c40 => ?_) (fun c40 => absurd c40 (by omega))
                refine wn_aload (i := 54) rfl rfl ?_
                refine wp_get (i := 55) (n := 0) (a := o) (v := .int (nI (n 0))) rfl hX.1.1 rfl ?_
                refine wn_const (i := 56) (n := 24) rfl rfl ?_
                refine wn_ic_ne (i := 57) (a := (n 0)) (b := 24) (t' := 60) rfl rfl (by omega) (by omega) (fun c57 => ?_) (fun c57 => ?_)
                · skip
                  refine wn_aload (i := 60) rfl rfl ?_
                  refine wp_get (i := 61) (n := 1) (a := o) (v := .ref (o + 1)) rfl hX.1.1 rfl ?_
                  refine wn_iload (i := 62) rfl rfl ?_
                  refine wm_iald (i := 63) (k := 1) (e := ja) (len := 24) rfl hX (by decide) (by decide) rfl rfl rfl (by omega) (by decide) ?_
                  refine wn_istore (i := 64) (ls' := [some (.ref o), some (.int (nI k)), some (.int (nI ja)), some (.int b), some (.int (nI 1)), some (.int (nI (f 1 ja))), none, none, none]) rfl (Nat.le_of_ble_eq_true rfl) rfl ?_
                  refine wn_iload (i := 65) rfl rfl ?_
                  refine wn_if_eq (i := 66) (a := 1) (t' := 69) rfl rfl (by omega) (fun c66 => ?_) (fun c66 => ?_)
                  · exact absurd c66 (by decide)
                  · skip
                    refine wn_iload (i := 67) rfl rfl ?_
                    refine wn_goto (i := 68) (t' := 73) rfl rfl ?_
                    refine wn_istore (i := 73) (ls' := [some (.ref o), some (.int (nI k)), some (.int (nI ja)), some (.int b), some (.int (nI 1)), some (.int (nI (f 1 ja))), some (.int (nI (f 1 ja))), none, none]) rfl (Nat.le_of_ble_eq_true rfl) rfl ?_
                    refine wn_aload (i := 74) rfl rfl ?_
                    refine wn_iload (i := 75) rfl rfl ?_
                    refine wn_const (i := 76) (n := 18) rfl rfl ?_
                    refine wn_ic_ne (i := 77) (a := k) (b := 18) (t' := 82) rfl rfl (by omega) (by omega) (fun c77 => ?_) (fun c77 => absurd c77 (by omega))
                    refine wn_iload (i := 82) rfl rfl ?_
                    refine wn_const (i := 83) (n := 15) rfl rfl ?_
                    refine wn_const (i := 84) (n := 17) rfl rfl ?_
                    refine wn_calls (i := 85) (as := [.int (nI k), .int (nI 15), .int (nI 17)]) (rest := [.ref o]) (es := [some (.int (nI k)), some (.int (nI 15)), some (.int (nI 17))]) rfl rfl (by decide) rfl rfl rfl (Nat.le_of_ble_eq_true rfl) rfl rfl ?_
                    refine m_isIn (fun q1 q2 => ?_) (fun q0 => ?_)
                    · skip
                      have hr : 15 ≤ k ∧ k ≤ 17 := ⟨(nI_leI (by omega) (by omega)).mp q1, (nI_leI (by omega) (by omega)).mp q2⟩
                      show xm_wp sc (d + 2) 1 86 [some (.ref o), some (.int (nI k)), some (.int (nI ja)), some (.int b), some (.int (nI 1)), some (.int (nI (f 1 ja))), some (.int (nI (f 1 ja))), none, none] [.int (nI (true).toNat), .ref o] h Q
                      refine wb_if_eq (i := 86) (b := true) (t' := 89) rfl rfl (fun c86 => ?_) (fun c86 => ?_)
                      · cases c86
                      · skip
                        refine wn_const (i := 87) (n := 1) rfl rfl ?_
                        refine wn_goto (i := 88) (t' := 90) rfl rfl ?_
                        refine wn_const (i := 90) (n := 0) rfl rfl ?_
                        refine wn_callv (i := 91) (as := [.int (nI 1), .int (nI 0)]) (b := o) (rest := []) (es := [some (.ref o), some (.int (nI 1)), some (.int (nI 0))]) rfl rfl rfl rfl rfl (Nat.le_of_ble_eq_true rfl) rfl hX.1.1 rfl ?_
                        refine m_add hX (by omega) (by omega) (fun h1 hX1 => ?_)
                        show xm_wp sc (d + 2) 1 92 [some (.ref o), some (.int (nI k)), some (.int (nI ja)), some (.int b), some (.int (nI 1)), some (.int (nI (f 1 ja))), some (.int (nI (f 1 ja))), none, none] [.int (nI (n 0))] h1 Q
                        refine wn_istore (i := 92) (ls' := [some (.ref o), some (.int (nI k)), some (.int (nI ja)), some (.int b), some (.int (nI 1)), some (.int (nI (f 1 ja))), some (.int (nI (f 1 ja))), some (.int (nI (n 0))), none]) rfl (Nat.le_of_ble_eq_true rfl) rfl ?_
                        refine wn_const (i := 93) (n := 0) rfl rfl ?_
                        refine wn_istore (i := 94) (ls' := [some (.ref o), some (.int (nI k)), some (.int (nI ja)), some (.int b), some (.int (nI 1)), some (.int (nI (f 1 ja))), some (.int (nI (f 1 ja))), some (.int (nI (n 0))), some (.int (nI 0))]) rfl (Nat.le_of_ble_eq_true rfl) rfl ?_
                        exact absurd hr (by omega)
                    · skip
                      have hr : ¬ (15 ≤ k ∧ k ≤ 17) := fun e => q0 ⟨nI_le e.1 (by omega), nI_le e.2 (by omega)⟩
                      show xm_wp sc (d + 2) 1 86 [some (.ref o), some (.int (nI k)), some (.int (nI ja)), some (.int b), some (.int (nI 1)), some (.int (nI (f 1 ja))), some (.int (nI (f 1 ja))), none, none] [.int (nI (false).toNat), .ref o] h Q
                      refine wb_if_eq (i := 86) (b := false) (t' := 89) rfl rfl (fun c86 => ?_) (fun c86 => ?_)
                      · skip
                        refine wn_iload (i := 89) rfl rfl ?_
                        refine wn_const (i := 90) (n := 0) rfl rfl ?_
                        refine wn_callv (i := 91) (as := [.int (nI (f 1 ja)), .int (nI 0)]) (b := o) (rest := []) (es := [some (.ref o), some (.int (nI (f 1 ja))), some (.int (nI 0))]) rfl rfl rfl rfl rfl (Nat.le_of_ble_eq_true rfl) rfl hX.1.1 rfl ?_
                        refine m_add hX (by omega) (by omega) (fun h1 hX1 => ?_)
                        show xm_wp sc (d + 2) 1 92 [some (.ref o), some (.int (nI k)), some (.int (nI ja)), some (.int b), some (.int (nI 1)), some (.int (nI (f 1 ja))), some (.int (nI (f 1 ja))), none, none] [.int (nI (n 0))] h1 Q
                        refine wn_istore (i := 92) (ls' := [some (.ref o), some (.int (nI k)), some (.int (nI ja)), some (.int b), some (.int (nI 1)), some (.int (nI (f 1 ja))), some (.int (nI (f 1 ja))), some (.int (nI (n 0))), none]) rfl (Nat.le_of_ble_eq_true rfl) rfl ?_
                        refine wn_const (i := 93) (n := 0) rfl rfl ?_
                        refine wn_istore (i := 94) (ls' := [some (.ref o), some (.int (nI k)), some (.int (nI ja)), some (.int b), some (.int (nI 1)), some (.int (nI (f 1 ja))), some (.int (nI (f 1 ja))), some (.int (nI (n 0))), some (.int (nI 0))]) rfl (Nat.le_of_ble_eq_true rfl) rfl ?_
                        exact l_act1 (n1 := nU n 0 (n 0 + 1)) hB (by omega) hk1 hja hs1.1 hs1.2 hs1.2 hs1.2 (by rw [fU_ne (by simp), fU_same]) hn (hQ1 k ja hk1 rfl hja rfl (by omega)) (2 ^ n 4 + 1) 0 _ _ (Nat.zero_le _) (by show 2 ^ n 4 < _; omega) hX1 (tL.start (by funext j; rw [fU_ne (by simp), fU_ne (by simp)]))
                      · cases c86
                · skip
                  refine wn_constI (i := 58) (n := -3) rfl rfl ?_
                  exact wn_ret (i := 59) rfl rfl (hF1 k ja hk1 rfl hja rfl c57)
              · exact absurd c25 (by decide)
            · exact absurd c19 (by decide)
        · skip
          show xm_wp sc (d + 2) 1 17 [some (.ref o), some (.int (nI k)), some (.int a), some (.int b), some (.int (nI 1)), none, none, none, none] [.int (nI (false).toNat)] h Q
          refine wb_if_eq (i := 17) (b := false) (t' := 52) rfl rfl (fun c17 => ?_) (fun c17 => ?_)
          · skip
            refine wn_constI (i := 52) (n := -2) rfl rfl ?_
            exact wn_ret (i := 53) rfl rfl (hBad (fun k' ja' h1 h2 h3 h4 => by first | exact absurd h2 (hin1 _ (Nat.zero_le _) (by omega)) | exact absurd h4 (hno16 _ h3) | (have := (nI_eq (by omega) (by omega)).mp h2; omega)) (fun k' ja' jb' h1 h2 h3 h4 h5 h6 h7 => by first | exact absurd h3 (hin1 _ (Nat.zero_le _) (by omega)) | exact absurd h5 (hno16 _ h4) | exact absurd h7 (hno22 _ h6) | (have e1 := (nI_eq (by omega) (by omega)).mp h3; have e2 := (nI_eq (by omega) (by omega)).mp h5; have e3 := (nI_eq (by omega) (by omega)).mp h7; subst e1; subst e2; subst e3; omega)))
          · cases c17
    · skip
      have hin1 : ∀ z_, 0 ≤ z_ → z_ ≤ 19 → kd ≠ nI z_ := xn_notIn2 (by omega) (by omega) q0
      show xm_wp sc (d + 2) 1 13 [some (.ref o), some (.int kd), some (.int a), some (.int b), some (.int (nI 1)), none, none, none, none] [.int (nI (false).toNat)] h Q
      refine wb_if_eq (i := 13) (b := false) (t' := 52) rfl rfl (fun c13 => ?_) (fun c13 => ?_)
      · skip
        refine wn_constI (i := 52) (n := -2) rfl rfl ?_
        exact wn_ret (i := 53) rfl rfl (hBad (fun k' ja' h1 h2 h3 h4 => by first | exact absurd h2 (hin1 _ (Nat.zero_le _) (by omega)) | exact absurd h4 (hno16 _ h3) | (have := (nI_eq (by omega) (by omega)).mp h2; omega)) (fun k' ja' jb' h1 h2 h3 h4 h5 h6 h7 => by first | exact absurd h3 (hin1 _ (Nat.zero_le _) (by omega)) | exact absurd h5 (hno16 _ h4) | exact absurd h7 (hno22 _ h6) | (have e1 := (nI_eq (by omega) (by omega)).mp h3; have e2 := (nI_eq (by omega) (by omega)).mp h5; have e3 := (nI_eq (by omega) (by omega)).mp h7; subst e1; subst e2; subst e3; omega)))
      · cases c13
  · skip
    refine wn_iload (i := 2) rfl rfl ?_
    refine wn_const (i := 3) (n := 1) rfl rfl ?_
    refine wi_ic_ne (i := 4) (a := kd) (b := (nI 1)) (t' := 7) rfl rfl (fun c4 => ?_) (fun c4 => ?_)
    · skip
      refine wn_const (i := 7) (n := 0) rfl rfl ?_
      refine wn_istore (i := 8) (ls' := [some (.ref o), some (.int kd), some (.int a), some (.int b), some (.int (nI 0)), none, none, none, none]) rfl (Nat.le_of_ble_eq_true rfl) rfl ?_
      refine wn_iload (i := 9) rfl rfl ?_
      refine wn_const (i := 10) (n := 0) rfl rfl ?_
      refine wn_const (i := 11) (n := 19) rfl rfl ?_
      refine wn_calls (i := 12) (as := [.int kd, .int (nI 0), .int (nI 19)]) (rest := []) (es := [some (.int kd), some (.int (nI 0)), some (.int (nI 19))]) rfl rfl (by decide) rfl rfl rfl (Nat.le_of_ble_eq_true rfl) rfl rfl ?_
      refine m_isIn (fun q1 q2 => ?_) (fun q0 => ?_)
      · skip
        obtain ⟨k, hk1, hk2, rfl⟩ := xn_isIn2 (by omega) (by omega) q1 q2
        show xm_wp sc (d + 2) 1 13 [some (.ref o), some (.int (nI k)), some (.int a), some (.int b), some (.int (nI 0)), none, none, none, none] [.int (nI (true).toNat)] h Q
        refine wb_if_eq (i := 13) (b := true) (t' := 52) rfl rfl (fun c13 => ?_) (fun c13 => ?_)
        · cases c13
        · skip
          have hk2 : 2 ≤ k := by have e0 : k ≠ 0 := fun e => c1 (by rw [e]; rfl); have e1 : k ≠ 1 := fun e => c4 (by rw [e]); omega
          refine wn_aload (i := 14) rfl rfl ?_
          refine wn_iload (i := 15) rfl rfl ?_
          refine wn_callv (i := 16) (as := [.int a]) (b := o) (rest := []) (es := [some (.ref o), some (.int a)]) rfl rfl rfl rfl rfl (Nat.le_of_ble_eq_true rfl) rfl hX.1.1 rfl ?_
          refine m_has hX hT (fun ja hja eja => ?_) (fun hno16 => ?_)
          · skip
            subst eja
            show xm_wp sc (d + 2) 1 17 [some (.ref o), some (.int (nI k)), some (.int (nI ja)), some (.int b), some (.int (nI 0)), none, none, none, none] [.int (nI (true).toNat)] h Q
            refine wb_if_eq (i := 17) (b := true) (t' := 52) rfl rfl (fun c17 => ?_) (fun c17 => ?_)
            · cases c17
            · skip
              have hs1 := hs ja hja
              refine wn_iload (i := 18) rfl rfl ?_
              refine wn_if_ne (i := 19) (a := 0) (t' := 24) rfl rfl (by omega) (fun c19 => ?_) (fun c19 => ?_)
              · exact absurd rfl c19
              · skip
                refine wn_aload (i := 20) rfl rfl ?_
                refine wn_iload (i := 21) rfl rfl ?_
                refine wn_callv (i := 22) (as := [.int b]) (b := o) (rest := []) (es := [some (.ref o), some (.int b)]) rfl rfl rfl rfl rfl (Nat.le_of_ble_eq_true rfl) rfl hX.1.1 rfl ?_
                refine m_has hX hT (fun jb hjb ejb => ?_) (fun hno22 => ?_)
                · skip
                  subst ejb
                  show xm_wp sc (d + 2) 1 23 [some (.ref o), some (.int (nI k)), some (.int (nI ja)), some (.int (nI jb)), some (.int (nI 0)), none, none, none, none] [.int (nI (true).toNat)] h Q
                  refine wb_if_eq (i := 23) (b := true) (t' := 52) rfl rfl (fun c23 => ?_) (fun c23 => ?_)
                  · cases c23
                  · skip
                    have hs2 := hs jb hjb
                    refine wn_iload (i := 24) rfl rfl ?_
                    refine wn_if_ne (i := 25) (a := 0) (t' := 38) rfl rfl (by omega) (fun c25 => ?_) (fun c25 => ?_)
                    · exact absurd rfl c25
                    · skip
                      refine wn_iload (i := 26) rfl rfl ?_
                      refine wn_const (i := 27) (n := 18) rfl rfl ?_
                      refine wn_ic_eq (i := 28) (a := k) (b := 18) (t' := 38) rfl rfl (by omega) (by omega) (fun c28 => ?_) (fun c28 => ?_)
                      · skip
                        refine wn_iload (i := 38) rfl rfl ?_
                        refine wn_const (i := 39) (n := 18) rfl rfl ?_
                        refine wn_ic_ne (i := 40) (a := k) (b := 18) (t' := 54) rfl rfl (by omega) (by omega) (fun c40 => ?_) (fun c40 => ?_)
                        · skip
                          refine wn_aload (i := 54) rfl rfl ?_
                          refine wp_get (i := 55) (n := 0) (a := o) (v := .int (nI (n 0))) rfl hX.1.1 rfl ?_
                          refine wn_const (i := 56) (n := 24) rfl rfl ?_
                          refine wn_ic_ne (i := 57) (a := (n 0)) (b := 24) (t' := 60) rfl rfl (by omega) (by omega) (fun c57 => ?_) (fun c57 => ?_)
                          · skip
                            refine wn_aload (i := 60) rfl rfl ?_
                            refine wp_get (i := 61) (n := 1) (a := o) (v := .ref (o + 1)) rfl hX.1.1 rfl ?_
                            refine wn_iload (i := 62) rfl rfl ?_
                            refine wm_iald (i := 63) (k := 1) (e := ja) (len := 24) rfl hX (by decide) (by decide) rfl rfl rfl (by omega) (by decide) ?_
                            refine wn_istore (i := 64) (ls' := [some (.ref o), some (.int (nI k)), some (.int (nI ja)), some (.int (nI jb)), some (.int (nI 0)), some (.int (nI (f 1 ja))), none, none, none]) rfl (Nat.le_of_ble_eq_true rfl) rfl ?_
                            refine wn_iload (i := 65) rfl rfl ?_
                            refine wn_if_eq (i := 66) (a := 0) (t' := 69) rfl rfl (by omega) (fun c66 => ?_) (fun c66 => ?_)
                            · skip
                              refine wn_aload (i := 69) rfl rfl ?_
                              refine wp_get (i := 70) (n := 1) (a := o) (v := .ref (o + 1)) rfl hX.1.1 rfl ?_
                              refine wn_iload (i := 71) rfl rfl ?_
                              refine wm_iald (i := 72) (k := 1) (e := jb) (len := 24) rfl hX (by decide) (by decide) rfl rfl rfl (by omega) (by decide) ?_
                              refine wn_istore (i := 73) (ls' := [some (.ref o), some (.int (nI k)), some (.int (nI ja)), some (.int (nI jb)), some (.int (nI 0)), some (.int (nI (f 1 ja))), some (.int (nI (f 1 jb))), none, none]) rfl (Nat.le_of_ble_eq_true rfl) rfl ?_
                              refine wn_aload (i := 74) rfl rfl ?_
                              refine wn_iload (i := 75) rfl rfl ?_
                              refine wn_const (i := 76) (n := 18) rfl rfl ?_
                              refine wn_ic_ne (i := 77) (a := k) (b := 18) (t' := 82) rfl rfl (by omega) (by omega) (fun c77 => ?_) (fun c77 => ?_)
                              · skip
                                refine wn_iload (i := 82) rfl rfl ?_
                                refine wn_const (i := 83) (n := 15) rfl rfl ?_
                                refine wn_const (i := 84) (n := 17) rfl rfl ?_
                                refine wn_calls (i := 85) (as := [.int (nI k), .int (nI 15), .int (nI 17)]) (rest := [.ref o]) (es := [some (.int (nI k)), some (.int (nI 15)), some (.int (nI 17))]) rfl rfl (by decide) rfl rfl rfl (Nat.le_of_ble_eq_true rfl) rfl rfl ?_
                                refine m_isIn (fun q1 q2 => ?_) (fun q0 => ?_)
                                · skip
                                  have hr : 15 ≤ k ∧ k ≤ 17 := ⟨(nI_leI (by omega) (by omega)).mp q1, (nI_leI (by omega) (by omega)).mp q2⟩
                                  show xm_wp sc (d + 2) 1 86 [some (.ref o), some (.int (nI k)), some (.int (nI ja)), some (.int (nI jb)), some (.int (nI 0)), some (.int (nI (f 1 ja))), some (.int (nI (f 1 jb))), none, none] [.int (nI (true).toNat), .ref o] h Q
                                  refine wb_if_eq (i := 86) (b := true) (t' := 89) rfl rfl (fun c86 => ?_) (fun c86 => ?_)
                                  · cases c86
                                  · skip
                                    refine wn_const (i := 87) (n := 1) rfl rfl ?_
                                    refine wn_goto (i := 88) (t' := 90) rfl rfl ?_
                                    refine wn_const (i := 90) (n := 0) rfl rfl ?_
                                    refine wn_callv (i := 91) (as := [.int (nI 1), .int (nI 0)]) (b := o) (rest := []) (es := [some (.ref o), some (.int (nI 1)), some (.int (nI 0))]) rfl rfl rfl rfl rfl (Nat.le_of_ble_eq_true rfl) rfl hX.1.1 rfl ?_
                                    refine m_add hX (by omega) (by omega) (fun h1 hX1 => ?_)
                                    show xm_wp sc (d + 2) 1 92 [some (.ref o), some (.int (nI k)), some (.int (nI ja)), some (.int (nI jb)), some (.int (nI 0)), some (.int (nI (f 1 ja))), some (.int (nI (f 1 jb))), none, none] [.int (nI (n 0))] h1 Q
                                    refine wn_istore (i := 92) (ls' := [some (.ref o), some (.int (nI k)), some (.int (nI ja)), some (.int (nI jb)), some (.int (nI 0)), some (.int (nI (f 1 ja))), some (.int (nI (f 1 jb))), some (.int (nI (n 0))), none]) rfl (Nat.le_of_ble_eq_true rfl) rfl ?_
                                    refine wn_const (i := 93) (n := 0) rfl rfl ?_
                                    refine wn_istore (i := 94) (ls' := [some (.ref o), some (.int (nI k)), some (.int (nI ja)), some (.int (nI jb)), some (.int (nI 0)), some (.int (nI (f 1 ja))), some (.int (nI (f 1 jb))), some (.int (nI (n 0))), some (.int (nI 0))]) rfl (Nat.le_of_ble_eq_true rfl) rfl ?_
                                    have hsz : (k ≠ 18 → f 1 ja = f 1 jb) ∧ (k = 18 → f 1 ja + f 1 jb ≤ 12) := by constructor <;> intro q <;> omega
                                    have haw : aW k (f 1 ja) (f 1 jb) = 1 := by unfold aW; rw [if_neg c77, if_pos hr]
                                    have hq2 := hQ2 k ja jb hk2 (by omega) rfl hja rfl hjb rfl hsz.1 hsz.2 (by omega)
                                    rw [haw] at hq2
                                    exact l_act2 (n1 := nU n 0 (n 0 + 1)) hB (by omega) (by omega) hja hjb hs1.1 hs1.2 hs2.2 (by omega) (by rw [fU_ne (by simp), fU_same]) (fun q x hx => by rw [hsz.1 (by omega)]; exact hv jb x hjb hx) hn hq2 (2 ^ n 4 + 1) 0 _ _ (Nat.zero_le _) (by show 2 ^ n 4 < _; omega) hX1 (tL.start (by funext j; rw [fU_ne (by simp), fU_ne (by simp)]))
                                · skip
                                  have hr : ¬ (15 ≤ k ∧ k ≤ 17) := fun e => q0 ⟨nI_le e.1 (by omega), nI_le e.2 (by omega)⟩
                                  show xm_wp sc (d + 2) 1 86 [some (.ref o), some (.int (nI k)), some (.int (nI ja)), some (.int (nI jb)), some (.int (nI 0)), some (.int (nI (f 1 ja))), some (.int (nI (f 1 jb))), none, none] [.int (nI (false).toNat), .ref o] h Q
                                  refine wb_if_eq (i := 86) (b := false) (t' := 89) rfl rfl (fun c86 => ?_) (fun c86 => ?_)
                                  · skip
                                    refine wn_iload (i := 89) rfl rfl ?_
                                    refine wn_const (i := 90) (n := 0) rfl rfl ?_
                                    refine wn_callv (i := 91) (as := [.int (nI (f 1 ja)), .int (nI 0)]) (b := o) (rest := []) (es := [some (.ref o), some (.int (nI (f 1 ja))), some (.int (nI 0))]) rfl rfl rfl rfl rfl (Nat.le_of_ble_eq_true rfl) rfl hX.1.1 rfl ?_
                                    refine m_add hX (by omega) (by omega) (fun h1 hX1 => ?_)
                                    show xm_wp sc (d + 2) 1 92 [some (.ref o), some (.int (nI k)), some (.int (nI ja)), some (.int (nI jb)), some (.int (nI 0)), some (.int (nI (f 1 ja))), some (.int (nI (f 1 jb))), none, none] [.int (nI (n 0))] h1 Q
                                    refine wn_istore (i := 92) (ls' := [some (.ref o), some (.int (nI k)), some (.int (nI ja)), some (.int (nI jb)), some (.int (nI 0)), some (.int (nI (f 1 ja))), some (.int (nI (f 1 jb))), some (.int (nI (n 0))), none]) rfl (Nat.le_of_ble_eq_true rfl) rfl ?_
                                    refine wn_const (i := 93) (n := 0) rfl rfl ?_
                                    refine wn_istore (i := 94) (ls' := [some (.ref o), some (.int (nI k)), some (.int (nI ja)), some (.int (nI jb)), some (.int (nI 0)), some (.int (nI (f 1 ja))), some (.int (nI (f 1 jb))), some (.int (nI (n 0))), some (.int (nI 0))]) rfl (Nat.le_of_ble_eq_true rfl) rfl ?_
                                    have hsz : (k ≠ 18 → f 1 ja = f 1 jb) ∧ (k = 18 → f 1 ja + f 1 jb ≤ 12) := by constructor <;> intro q <;> omega
                                    have haw : aW k (f 1 ja) (f 1 jb) = (f 1 ja) := by unfold aW; rw [if_neg c77, if_neg hr]
                                    have hq2 := hQ2 k ja jb hk2 (by omega) rfl hja rfl hjb rfl hsz.1 hsz.2 (by omega)
                                    rw [haw] at hq2
                                    exact l_act2 (n1 := nU n 0 (n 0 + 1)) hB (by omega) (by omega) hja hjb hs1.1 hs1.2 hs2.2 (by omega) (by rw [fU_ne (by simp), fU_same]) (fun q x hx => by rw [hsz.1 (by omega)]; exact hv jb x hjb hx) hn hq2 (2 ^ n 4 + 1) 0 _ _ (Nat.zero_le _) (by show 2 ^ n 4 < _; omega) hX1 (tL.start (by funext j; rw [fU_ne (by simp), fU_ne (by simp)]))
                                  · cases c86
                              · skip
                                refine wn_iload (i := 78) rfl rfl ?_
                                refine wn_iload (i := 79) rfl rfl ?_
                                refine wn_iadd (i := 80) (a := (f 1 ja)) (b := (f 1 jb)) rfl ?_
                                refine wn_goto (i := 81) (t' := 90) rfl rfl ?_
                                refine wn_const (i := 90) (n := 0) rfl rfl ?_
                                refine wn_callv (i := 91) (as := [.int (nI ((f 1 ja) + (f 1 jb))), .int (nI 0)]) (b := o) (rest := []) (es := [some (.ref o), some (.int (nI ((f 1 ja) + (f 1 jb)))), some (.int (nI 0))]) rfl rfl rfl rfl rfl (Nat.le_of_ble_eq_true rfl) rfl hX.1.1 rfl ?_
                                refine m_add hX (by omega) (by omega) (fun h1 hX1 => ?_)
                                show xm_wp sc (d + 2) 1 92 [some (.ref o), some (.int (nI k)), some (.int (nI ja)), some (.int (nI jb)), some (.int (nI 0)), some (.int (nI (f 1 ja))), some (.int (nI (f 1 jb))), none, none] [.int (nI (n 0))] h1 Q
                                refine wn_istore (i := 92) (ls' := [some (.ref o), some (.int (nI k)), some (.int (nI ja)), some (.int (nI jb)), some (.int (nI 0)), some (.int (nI (f 1 ja))), some (.int (nI (f 1 jb))), some (.int (nI (n 0))), none]) rfl (Nat.le_of_ble_eq_true rfl) rfl ?_
                                refine wn_const (i := 93) (n := 0) rfl rfl ?_
                                refine wn_istore (i := 94) (ls' := [some (.ref o), some (.int (nI k)), some (.int (nI ja)), some (.int (nI jb)), some (.int (nI 0)), some (.int (nI (f 1 ja))), some (.int (nI (f 1 jb))), some (.int (nI (n 0))), some (.int (nI 0))]) rfl (Nat.le_of_ble_eq_true rfl) rfl ?_
                                have hsz : (k ≠ 18 → f 1 ja = f 1 jb) ∧ (k = 18 → f 1 ja + f 1 jb ≤ 12) := by constructor <;> intro q <;> omega
                                have haw : aW k (f 1 ja) (f 1 jb) = ((f 1 ja) + (f 1 jb)) := by unfold aW; rw [if_pos c77]
                                have hq2 := hQ2 k ja jb hk2 (by omega) rfl hja rfl hjb rfl hsz.1 hsz.2 (by omega)
                                rw [haw] at hq2
                                exact l_act2 (n1 := nU n 0 (n 0 + 1)) hB (by omega) (by omega) hja hjb hs1.1 hs1.2 hs2.2 (by omega) (by rw [fU_ne (by simp), fU_same]) (fun q x hx => by rw [hsz.1 (by omega)]; exact hv jb x hjb hx) hn hq2 (2 ^ n 4 + 1) 0 _ _ (Nat.zero_le _) (by show 2 ^ n 4 < _; omega) hX1 (tL.start (by funext j; rw [fU_ne (by simp), fU_ne (by simp)]))
                            · exact absurd rfl c66
                          · skip
                            refine wn_constI (i := 58) (n := -3) rfl rfl ?_
                            exact wn_ret (i := 59) rfl rfl (hF2 k ja jb hk2 (by omega) rfl hja rfl hjb rfl (fun q => by omega) (fun q => by omega) c57)
                        · skip
                          refine wn_aload (i := 41) rfl rfl ?_
                          refine wp_get (i := 42) (n := 1) (a := o) (v := .ref (o + 1)) rfl hX.1.1 rfl ?_
                          refine wn_iload (i := 43) rfl rfl ?_
                          refine wm_iald (i := 44) (k := 1) (e := ja) (len := 24) rfl hX (by decide) (by decide) rfl rfl rfl (by omega) (by decide) ?_
                          refine wn_aload (i := 45) rfl rfl ?_
                          refine wp_get (i := 46) (n := 1) (a := o) (v := .ref (o + 1)) rfl hX.1.1 rfl ?_
                          refine wn_iload (i := 47) rfl rfl ?_
                          refine wm_iald (i := 48) (k := 1) (e := jb) (len := 24) rfl hX (by decide) (by decide) rfl rfl rfl (by omega) (by decide) ?_
                          refine wn_iadd (i := 49) (a := (f 1 ja)) (b := (f 1 jb)) rfl ?_
                          refine wn_const (i := 50) (n := 12) rfl rfl ?_
                          refine wn_ic_le (i := 51) (a := ((f 1 ja) + (f 1 jb))) (b := 12) (t' := 54) rfl rfl (by omega) (by omega) (fun c51 => ?_) (fun c51 => ?_)
                          · skip
                            refine wn_aload (i := 54) rfl rfl ?_
                            refine wp_get (i := 55) (n := 0) (a := o) (v := .int (nI (n 0))) rfl hX.1.1 rfl ?_
                            refine wn_const (i := 56) (n := 24) rfl rfl ?_
                            refine wn_ic_ne (i := 57) (a := (n 0)) (b := 24) (t' := 60) rfl rfl (by omega) (by omega) (fun c57 => ?_) (fun c57 => ?_)
                            · skip
                              refine wn_aload (i := 60) rfl rfl ?_
                              refine wp_get (i := 61) (n := 1) (a := o) (v := .ref (o + 1)) rfl hX.1.1 rfl ?_
                              refine wn_iload (i := 62) rfl rfl ?_
                              refine wm_iald (i := 63) (k := 1) (e := ja) (len := 24) rfl hX (by decide) (by decide) rfl rfl rfl (by omega) (by decide) ?_
                              refine wn_istore (i := 64) (ls' := [some (.ref o), some (.int (nI k)), some (.int (nI ja)), some (.int (nI jb)), some (.int (nI 0)), some (.int (nI (f 1 ja))), none, none, none]) rfl (Nat.le_of_ble_eq_true rfl) rfl ?_
                              refine wn_iload (i := 65) rfl rfl ?_
                              refine wn_if_eq (i := 66) (a := 0) (t' := 69) rfl rfl (by omega) (fun c66 => ?_) (fun c66 => ?_)
                              · skip
                                refine wn_aload (i := 69) rfl rfl ?_
                                refine wp_get (i := 70) (n := 1) (a := o) (v := .ref (o + 1)) rfl hX.1.1 rfl ?_
                                refine wn_iload (i := 71) rfl rfl ?_
                                refine wm_iald (i := 72) (k := 1) (e := jb) (len := 24) rfl hX (by decide) (by decide) rfl rfl rfl (by omega) (by decide) ?_
                                refine wn_istore (i := 73) (ls' := [some (.ref o), some (.int (nI k)), some (.int (nI ja)), some (.int (nI jb)), some (.int (nI 0)), some (.int (nI (f 1 ja))), some (.int (nI (f 1 jb))), none, none]) rfl (Nat.le_of_ble_eq_true rfl) rfl ?_
                                refine wn_aload (i := 74) rfl rfl ?_
                                refine wn_iload (i := 75) rfl rfl ?_
                                refine wn_const (i := 76) (n := 18) rfl rfl ?_
                                refine wn_ic_ne (i := 77) (a := k) (b := 18) (t' := 82) rfl rfl (by omega) (by omega) (fun c77 => ?_) (fun c77 => ?_)
                                · skip
                                  refine wn_iload (i := 82) rfl rfl ?_
                                  refine wn_const (i := 83) (n := 15) rfl rfl ?_
                                  refine wn_const (i := 84) (n := 17) rfl rfl ?_
                                  refine wn_calls (i := 85) (as := [.int (nI k), .int (nI 15), .int (nI 17)]) (rest := [.ref o]) (es := [some (.int (nI k)), some (.int (nI 15)), some (.int (nI 17))]) rfl rfl (by decide) rfl rfl rfl (Nat.le_of_ble_eq_true rfl) rfl rfl ?_
                                  refine m_isIn (fun q1 q2 => ?_) (fun q0 => ?_)
                                  · skip
                                    have hr : 15 ≤ k ∧ k ≤ 17 := ⟨(nI_leI (by omega) (by omega)).mp q1, (nI_leI (by omega) (by omega)).mp q2⟩
                                    show xm_wp sc (d + 2) 1 86 [some (.ref o), some (.int (nI k)), some (.int (nI ja)), some (.int (nI jb)), some (.int (nI 0)), some (.int (nI (f 1 ja))), some (.int (nI (f 1 jb))), none, none] [.int (nI (true).toNat), .ref o] h Q
                                    refine wb_if_eq (i := 86) (b := true) (t' := 89) rfl rfl (fun c86 => ?_) (fun c86 => ?_)
                                    · cases c86
                                    · skip
                                      refine wn_const (i := 87) (n := 1) rfl rfl ?_
                                      refine wn_goto (i := 88) (t' := 90) rfl rfl ?_
                                      refine wn_const (i := 90) (n := 0) rfl rfl ?_
                                      refine wn_callv (i := 91) (as := [.int (nI 1), .int (nI 0)]) (b := o) (rest := []) (es := [some (.ref o), some (.int (nI 1)), some (.int (nI 0))]) rfl rfl rfl rfl rfl (Nat.le_of_ble_eq_true rfl) rfl hX.1.1 rfl ?_
                                      refine m_add hX (by omega) (by omega) (fun h1 hX1 => ?_)
                                      show xm_wp sc (d + 2) 1 92 [some (.ref o), some (.int (nI k)), some (.int (nI ja)), some (.int (nI jb)), some (.int (nI 0)), some (.int (nI (f 1 ja))), some (.int (nI (f 1 jb))), none, none] [.int (nI (n 0))] h1 Q
                                      refine wn_istore (i := 92) (ls' := [some (.ref o), some (.int (nI k)), some (.int (nI ja)), some (.int (nI jb)), some (.int (nI 0)), some (.int (nI (f 1 ja))), some (.int (nI (f 1 jb))), some (.int (nI (n 0))), none]) rfl (Nat.le_of_ble_eq_true rfl) rfl ?_
                                      refine wn_const (i := 93) (n := 0) rfl rfl ?_
                                      refine wn_istore (i := 94) (ls' := [some (.ref o), some (.int (nI k)), some (.int (nI ja)), some (.int (nI jb)), some (.int (nI 0)), some (.int (nI (f 1 ja))), some (.int (nI (f 1 jb))), some (.int (nI (n 0))), some (.int (nI 0))]) rfl (Nat.le_of_ble_eq_true rfl) rfl ?_
                                      have hsz : (k ≠ 18 → f 1 ja = f 1 jb) ∧ (k = 18 → f 1 ja + f 1 jb ≤ 12) := by constructor <;> intro q <;> omega
                                      have haw : aW k (f 1 ja) (f 1 jb) = 1 := by unfold aW; rw [if_neg c77, if_pos hr]
                                      have hq2 := hQ2 k ja jb hk2 (by omega) rfl hja rfl hjb rfl hsz.1 hsz.2 (by omega)
                                      rw [haw] at hq2
                                      exact l_act2 (n1 := nU n 0 (n 0 + 1)) hB (by omega) (by omega) hja hjb hs1.1 hs1.2 hs2.2 (by omega) (by rw [fU_ne (by simp), fU_same]) (fun q x hx => by rw [hsz.1 (by omega)]; exact hv jb x hjb hx) hn hq2 (2 ^ n 4 + 1) 0 _ _ (Nat.zero_le _) (by show 2 ^ n 4 < _; omega) hX1 (tL.start (by funext j; rw [fU_ne (by simp), fU_ne (by simp)]))
                                  · skip
                                    have hr : ¬ (15 ≤ k ∧ k ≤ 17) := fun e => q0 ⟨nI_le e.1 (by omega), nI_le e.2 (by omega)⟩
                                    show xm_wp sc (d + 2) 1 86 [some (.ref o), some (.int (nI k)), some (.int (nI ja)), some (.int (nI jb)), some (.int (nI 0)), some (.int (nI (f 1 ja))), some (.int (nI (f 1 jb))), none, none] [.int (nI (false).toNat), .ref o] h Q
                                    refine wb_if_eq (i := 86) (b := false) (t' := 89) rfl rfl (fun c86 => ?_) (fun c86 => ?_)
                                    · skip
                                      refine wn_iload (i := 89) rfl rfl ?_
                                      refine wn_const (i := 90) (n := 0) rfl rfl ?_
                                      refine wn_callv (i := 91) (as := [.int (nI (f 1 ja)), .int (nI 0)]) (b := o) (rest := []) (es := [some (.ref o), some (.int (nI (f 1 ja))), some (.int (nI 0))]) rfl rfl rfl rfl rfl (Nat.le_of_ble_eq_true rfl) rfl hX.1.1 rfl ?_
                                      refine m_add hX (by omega) (by omega) (fun h1 hX1 => ?_)
                                      show xm_wp sc (d + 2) 1 92 [some (.ref o), some (.int (nI k)), some (.int (nI ja)), some (.int (nI jb)), some (.int (nI 0)), some (.int (nI (f 1 ja))), some (.int (nI (f 1 jb))), none, none] [.int (nI (n 0))] h1 Q
                                      refine wn_istore (i := 92) (ls' := [some (.ref o), some (.int (nI k)), some (.int (nI ja)), some (.int (nI jb)), some (.int (nI 0)), some (.int (nI (f 1 ja))), some (.int (nI (f 1 jb))), some (.int (nI (n 0))), none]) rfl (Nat.le_of_ble_eq_true rfl) rfl ?_
                                      refine wn_const (i := 93) (n := 0) rfl rfl ?_
                                      refine wn_istore (i := 94) (ls' := [some (.ref o), some (.int (nI k)), some (.int (nI ja)), some (.int (nI jb)), some (.int (nI 0)), some (.int (nI (f 1 ja))), some (.int (nI (f 1 jb))), some (.int (nI (n 0))), some (.int (nI 0))]) rfl (Nat.le_of_ble_eq_true rfl) rfl ?_
                                      have hsz : (k ≠ 18 → f 1 ja = f 1 jb) ∧ (k = 18 → f 1 ja + f 1 jb ≤ 12) := by constructor <;> intro q <;> omega
                                      have haw : aW k (f 1 ja) (f 1 jb) = (f 1 ja) := by unfold aW; rw [if_neg c77, if_neg hr]
                                      have hq2 := hQ2 k ja jb hk2 (by omega) rfl hja rfl hjb rfl hsz.1 hsz.2 (by omega)
                                      rw [haw] at hq2
                                      exact l_act2 (n1 := nU n 0 (n 0 + 1)) hB (by omega) (by omega) hja hjb hs1.1 hs1.2 hs2.2 (by omega) (by rw [fU_ne (by simp), fU_same]) (fun q x hx => by rw [hsz.1 (by omega)]; exact hv jb x hjb hx) hn hq2 (2 ^ n 4 + 1) 0 _ _ (Nat.zero_le _) (by show 2 ^ n 4 < _; omega) hX1 (tL.start (by funext j; rw [fU_ne (by simp), fU_ne (by simp)]))
                                    · cases c86
                                · skip
                                  refine wn_iload (i := 78) rfl rfl ?_
                                  refine wn_iload (i := 79) rfl rfl ?_
                                  refine wn_iadd (i := 80) (a := (f 1 ja)) (b := (f 1 jb)) rfl ?_
                                  refine wn_goto (i := 81) (t' := 90) rfl rfl ?_
                                  refine wn_const (i := 90) (n := 0) rfl rfl ?_
                                  refine wn_callv (i := 91) (as := [.int (nI ((f 1 ja) + (f 1 jb))), .int (nI 0)]) (b := o) (rest := []) (es := [some (.ref o), some (.int (nI ((f 1 ja) + (f 1 jb)))), some (.int (nI 0))]) rfl rfl rfl rfl rfl (Nat.le_of_ble_eq_true rfl) rfl hX.1.1 rfl ?_
                                  refine m_add hX (by omega) (by omega) (fun h1 hX1 => ?_)
                                  show xm_wp sc (d + 2) 1 92 [some (.ref o), some (.int (nI k)), some (.int (nI ja)), some (.int (nI jb)), some (.int (nI 0)), some (.int (nI (f 1 ja))), some (.int (nI (f 1 jb))), none, none] [.int (nI (n 0))] h1 Q
                                  refine wn_istore (i := 92) (ls' := [some (.ref o), some (.int (nI k)), some (.int (nI ja)), some (.int (nI jb)), some (.int (nI 0)), some (.int (nI (f 1 ja))), some (.int (nI (f 1 jb))), some (.int (nI (n 0))), none]) rfl (Nat.le_of_ble_eq_true rfl) rfl ?_
                                  refine wn_const (i := 93) (n := 0) rfl rfl ?_
                                  refine wn_istore (i := 94) (ls' := [some (.ref o), some (.int (nI k)), some (.int (nI ja)), some (.int (nI jb)), some (.int (nI 0)), some (.int (nI (f 1 ja))), some (.int (nI (f 1 jb))), some (.int (nI (n 0))), some (.int (nI 0))]) rfl (Nat.le_of_ble_eq_true rfl) rfl ?_
                                  have hsz : (k ≠ 18 → f 1 ja = f 1 jb) ∧ (k = 18 → f 1 ja + f 1 jb ≤ 12) := by constructor <;> intro q <;> omega
                                  have haw : aW k (f 1 ja) (f 1 jb) = ((f 1 ja) + (f 1 jb)) := by unfold aW; rw [if_pos c77]
                                  have hq2 := hQ2 k ja jb hk2 (by omega) rfl hja rfl hjb rfl hsz.1 hsz.2 (by omega)
                                  rw [haw] at hq2
                                  exact l_act2 (n1 := nU n 0 (n 0 + 1)) hB (by omega) (by omega) hja hjb hs1.1 hs1.2 hs2.2 (by omega) (by rw [fU_ne (by simp), fU_same]) (fun q x hx => by rw [hsz.1 (by omega)]; exact hv jb x hjb hx) hn hq2 (2 ^ n 4 + 1) 0 _ _ (Nat.zero_le _) (by show 2 ^ n 4 < _; omega) hX1 (tL.start (by funext j; rw [fU_ne (by simp), fU_ne (by simp)]))
                              · exact absurd rfl c66
                            · skip
                              refine wn_constI (i := 58) (n := -3) rfl rfl ?_
                              exact wn_ret (i := 59) rfl rfl (hF2 k ja jb hk2 (by omega) rfl hja rfl hjb rfl (fun q => by omega) (fun q => by omega) c57)
                          · skip
                            refine wn_constI (i := 52) (n := -2) rfl rfl ?_
                            exact wn_ret (i := 53) rfl rfl (hBad (fun k' ja' h1 h2 h3 h4 => by first | exact absurd h2 (hin1 _ (Nat.zero_le _) (by omega)) | exact absurd h4 (hno16 _ h3) | (have := (nI_eq (by omega) (by omega)).mp h2; omega)) (fun k' ja' jb' h1 h2 h3 h4 h5 h6 h7 => by first | exact absurd h3 (hin1 _ (Nat.zero_le _) (by omega)) | exact absurd h5 (hno16 _ h4) | exact absurd h7 (hno22 _ h6) | (have e1 := (nI_eq (by omega) (by omega)).mp h3; have e2 := (nI_eq (by omega) (by omega)).mp h5; have e3 := (nI_eq (by omega) (by omega)).mp h7; subst e1; subst e2; subst e3; omega)))
                      · skip
                        refine wn_aload (i := 29) rfl rfl ?_
                        refine wp_get (i := 30) (n := 1) (a := o) (v := .ref (o + 1)) rfl hX.1.1 rfl ?_
                        refine wn_iload (i := 31) rfl rfl ?_
                        refine wm_iald (i := 32) (k := 1) (e := ja) (len := 24) rfl hX (by decide) (by decide) rfl rfl rfl (by omega) (by decide) ?_
                        refine wn_aload (i := 33) rfl rfl ?_
                        refine wp_get (i := 34) (n := 1) (a := o) (v := .ref (o + 1)) rfl hX.1.1 rfl ?_
                        refine wn_iload (i := 35) rfl rfl ?_
                        refine wm_iald (i := 36) (k := 1) (e := jb) (len := 24) rfl hX (by decide) (by decide) rfl rfl rfl (by omega) (by decide) ?_
                        refine wn_ic_ne (i := 37) (a := (f 1 ja)) (b := (f 1 jb)) (t' := 52) rfl rfl (by omega) (by omega) (fun c37 => ?_) (fun c37 => ?_)
                        · skip
                          refine wn_constI (i := 52) (n := -2) rfl rfl ?_
                          exact wn_ret (i := 53) rfl rfl (hBad (fun k' ja' h1 h2 h3 h4 => by first | exact absurd h2 (hin1 _ (Nat.zero_le _) (by omega)) | exact absurd h4 (hno16 _ h3) | (have := (nI_eq (by omega) (by omega)).mp h2; omega)) (fun k' ja' jb' h1 h2 h3 h4 h5 h6 h7 => by first | exact absurd h3 (hin1 _ (Nat.zero_le _) (by omega)) | exact absurd h5 (hno16 _ h4) | exact absurd h7 (hno22 _ h6) | (have e1 := (nI_eq (by omega) (by omega)).mp h3; have e2 := (nI_eq (by omega) (by omega)).mp h5; have e3 := (nI_eq (by omega) (by omega)).mp h7; subst e1; subst e2; subst e3; omega)))
                        · skip
                          refine wn_iload (i := 38) rfl rfl ?_
                          refine wn_const (i := 39) (n := 18) rfl rfl ?_
                          refine wn_ic_ne (i := 40) (a := k) (b := 18) (t' := 54) rfl rfl (by omega) (by omega) (fun c40 => ?_) (fun c40 => ?_)
                          · skip
                            refine wn_aload (i := 54) rfl rfl ?_
                            refine wp_get (i := 55) (n := 0) (a := o) (v := .int (nI (n 0))) rfl hX.1.1 rfl ?_
                            refine wn_const (i := 56) (n := 24) rfl rfl ?_
                            refine wn_ic_ne (i := 57) (a := (n 0)) (b := 24) (t' := 60) rfl rfl (by omega) (by omega) (fun c57 => ?_) (fun c57 => ?_)
                            · skip
                              refine wn_aload (i := 60) rfl rfl ?_
                              refine wp_get (i := 61) (n := 1) (a := o) (v := .ref (o + 1)) rfl hX.1.1 rfl ?_
                              refine wn_iload (i := 62) rfl rfl ?_
                              refine wm_iald (i := 63) (k := 1) (e := ja) (len := 24) rfl hX (by decide) (by decide) rfl rfl rfl (by omega) (by decide) ?_
                              refine wn_istore (i := 64) (ls' := [some (.ref o), some (.int (nI k)), some (.int (nI ja)), some (.int (nI jb)), some (.int (nI 0)), some (.int (nI (f 1 ja))), none, none, none]) rfl (Nat.le_of_ble_eq_true rfl) rfl ?_
                              refine wn_iload (i := 65) rfl rfl ?_
                              refine wn_if_eq (i := 66) (a := 0) (t' := 69) rfl rfl (by omega) (fun c66 => ?_) (fun c66 => ?_)
                              · skip
                                refine wn_aload (i := 69) rfl rfl ?_
                                refine wp_get (i := 70) (n := 1) (a := o) (v := .ref (o + 1)) rfl hX.1.1 rfl ?_
                                refine wn_iload (i := 71) rfl rfl ?_
                                refine wm_iald (i := 72) (k := 1) (e := jb) (len := 24) rfl hX (by decide) (by decide) rfl rfl rfl (by omega) (by decide) ?_
                                refine wn_istore (i := 73) (ls' := [some (.ref o), some (.int (nI k)), some (.int (nI ja)), some (.int (nI jb)), some (.int (nI 0)), some (.int (nI (f 1 ja))), some (.int (nI (f 1 jb))), none, none]) rfl (Nat.le_of_ble_eq_true rfl) rfl ?_
                                refine wn_aload (i := 74) rfl rfl ?_
                                refine wn_iload (i := 75) rfl rfl ?_
                                refine wn_const (i := 76) (n := 18) rfl rfl ?_
                                refine wn_ic_ne (i := 77) (a := k) (b := 18) (t' := 82) rfl rfl (by omega) (by omega) (fun c77 => ?_) (fun c77 => ?_)
                                · skip
                                  refine wn_iload (i := 82) rfl rfl ?_
                                  refine wn_const (i := 83) (n := 15) rfl rfl ?_
                                  refine wn_const (i := 84) (n := 17) rfl rfl ?_
                                  refine wn_calls (i := 85) (as := [.int (nI k), .int (nI 15), .int (nI 17)]) (rest := [.ref o]) (es := [some (.int (nI k)), some (.int (nI 15)), some (.int (nI 17))]) rfl rfl (by decide) rfl rfl rfl (Nat.le_of_ble_eq_true rfl) rfl rfl ?_
                                  refine m_isIn (fun q1 q2 => ?_) (fun q0 => ?_)
                                  · skip
                                    have hr : 15 ≤ k ∧ k ≤ 17 := ⟨(nI_leI (by omega) (by omega)).mp q1, (nI_leI (by omega) (by omega)).mp q2⟩
                                    show xm_wp sc (d + 2) 1 86 [some (.ref o), some (.int (nI k)), some (.int (nI ja)), some (.int (nI jb)), some (.int (nI 0)), some (.int (nI (f 1 ja))), some (.int (nI (f 1 jb))), none, none] [.int (nI (true).toNat), .ref o] h Q
                                    refine wb_if_eq (i := 86) (b := true) (t' := 89) rfl rfl (fun c86 => ?_) (fun c86 => ?_)
                                    · cases c86
                                    · skip
                                      refine wn_const (i := 87) (n := 1) rfl rfl ?_
                                      refine wn_goto (i := 88) (t' := 90) rfl rfl ?_
                                      refine wn_const (i := 90) (n := 0) rfl rfl ?_
                                      refine wn_callv (i := 91) (as := [.int (nI 1), .int (nI 0)]) (b := o) (rest := []) (es := [some (.ref o), some (.int (nI 1)), some (.int (nI 0))]) rfl rfl rfl rfl rfl (Nat.le_of_ble_eq_true rfl) rfl hX.1.1 rfl ?_
                                      refine m_add hX (by omega) (by omega) (fun h1 hX1 => ?_)
                                      show xm_wp sc (d + 2) 1 92 [some (.ref o), some (.int (nI k)), some (.int (nI ja)), some (.int (nI jb)), some (.int (nI 0)), some (.int (nI (f 1 ja))), some (.int (nI (f 1 jb))), none, none] [.int (nI (n 0))] h1 Q
                                      refine wn_istore (i := 92) (ls' := [some (.ref o), some (.int (nI k)), some (.int (nI ja)), some (.int (nI jb)), some (.int (nI 0)), some (.int (nI (f 1 ja))), some (.int (nI (f 1 jb))), some (.int (nI (n 0))), none]) rfl (Nat.le_of_ble_eq_true rfl) rfl ?_
                                      refine wn_const (i := 93) (n := 0) rfl rfl ?_
                                      refine wn_istore (i := 94) (ls' := [some (.ref o), some (.int (nI k)), some (.int (nI ja)), some (.int (nI jb)), some (.int (nI 0)), some (.int (nI (f 1 ja))), some (.int (nI (f 1 jb))), some (.int (nI (n 0))), some (.int (nI 0))]) rfl (Nat.le_of_ble_eq_true rfl) rfl ?_
                                      have hsz : (k ≠ 18 → f 1 ja = f 1 jb) ∧ (k = 18 → f 1 ja + f 1 jb ≤ 12) := by constructor <;> intro q <;> omega
                                      have haw : aW k (f 1 ja) (f 1 jb) = 1 := by unfold aW; rw [if_neg c77, if_pos hr]
                                      have hq2 := hQ2 k ja jb hk2 (by omega) rfl hja rfl hjb rfl hsz.1 hsz.2 (by omega)
                                      rw [haw] at hq2
                                      exact l_act2 (n1 := nU n 0 (n 0 + 1)) hB (by omega) (by omega) hja hjb hs1.1 hs1.2 hs2.2 (by omega) (by rw [fU_ne (by simp), fU_same]) (fun q x hx => by rw [hsz.1 (by omega)]; exact hv jb x hjb hx) hn hq2 (2 ^ n 4 + 1) 0 _ _ (Nat.zero_le _) (by show 2 ^ n 4 < _; omega) hX1 (tL.start (by funext j; rw [fU_ne (by simp), fU_ne (by simp)]))
                                  · skip
                                    have hr : ¬ (15 ≤ k ∧ k ≤ 17) := fun e => q0 ⟨nI_le e.1 (by omega), nI_le e.2 (by omega)⟩
                                    show xm_wp sc (d + 2) 1 86 [some (.ref o), some (.int (nI k)), some (.int (nI ja)), some (.int (nI jb)), some (.int (nI 0)), some (.int (nI (f 1 ja))), some (.int (nI (f 1 jb))), none, none] [.int (nI (false).toNat), .ref o] h Q
                                    refine wb_if_eq (i := 86) (b := false) (t' := 89) rfl rfl (fun c86 => ?_) (fun c86 => ?_)
                                    · skip
                                      refine wn_iload (i := 89) rfl rfl ?_
                                      refine wn_const (i := 90) (n := 0) rfl rfl ?_
                                      refine wn_callv (i := 91) (as := [.int (nI (f 1 ja)), .int (nI 0)]) (b := o) (rest := []) (es := [some (.ref o), some (.int (nI (f 1 ja))), some (.int (nI 0))]) rfl rfl rfl rfl rfl (Nat.le_of_ble_eq_true rfl) rfl hX.1.1 rfl ?_
                                      refine m_add hX (by omega) (by omega) (fun h1 hX1 => ?_)
                                      show xm_wp sc (d + 2) 1 92 [some (.ref o), some (.int (nI k)), some (.int (nI ja)), some (.int (nI jb)), some (.int (nI 0)), some (.int (nI (f 1 ja))), some (.int (nI (f 1 jb))), none, none] [.int (nI (n 0))] h1 Q
                                      refine wn_istore (i := 92) (ls' := [some (.ref o), some (.int (nI k)), some (.int (nI ja)), some (.int (nI jb)), some (.int (nI 0)), some (.int (nI (f 1 ja))), some (.int (nI (f 1 jb))), some (.int (nI (n 0))), none]) rfl (Nat.le_of_ble_eq_true rfl) rfl ?_
                                      refine wn_const (i := 93) (n := 0) rfl rfl ?_
                                      refine wn_istore (i := 94) (ls' := [some (.ref o), some (.int (nI k)), some (.int (nI ja)), some (.int (nI jb)), some (.int (nI 0)), some (.int (nI (f 1 ja))), some (.int (nI (f 1 jb))), some (.int (nI (n 0))), some (.int (nI 0))]) rfl (Nat.le_of_ble_eq_true rfl) rfl ?_
                                      have hsz : (k ≠ 18 → f 1 ja = f 1 jb) ∧ (k = 18 → f 1 ja + f 1 jb ≤ 12) := by constructor <;> intro q <;> omega
                                      have haw : aW k (f 1 ja) (f 1 jb) = (f 1 ja) := by unfold aW; rw [if_neg c77, if_neg hr]
                                      have hq2 := hQ2 k ja jb hk2 (by omega) rfl hja rfl hjb rfl hsz.1 hsz.2 (by omega)
                                      rw [haw] at hq2
                                      exact l_act2 (n1 := nU n 0 (n 0 + 1)) hB (by omega) (by omega) hja hjb hs1.1 hs1.2 hs2.2 (by omega) (by rw [fU_ne (by simp), fU_same]) (fun q x hx => by rw [hsz.1 (by omega)]; exact hv jb x hjb hx) hn hq2 (2 ^ n 4 + 1) 0 _ _ (Nat.zero_le _) (by show 2 ^ n 4 < _; omega) hX1 (tL.start (by funext j; rw [fU_ne (by simp), fU_ne (by simp)]))
                                    · cases c86
                                · skip
                                  refine wn_iload (i := 78) rfl rfl ?_
                                  refine wn_iload (i := 79) rfl rfl ?_
                                  refine wn_iadd (i := 80) (a := (f 1 ja)) (b := (f 1 jb)) rfl ?_
                                  refine wn_goto (i := 81) (t' := 90) rfl rfl ?_
                                  refine wn_const (i := 90) (n := 0) rfl rfl ?_
                                  refine wn_callv (i := 91) (as := [.int (nI ((f 1 ja) + (f 1 jb))), .int (nI 0)]) (b := o) (rest := []) (es := [some (.ref o), some (.int (nI ((f 1 ja) + (f 1 jb)))), some (.int (nI 0))]) rfl rfl rfl rfl rfl (Nat.le_of_ble_eq_true rfl) rfl hX.1.1 rfl ?_
                                  refine m_add hX (by omega) (by omega) (fun h1 hX1 => ?_)
                                  show xm_wp sc (d + 2) 1 92 [some (.ref o), some (.int (nI k)), some (.int (nI ja)), some (.int (nI jb)), some (.int (nI 0)), some (.int (nI (f 1 ja))), some (.int (nI (f 1 jb))), none, none] [.int (nI (n 0))] h1 Q
                                  refine wn_istore (i := 92) (ls' := [some (.ref o), some (.int (nI k)), some (.int (nI ja)), some (.int (nI jb)), some (.int (nI 0)), some (.int (nI (f 1 ja))), some (.int (nI (f 1 jb))), some (.int (nI (n 0))), none]) rfl (Nat.le_of_ble_eq_true rfl) rfl ?_
                                  refine wn_const (i := 93) (n := 0) rfl rfl ?_
                                  refine wn_istore (i := 94) (ls' := [some (.ref o), some (.int (nI k)), some (.int (nI ja)), some (.int (nI jb)), some (.int (nI 0)), some (.int (nI (f 1 ja))), some (.int (nI (f 1 jb))), some (.int (nI (n 0))), some (.int (nI 0))]) rfl (Nat.le_of_ble_eq_true rfl) rfl ?_
                                  have hsz : (k ≠ 18 → f 1 ja = f 1 jb) ∧ (k = 18 → f 1 ja + f 1 jb ≤ 12) := by constructor <;> intro q <;> omega
                                  have haw : aW k (f 1 ja) (f 1 jb) = ((f 1 ja) + (f 1 jb)) := by unfold aW; rw [if_pos c77]
                                  have hq2 := hQ2 k ja jb hk2 (by omega) rfl hja rfl hjb rfl hsz.1 hsz.2 (by omega)
                                  rw [haw] at hq2
                                  exact l_act2 (n1 := nU n 0 (n 0 + 1)) hB (by omega) (by omega) hja hjb hs1.1 hs1.2 hs2.2 (by omega) (by rw [fU_ne (by simp), fU_same]) (fun q x hx => by rw [hsz.1 (by omega)]; exact hv jb x hjb hx) hn hq2 (2 ^ n 4 + 1) 0 _ _ (Nat.zero_le _) (by show 2 ^ n 4 < _; omega) hX1 (tL.start (by funext j; rw [fU_ne (by simp), fU_ne (by simp)]))
                              · exact absurd rfl c66
                            · skip
                              refine wn_constI (i := 58) (n := -3) rfl rfl ?_
                              exact wn_ret (i := 59) rfl rfl (hF2 k ja jb hk2 (by omega) rfl hja rfl hjb rfl (fun q => by omega) (fun q => by omega) c57)
                          · skip
                            refine wn_aload (i := 41) rfl rfl ?_
                            refine wp_get (i := 42) (n := 1) (a := o) (v := .ref (o + 1)) rfl hX.1.1 rfl ?_
                            refine wn_iload (i := 43) rfl rfl ?_
                            refine wm_iald (i := 44) (k := 1) (e := ja) (len := 24) rfl hX (by decide) (by decide) rfl rfl rfl (by omega) (by decide) ?_
                            refine wn_aload (i := 45) rfl rfl ?_
                            refine wp_get (i := 46) (n := 1) (a := o) (v := .ref (o + 1)) rfl hX.1.1 rfl ?_
                            refine wn_iload (i := 47) rfl rfl ?_
                            refine wm_iald (i := 48) (k := 1) (e := jb) (len := 24) rfl hX (by decide) (by decide) rfl rfl rfl (by omega) (by decide) ?_
                            refine wn_iadd (i := 49) (a := (f 1 ja)) (b := (f 1 jb)) rfl ?_
                            refine wn_const (i := 50) (n := 12) rfl rfl ?_
                            refine wn_ic_le (i := 51) (a := ((f 1 ja) + (f 1 jb))) (b := 12) (t' := 54) rfl rfl (by omega) (by omega) (fun c51 => ?_) (fun c51 => ?_)
                            · skip
                              refine wn_aload (i := 54) rfl rfl ?_
                              refine wp_get (i := 55) (n := 0) (a := o) (v := .int (nI (n 0))) rfl hX.1.1 rfl ?_
                              refine wn_const (i := 56) (n := 24) rfl rfl ?_
                              refine wn_ic_ne (i := 57) (a := (n 0)) (b := 24) (t' := 60) rfl rfl (by omega) (by omega) (fun c57 => ?_) (fun c57 => ?_)
                              · skip
                                refine wn_aload (i := 60) rfl rfl ?_
                                refine wp_get (i := 61) (n := 1) (a := o) (v := .ref (o + 1)) rfl hX.1.1 rfl ?_
                                refine wn_iload (i := 62) rfl rfl ?_
                                refine wm_iald (i := 63) (k := 1) (e := ja) (len := 24) rfl hX (by decide) (by decide) rfl rfl rfl (by omega) (by decide) ?_
                                refine wn_istore (i := 64) (ls' := [some (.ref o), some (.int (nI k)), some (.int (nI ja)), some (.int (nI jb)), some (.int (nI 0)), some (.int (nI (f 1 ja))), none, none, none]) rfl (Nat.le_of_ble_eq_true rfl) rfl ?_
                                refine wn_iload (i := 65) rfl rfl ?_
                                refine wn_if_eq (i := 66) (a := 0) (t' := 69) rfl rfl (by omega) (fun c66 => ?_) (fun c66 => ?_)
                                · skip
                                  refine wn_aload (i := 69) rfl rfl ?_
                                  refine wp_get (i := 70) (n := 1) (a := o) (v := .ref (o + 1)) rfl hX.1.1 rfl ?_
                                  refine wn_iload (i := 71) rfl rfl ?_
                                  refine wm_iald (i := 72) (k := 1) (e := jb) (len := 24) rfl hX (by decide) (by decide) rfl rfl rfl (by omega) (by decide) ?_
                                  refine wn_istore (i := 73) (ls' := [some (.ref o), some (.int (nI k)), some (.int (nI ja)), some (.int (nI jb)), some (.int (nI 0)), some (.int (nI (f 1 ja))), some (.int (nI (f 1 jb))), none, none]) rfl (Nat.le_of_ble_eq_true rfl) rfl ?_
                                  refine wn_aload (i := 74) rfl rfl ?_
                                  refine wn_iload (i := 75) rfl rfl ?_
                                  refine wn_const (i := 76) (n := 18) rfl rfl ?_
                                  refine wn_ic_ne (i := 77) (a := k) (b := 18) (t' := 82) rfl rfl (by omega) (by omega) (fun c77 => ?_) (fun c77 => ?_)
                                  · skip
                                    refine wn_iload (i := 82) rfl rfl ?_
                                    refine wn_const (i := 83) (n := 15) rfl rfl ?_
                                    refine wn_const (i := 84) (n := 17) rfl rfl ?_
                                    refine wn_calls (i := 85) (as := [.int (nI k), .int (nI 15), .int (nI 17)]) (rest := [.ref o]) (es := [some (.int (nI k)), some (.int (nI 15)), some (.int (nI 17))]) rfl rfl (by decide) rfl rfl rfl (Nat.le_of_ble_eq_true rfl) rfl rfl ?_
                                    refine m_isIn (fun q1 q2 => ?_) (fun q0 => ?_)
                                    · skip
                                      have hr : 15 ≤ k ∧ k ≤ 17 := ⟨(nI_leI (by omega) (by omega)).mp q1, (nI_leI (by omega) (by omega)).mp q2⟩
                                      show xm_wp sc (d + 2) 1 86 [some (.ref o), some (.int (nI k)), some (.int (nI ja)), some (.int (nI jb)), some (.int (nI 0)), some (.int (nI (f 1 ja))), some (.int (nI (f 1 jb))), none, none] [.int (nI (true).toNat), .ref o] h Q
                                      refine wb_if_eq (i := 86) (b := true) (t' := 89) rfl rfl (fun c86 => ?_) (fun c86 => ?_)
                                      · cases c86
                                      · skip
                                        refine wn_const (i := 87) (n := 1) rfl rfl ?_
                                        refine wn_goto (i := 88) (t' := 90) rfl rfl ?_
                                        refine wn_const (i := 90) (n := 0) rfl rfl ?_
                                        refine wn_callv (i := 91) (as := [.int (nI 1), .int (nI 0)]) (b := o) (rest := []) (es := [some (.ref o), some (.int (nI 1)), some (.int (nI 0))]) rfl rfl rfl rfl rfl (Nat.le_of_ble_eq_true rfl) rfl hX.1.1 rfl ?_
                                        refine m_add hX (by omega) (by omega) (fun h1 hX1 => ?_)
                                        show xm_wp sc (d + 2) 1 92 [some (.ref o), some (.int (nI k)), some (.int (nI ja)), some (.int (nI jb)), some (.int (nI 0)), some (.int (nI (f 1 ja))), some (.int (nI (f 1 jb))), none, none] [.int (nI (n 0))] h1 Q
                                        refine wn_istore (i := 92) (ls' := [some (.ref o), some (.int (nI k)), some (.int (nI ja)), some (.int (nI jb)), some (.int (nI 0)), some (.int (nI (f 1 ja))), some (.int (nI (f 1 jb))), some (.int (nI (n 0))), none]) rfl (Nat.le_of_ble_eq_true rfl) rfl ?_
                                        refine wn_const (i := 93) (n := 0) rfl rfl ?_
                                        refine wn_istore (i := 94) (ls' := [some (.ref o), some (.int (nI k)), some (.int (nI ja)), some (.int (nI jb)), some (.int (nI 0)), some (.int (nI (f 1 ja))), some (.int (nI (f 1 jb))), some (.int (nI (n 0))), some (.int (nI 0))]) rfl (Nat.le_of_ble_eq_true rfl) rfl ?_
                                        have hsz : (k ≠ 18 → f 1 ja = f 1 jb) ∧ (k = 18 → f 1 ja + f 1 jb ≤ 12) := by constructor <;> intro q <;> omega
                                        have haw : aW k (f 1 ja) (f 1 jb) = 1 := by unfold aW; rw [if_neg c77, if_pos hr]
                                        have hq2 := hQ2 k ja jb hk2 (by omega) rfl hja rfl hjb rfl hsz.1 hsz.2 (by omega)
                                        rw [haw] at hq2
                                        exact l_act2 (n1 := nU n 0 (n 0 + 1)) hB (by omega) (by omega) hja hjb hs1.1 hs1.2 hs2.2 (by omega) (by rw [fU_ne (by simp), fU_same]) (fun q x hx => by rw [hsz.1 (by omega)]; exact hv jb x hjb hx) hn hq2 (2 ^ n 4 + 1) 0 _ _ (Nat.zero_le _) (by show 2 ^ n 4 < _; omega) hX1 (tL.start (by funext j; rw [fU_ne (by simp), fU_ne (by simp)]))
                                    · skip
                                      have hr : ¬ (15 ≤ k ∧ k ≤ 17) := fun e => q0 ⟨nI_le e.1 (by omega), nI_le e.2 (by omega)⟩
                                      show xm_wp sc (d + 2) 1 86 [some (.ref o), some (.int (nI k)), some (.int (nI ja)), some (.int (nI jb)), some (.int (nI 0)), some (.int (nI (f 1 ja))), some (.int (nI (f 1 jb))), none, none] [.int (nI (false).toNat), .ref o] h Q
                                      refine wb_if_eq (i := 86) (b := false) (t' := 89) rfl rfl (fun c86 => ?_) (fun c86 => ?_)
                                      · skip
                                        refine wn_iload (i := 89) rfl rfl ?_
                                        refine wn_const (i := 90) (n := 0) rfl rfl ?_
                                        refine wn_callv (i := 91) (as := [.int (nI (f 1 ja)), .int (nI 0)]) (b := o) (rest := []) (es := [some (.ref o), some (.int (nI (f 1 ja))), some (.int (nI 0))]) rfl rfl rfl rfl rfl (Nat.le_of_ble_eq_true rfl) rfl hX.1.1 rfl ?_
                                        refine m_add hX (by omega) (by omega) (fun h1 hX1 => ?_)
                                        show xm_wp sc (d + 2) 1 92 [some (.ref o), some (.int (nI k)), some (.int (nI ja)), some (.int (nI jb)), some (.int (nI 0)), some (.int (nI (f 1 ja))), some (.int (nI (f 1 jb))), none, none] [.int (nI (n 0))] h1 Q
                                        refine wn_istore (i := 92) (ls' := [some (.ref o), some (.int (nI k)), some (.int (nI ja)), some (.int (nI jb)), some (.int (nI 0)), some (.int (nI (f 1 ja))), some (.int (nI (f 1 jb))), some (.int (nI (n 0))), none]) rfl (Nat.le_of_ble_eq_true rfl) rfl ?_
                                        refine wn_const (i := 93) (n := 0) rfl rfl ?_
                                        refine wn_istore (i := 94) (ls' := [some (.ref o), some (.int (nI k)), some (.int (nI ja)), some (.int (nI jb)), some (.int (nI 0)), some (.int (nI (f 1 ja))), some (.int (nI (f 1 jb))), some (.int (nI (n 0))), some (.int (nI 0))]) rfl (Nat.le_of_ble_eq_true rfl) rfl ?_
                                        have hsz : (k ≠ 18 → f 1 ja = f 1 jb) ∧ (k = 18 → f 1 ja + f 1 jb ≤ 12) := by constructor <;> intro q <;> omega
                                        have haw : aW k (f 1 ja) (f 1 jb) = (f 1 ja) := by unfold aW; rw [if_neg c77, if_neg hr]
                                        have hq2 := hQ2 k ja jb hk2 (by omega) rfl hja rfl hjb rfl hsz.1 hsz.2 (by omega)
                                        rw [haw] at hq2
                                        exact l_act2 (n1 := nU n 0 (n 0 + 1)) hB (by omega) (by omega) hja hjb hs1.1 hs1.2 hs2.2 (by omega) (by rw [fU_ne (by simp), fU_same]) (fun q x hx => by rw [hsz.1 (by omega)]; exact hv jb x hjb hx) hn hq2 (2 ^ n 4 + 1) 0 _ _ (Nat.zero_le _) (by show 2 ^ n 4 < _; omega) hX1 (tL.start (by funext j; rw [fU_ne (by simp), fU_ne (by simp)]))
                                      · cases c86
                                  · skip
                                    refine wn_iload (i := 78) rfl rfl ?_
                                    refine wn_iload (i := 79) rfl rfl ?_
                                    refine wn_iadd (i := 80) (a := (f 1 ja)) (b := (f 1 jb)) rfl ?_
                                    refine wn_goto (i := 81) (t' := 90) rfl rfl ?_
                                    refine wn_const (i := 90) (n := 0) rfl rfl ?_
                                    refine wn_callv (i := 91) (as := [.int (nI ((f 1 ja) + (f 1 jb))), .int (nI 0)]) (b := o) (rest := []) (es := [some (.ref o), some (.int (nI ((f 1 ja) + (f 1 jb)))), some (.int (nI 0))]) rfl rfl rfl rfl rfl (Nat.le_of_ble_eq_true rfl) rfl hX.1.1 rfl ?_
                                    refine m_add hX (by omega) (by omega) (fun h1 hX1 => ?_)
                                    show xm_wp sc (d + 2) 1 92 [some (.ref o), some (.int (nI k)), some (.int (nI ja)), some (.int (nI jb)), some (.int (nI 0)), some (.int (nI (f 1 ja))), some (.int (nI (f 1 jb))), none, none] [.int (nI (n 0))] h1 Q
                                    refine wn_istore (i := 92) (ls' := [some (.ref o), some (.int (nI k)), some (.int (nI ja)), some (.int (nI jb)), some (.int (nI 0)), some (.int (nI (f 1 ja))), some (.int (nI (f 1 jb))), some (.int (nI (n 0))), none]) rfl (Nat.le_of_ble_eq_true rfl) rfl ?_
                                    refine wn_const (i := 93) (n := 0) rfl rfl ?_
                                    refine wn_istore (i := 94) (ls' := [some (.ref o), some (.int (nI k)), some (.int (nI ja)), some (.int (nI jb)), some (.int (nI 0)), some (.int (nI (f 1 ja))), some (.int (nI (f 1 jb))), some (.int (nI (n 0))), some (.int (nI 0))]) rfl (Nat.le_of_ble_eq_true rfl) rfl ?_
                                    have hsz : (k ≠ 18 → f 1 ja = f 1 jb) ∧ (k = 18 → f 1 ja + f 1 jb ≤ 12) := by constructor <;> intro q <;> omega
                                    have haw : aW k (f 1 ja) (f 1 jb) = ((f 1 ja) + (f 1 jb)) := by unfold aW; rw [if_pos c77]
                                    have hq2 := hQ2 k ja jb hk2 (by omega) rfl hja rfl hjb rfl hsz.1 hsz.2 (by omega)
                                    rw [haw] at hq2
                                    exact l_act2 (n1 := nU n 0 (n 0 + 1)) hB (by omega) (by omega) hja hjb hs1.1 hs1.2 hs2.2 (by omega) (by rw [fU_ne (by simp), fU_same]) (fun q x hx => by rw [hsz.1 (by omega)]; exact hv jb x hjb hx) hn hq2 (2 ^ n 4 + 1) 0 _ _ (Nat.zero_le _) (by show 2 ^ n 4 < _; omega) hX1 (tL.start (by funext j; rw [fU_ne (by simp), fU_ne (by simp)]))
                                · exact absurd rfl c66
                              · skip
                                refine wn_constI (i := 58) (n := -3) rfl rfl ?_
                                exact wn_ret (i := 59) rfl rfl (hF2 k ja jb hk2 (by omega) rfl hja rfl hjb rfl (fun q => by omega) (fun q => by omega) c57)
                            · skip
                              refine wn_constI (i := 52) (n := -2) rfl rfl ?_
                              exact wn_ret (i := 53) rfl rfl (hBad (fun k' ja' h1 h2 h3 h4 => by first | exact absurd h2 (hin1 _ (Nat.zero_le _) (by omega)) | exact absurd h4 (hno16 _ h3) | (have := (nI_eq (by omega) (by omega)).mp h2; omega)) (fun k' ja' jb' h1 h2 h3 h4 h5 h6 h7 => by first | exact absurd h3 (hin1 _ (Nat.zero_le _) (by omega)) | exact absurd h5 (hno16 _ h4) | exact absurd h7 (hno22 _ h6) | (have e1 := (nI_eq (by omega) (by omega)).mp h3; have e2 := (nI_eq (by omega) (by omega)).mp h5; have e3 := (nI_eq (by omega) (by omega)).mp h7; subst e1; subst e2; subst e3; omega)))
                · skip
                  show xm_wp sc (d + 2) 1 23 [some (.ref o), some (.int (nI k)), some (.int (nI ja)), some (.int b), some (.int (nI 0)), none, none, none, none] [.int (nI (false).toNat)] h Q
                  refine wb_if_eq (i := 23) (b := false) (t' := 52) rfl rfl (fun c23 => ?_) (fun c23 => ?_)
                  · skip
                    refine wn_constI (i := 52) (n := -2) rfl rfl ?_
                    exact wn_ret (i := 53) rfl rfl (hBad (fun k' ja' h1 h2 h3 h4 => by first | exact absurd h2 (hin1 _ (Nat.zero_le _) (by omega)) | exact absurd h4 (hno16 _ h3) | (have := (nI_eq (by omega) (by omega)).mp h2; omega)) (fun k' ja' jb' h1 h2 h3 h4 h5 h6 h7 => by first | exact absurd h3 (hin1 _ (Nat.zero_le _) (by omega)) | exact absurd h5 (hno16 _ h4) | exact absurd h7 (hno22 _ h6) | (have e1 := (nI_eq (by omega) (by omega)).mp h3; have e2 := (nI_eq (by omega) (by omega)).mp h5; have e3 := (nI_eq (by omega) (by omega)).mp h7; subst e1; subst e2; subst e3; omega)))
                  · cases c23
          · skip
            show xm_wp sc (d + 2) 1 17 [some (.ref o), some (.int (nI k)), some (.int a), some (.int b), some (.int (nI 0)), none, none, none, none] [.int (nI (false).toNat)] h Q
            refine wb_if_eq (i := 17) (b := false) (t' := 52) rfl rfl (fun c17 => ?_) (fun c17 => ?_)
            · skip
              refine wn_constI (i := 52) (n := -2) rfl rfl ?_
              exact wn_ret (i := 53) rfl rfl (hBad (fun k' ja' h1 h2 h3 h4 => by first | exact absurd h2 (hin1 _ (Nat.zero_le _) (by omega)) | exact absurd h4 (hno16 _ h3) | (have := (nI_eq (by omega) (by omega)).mp h2; omega)) (fun k' ja' jb' h1 h2 h3 h4 h5 h6 h7 => by first | exact absurd h3 (hin1 _ (Nat.zero_le _) (by omega)) | exact absurd h5 (hno16 _ h4) | exact absurd h7 (hno22 _ h6) | (have e1 := (nI_eq (by omega) (by omega)).mp h3; have e2 := (nI_eq (by omega) (by omega)).mp h5; have e3 := (nI_eq (by omega) (by omega)).mp h7; subst e1; subst e2; subst e3; omega)))
            · cases c17
      · skip
        have hin1 : ∀ z_, 0 ≤ z_ → z_ ≤ 19 → kd ≠ nI z_ := xn_notIn2 (by omega) (by omega) q0
        show xm_wp sc (d + 2) 1 13 [some (.ref o), some (.int kd), some (.int a), some (.int b), some (.int (nI 0)), none, none, none, none] [.int (nI (false).toNat)] h Q
        refine wb_if_eq (i := 13) (b := false) (t' := 52) rfl rfl (fun c13 => ?_) (fun c13 => ?_)
        · skip
          refine wn_constI (i := 52) (n := -2) rfl rfl ?_
          exact wn_ret (i := 53) rfl rfl (hBad (fun k' ja' h1 h2 h3 h4 => by first | exact absurd h2 (hin1 _ (Nat.zero_le _) (by omega)) | exact absurd h4 (hno16 _ h3) | (have := (nI_eq (by omega) (by omega)).mp h2; omega)) (fun k' ja' jb' h1 h2 h3 h4 h5 h6 h7 => by first | exact absurd h3 (hin1 _ (Nat.zero_le _) (by omega)) | exact absurd h5 (hno16 _ h4) | exact absurd h7 (hno22 _ h6) | (have e1 := (nI_eq (by omega) (by omega)).mp h3; have e2 := (nI_eq (by omega) (by omega)).mp h5; have e3 := (nI_eq (by omega) (by omega)).mp h7; subst e1; subst e2; subst e3; omega)))
        · cases c13
    · skip
      refine wn_const (i := 5) (n := 1) rfl rfl ?_
      refine wn_goto (i := 6) (t' := 8) rfl rfl ?_
      refine wn_istore (i := 8) (ls' := [some (.ref o), some (.int kd), some (.int a), some (.int b), some (.int (nI 1)), none, none, none, none]) rfl (Nat.le_of_ble_eq_true rfl) rfl ?_
      refine wn_iload (i := 9) rfl rfl ?_
      refine wn_const (i := 10) (n := 0) rfl rfl ?_
      refine wn_const (i := 11) (n := 19) rfl rfl ?_
      refine wn_calls (i := 12) (as := [.int kd, .int (nI 0), .int (nI 19)]) (rest := []) (es := [some (.int kd), some (.int (nI 0)), some (.int (nI 19))]) rfl rfl (by decide) rfl rfl rfl (Nat.le_of_ble_eq_true rfl) rfl rfl ?_
      refine m_isIn (fun q1 q2 => ?_) (fun q0 => ?_)
      · skip
        obtain ⟨k, hk1, hk2, rfl⟩ := xn_isIn2 (by omega) (by omega) q1 q2
        show xm_wp sc (d + 2) 1 13 [some (.ref o), some (.int (nI k)), some (.int a), some (.int b), some (.int (nI 1)), none, none, none, none] [.int (nI (true).toNat)] h Q
        refine wb_if_eq (i := 13) (b := true) (t' := 52) rfl rfl (fun c13 => ?_) (fun c13 => ?_)
        · cases c13
        · skip
          have hk1 : k < 2 := by first | (have := (nI_eq (b := 0) (by omega) (by omega)).mp c1; omega) | (have := (nI_eq (by omega) (by omega)).mp c4; omega)
          refine wn_aload (i := 14) rfl rfl ?_
          refine wn_iload (i := 15) rfl rfl ?_
          refine wn_callv (i := 16) (as := [.int a]) (b := o) (rest := []) (es := [some (.ref o), some (.int a)]) rfl rfl rfl rfl rfl (Nat.le_of_ble_eq_true rfl) rfl hX.1.1 rfl ?_
          refine m_has hX hT (fun ja hja eja => ?_) (fun hno16 => ?_)
          · skip
            subst eja
            show xm_wp sc (d + 2) 1 17 [some (.ref o), some (.int (nI k)), some (.int (nI ja)), some (.int b), some (.int (nI 1)), none, none, none, none] [.int (nI (true).toNat)] h Q
            refine wb_if_eq (i := 17) (b := true) (t' := 52) rfl rfl (fun c17 => ?_) (fun c17 => ?_)
            · cases c17
            · skip
              have hs1 := hs ja hja
              refine wn_iload (i := 18) rfl rfl ?_
              refine wn_if_ne (i := 19) (a := 1) (t' := 24) rfl rfl (by omega) (fun c19 => ?_) (fun c19 => ?_)
              · skip
                refine wn_iload (i := 24) rfl rfl ?_
                refine wn_if_ne (i := 25) (a := 1) (t' := 38) rfl rfl (by omega) (fun c25 => ?_) (fun c25 => ?_)
                · skip
                  refine wn_iload (i := 38) rfl rfl ?_
                  refine wn_const (i := 39) (n := 18) rfl rfl ?_
                  refine wn_ic_ne (i := 40) (a := k) (b := 18) (t' := 54) rfl rfl (by omega) (by omega) (fun c40 => ?_) (fun c40 => absurd c40 (by omega))
                  refine wn_aload (i := 54) rfl rfl ?_
                  refine wp_get (i := 55) (n := 0) (a := o) (v := .int (nI (n 0))) rfl hX.1.1 rfl ?_
                  refine wn_const (i := 56) (n := 24) rfl rfl ?_
                  refine wn_ic_ne (i := 57) (a := (n 0)) (b := 24) (t' := 60) rfl rfl (by omega) (by omega) (fun c57 => ?_) (fun c57 => ?_)
                  · skip
                    refine wn_aload (i := 60) rfl rfl ?_
                    refine wp_get (i := 61) (n := 1) (a := o) (v := .ref (o + 1)) rfl hX.1.1 rfl ?_
                    refine wn_iload (i := 62) rfl rfl ?_
                    refine wm_iald (i := 63) (k := 1) (e := ja) (len := 24) rfl hX (by decide) (by decide) rfl rfl rfl (by omega) (by decide) ?_
                    refine wn_istore (i := 64) (ls' := [some (.ref o), some (.int (nI k)), some (.int (nI ja)), some (.int b), some (.int (nI 1)), some (.int (nI (f 1 ja))), none, none, none]) rfl (Nat.le_of_ble_eq_true rfl) rfl ?_
                    refine wn_iload (i := 65) rfl rfl ?_
                    refine wn_if_eq (i := 66) (a := 1) (t' := 69) rfl rfl (by omega) (fun c66 => ?_) (fun c66 => ?_)
                    · exact absurd c66 (by decide)
                    · skip
                      refine wn_iload (i := 67) rfl rfl ?_
                      refine wn_goto (i := 68) (t' := 73) rfl rfl ?_
                      refine wn_istore (i := 73) (ls' := [some (.ref o), some (.int (nI k)), some (.int (nI ja)), some (.int b), some (.int (nI 1)), some (.int (nI (f 1 ja))), some (.int (nI (f 1 ja))), none, none]) rfl (Nat.le_of_ble_eq_true rfl) rfl ?_
                      refine wn_aload (i := 74) rfl rfl ?_
                      refine wn_iload (i := 75) rfl rfl ?_
                      refine wn_const (i := 76) (n := 18) rfl rfl ?_
                      refine wn_ic_ne (i := 77) (a := k) (b := 18) (t' := 82) rfl rfl (by omega) (by omega) (fun c77 => ?_) (fun c77 => absurd c77 (by omega))
                      refine wn_iload (i := 82) rfl rfl ?_
                      refine wn_const (i := 83) (n := 15) rfl rfl ?_
                      refine wn_const (i := 84) (n := 17) rfl rfl ?_
                      refine wn_calls (i := 85) (as := [.int (nI k), .int (nI 15), .int (nI 17)]) (rest := [.ref o]) (es := [some (.int (nI k)), some (.int (nI 15)), some (.int (nI 17))]) rfl rfl (by decide) rfl rfl rfl (Nat.le_of_ble_eq_true rfl) rfl rfl ?_
                      refine m_isIn (fun q1 q2 => ?_) (fun q0 => ?_)
                      · skip
                        have hr : 15 ≤ k ∧ k ≤ 17 := ⟨(nI_leI (by omega) (by omega)).mp q1, (nI_leI (by omega) (by omega)).mp q2⟩
                        show xm_wp sc (d + 2) 1 86 [some (.ref o), some (.int (nI k)), some (.int (nI ja)), some (.int b), some (.int (nI 1)), some (.int (nI (f 1 ja))), some (.int (nI (f 1 ja))), none, none] [.int (nI (true).toNat), .ref o] h Q
                        refine wb_if_eq (i := 86) (b := true) (t' := 89) rfl rfl (fun c86 => ?_) (fun c86 => ?_)
                        · cases c86
                        · skip
                          refine wn_const (i := 87) (n := 1) rfl rfl ?_
                          refine wn_goto (i := 88) (t' := 90) rfl rfl ?_
                          refine wn_const (i := 90) (n := 0) rfl rfl ?_
                          refine wn_callv (i := 91) (as := [.int (nI 1), .int (nI 0)]) (b := o) (rest := []) (es := [some (.ref o), some (.int (nI 1)), some (.int (nI 0))]) rfl rfl rfl rfl rfl (Nat.le_of_ble_eq_true rfl) rfl hX.1.1 rfl ?_
                          refine m_add hX (by omega) (by omega) (fun h1 hX1 => ?_)
                          show xm_wp sc (d + 2) 1 92 [some (.ref o), some (.int (nI k)), some (.int (nI ja)), some (.int b), some (.int (nI 1)), some (.int (nI (f 1 ja))), some (.int (nI (f 1 ja))), none, none] [.int (nI (n 0))] h1 Q
                          refine wn_istore (i := 92) (ls' := [some (.ref o), some (.int (nI k)), some (.int (nI ja)), some (.int b), some (.int (nI 1)), some (.int (nI (f 1 ja))), some (.int (nI (f 1 ja))), some (.int (nI (n 0))), none]) rfl (Nat.le_of_ble_eq_true rfl) rfl ?_
                          refine wn_const (i := 93) (n := 0) rfl rfl ?_
                          refine wn_istore (i := 94) (ls' := [some (.ref o), some (.int (nI k)), some (.int (nI ja)), some (.int b), some (.int (nI 1)), some (.int (nI (f 1 ja))), some (.int (nI (f 1 ja))), some (.int (nI (n 0))), some (.int (nI 0))]) rfl (Nat.le_of_ble_eq_true rfl) rfl ?_
                          exact absurd hr (by omega)
                      · skip
                        have hr : ¬ (15 ≤ k ∧ k ≤ 17) := fun e => q0 ⟨nI_le e.1 (by omega), nI_le e.2 (by omega)⟩
                        show xm_wp sc (d + 2) 1 86 [some (.ref o), some (.int (nI k)), some (.int (nI ja)), some (.int b), some (.int (nI 1)), some (.int (nI (f 1 ja))), some (.int (nI (f 1 ja))), none, none] [.int (nI (false).toNat), .ref o] h Q
                        refine wb_if_eq (i := 86) (b := false) (t' := 89) rfl rfl (fun c86 => ?_) (fun c86 => ?_)
                        · skip
                          refine wn_iload (i := 89) rfl rfl ?_
                          refine wn_const (i := 90) (n := 0) rfl rfl ?_
                          refine wn_callv (i := 91) (as := [.int (nI (f 1 ja)), .int (nI 0)]) (b := o) (rest := []) (es := [some (.ref o), some (.int (nI (f 1 ja))), some (.int (nI 0))]) rfl rfl rfl rfl rfl (Nat.le_of_ble_eq_true rfl) rfl hX.1.1 rfl ?_
                          refine m_add hX (by omega) (by omega) (fun h1 hX1 => ?_)
                          show xm_wp sc (d + 2) 1 92 [some (.ref o), some (.int (nI k)), some (.int (nI ja)), some (.int b), some (.int (nI 1)), some (.int (nI (f 1 ja))), some (.int (nI (f 1 ja))), none, none] [.int (nI (n 0))] h1 Q
                          refine wn_istore (i := 92) (ls' := [some (.ref o), some (.int (nI k)), some (.int (nI ja)), some (.int b), some (.int (nI 1)), some (.int (nI (f 1 ja))), some (.int (nI (f 1 ja))), some (.int (nI (n 0))), none]) rfl (Nat.le_of_ble_eq_true rfl) rfl ?_
                          refine wn_const (i := 93) (n := 0) rfl rfl ?_
                          refine wn_istore (i := 94) (ls' := [some (.ref o), some (.int (nI k)), some (.int (nI ja)), some (.int b), some (.int (nI 1)), some (.int (nI (f 1 ja))), some (.int (nI (f 1 ja))), some (.int (nI (n 0))), some (.int (nI 0))]) rfl (Nat.le_of_ble_eq_true rfl) rfl ?_
                          exact l_act1 (n1 := nU n 0 (n 0 + 1)) hB (by omega) hk1 hja hs1.1 hs1.2 hs1.2 hs1.2 (by rw [fU_ne (by simp), fU_same]) hn (hQ1 k ja hk1 rfl hja rfl (by omega)) (2 ^ n 4 + 1) 0 _ _ (Nat.zero_le _) (by show 2 ^ n 4 < _; omega) hX1 (tL.start (by funext j; rw [fU_ne (by simp), fU_ne (by simp)]))
                        · cases c86
                  · skip
                    refine wn_constI (i := 58) (n := -3) rfl rfl ?_
                    exact wn_ret (i := 59) rfl rfl (hF1 k ja hk1 rfl hja rfl c57)
                · exact absurd c25 (by decide)
              · exact absurd c19 (by decide)
          · skip
            show xm_wp sc (d + 2) 1 17 [some (.ref o), some (.int (nI k)), some (.int a), some (.int b), some (.int (nI 1)), none, none, none, none] [.int (nI (false).toNat)] h Q
            refine wb_if_eq (i := 17) (b := false) (t' := 52) rfl rfl (fun c17 => ?_) (fun c17 => ?_)
            · skip
              refine wn_constI (i := 52) (n := -2) rfl rfl ?_
              exact wn_ret (i := 53) rfl rfl (hBad (fun k' ja' h1 h2 h3 h4 => by first | exact absurd h2 (hin1 _ (Nat.zero_le _) (by omega)) | exact absurd h4 (hno16 _ h3) | (have := (nI_eq (by omega) (by omega)).mp h2; omega)) (fun k' ja' jb' h1 h2 h3 h4 h5 h6 h7 => by first | exact absurd h3 (hin1 _ (Nat.zero_le _) (by omega)) | exact absurd h5 (hno16 _ h4) | exact absurd h7 (hno22 _ h6) | (have e1 := (nI_eq (by omega) (by omega)).mp h3; have e2 := (nI_eq (by omega) (by omega)).mp h5; have e3 := (nI_eq (by omega) (by omega)).mp h7; subst e1; subst e2; subst e3; omega)))
            · cases c17
      · skip
        have hin1 : ∀ z_, 0 ≤ z_ → z_ ≤ 19 → kd ≠ nI z_ := xn_notIn2 (by omega) (by omega) q0
        show xm_wp sc (d + 2) 1 13 [some (.ref o), some (.int kd), some (.int a), some (.int b), some (.int (nI 1)), none, none, none, none] [.int (nI (false).toNat)] h Q
        refine wb_if_eq (i := 13) (b := false) (t' := 52) rfl rfl (fun c13 => ?_) (fun c13 => ?_)
        · skip
          refine wn_constI (i := 52) (n := -2) rfl rfl ?_
          exact wn_ret (i := 53) rfl rfl (hBad (fun k' ja' h1 h2 h3 h4 => by first | exact absurd h2 (hin1 _ (Nat.zero_le _) (by omega)) | exact absurd h4 (hno16 _ h3) | (have := (nI_eq (by omega) (by omega)).mp h2; omega)) (fun k' ja' jb' h1 h2 h3 h4 h5 h6 h7 => by first | exact absurd h3 (hin1 _ (Nat.zero_le _) (by omega)) | exact absurd h5 (hno16 _ h4) | exact absurd h7 (hno22 _ h6) | (have e1 := (nI_eq (by omega) (by omega)).mp h3; have e2 := (nI_eq (by omega) (by omega)).mp h5; have e3 := (nI_eq (by omega) (by omega)).mp h7; subst e1; subst e2; subst e3; omega)))
        · cases c13
end MM
end
section
/-! ===== the reference: word ===== -/
/-- rows below A are spread by u bits; in row A the places from j on -/
def wS (f f1 : Nat → Nat → Nat) (A j N u : Nat) : Prop := (∀ k, k ≠ 3 → f1 k = f k) ∧ ∀ a i, i < 4096 → f1 3 (4096 * a + i) = if i < N ∧ (a < A ∨ (a = A ∧ j ≤ i)) then f 3 (4096 * a + i / 2 ^ u) else f 3 (4096 * a + i)
theorem wS.start (f : Nat → Nat → Nat) (N u : Nat) : wS f f 0 N N u := ⟨fun _ _ => rfl, fun a i _ => by rw [if_neg]; omega⟩
theorem wS.next {f f1 : Nat → Nat → Nat} {A N u : Nat} (h : wS f f1 A 0 N u) : wS f f1 (A + 1) N N u := ⟨h.1, fun a i hi => by
  rw [h.2 a i hi]
  by_cases q : i < N ∧ (a < A ∨ (a = A ∧ 0 ≤ i))
  · rw [if_pos q, if_pos (by omega)]
  · rw [if_neg q, if_neg (by omega)]⟩
theorem wS.step {f f1 : Nat → Nat → Nat} {A j N u : Nat} (h : wS f f1 A (j + 1) N u) (hN : N ≤ 4096) (hj : j < N) (hA : A < 24) {v : Nat} (hv : v = f1 3 (4096 * A + j / 2 ^ u)) : wS f (fU f1 3 (4096 * A + j) v) A j N u := by
  have hle : j / 2 ^ u ≤ j := Nat.div_le_self _ _
  refine ⟨fun k hk => ?_, fun a i hi => ?_⟩
  · rw [← h.1 k hk]
    funext z
    exact fU_ne (fun q => hk q.1)
  · by_cases q : a = A ∧ i = j
    · obtain ⟨rfl, rfl⟩ := q
      rw [fU_same, hv, h.2 a _ (by omega), if_neg (by omega), if_pos (by omega)]
    · rw [fU_ne (fun z => q (by omega)), h.2 a i hi]
      by_cases q2 : i < N ∧ (a < A ∨ (a = A ∧ j + 1 ≤ i))
      · rw [if_pos q2, if_pos (by omega)]
      · rw [if_neg q2, if_neg (by omega)]
def pm (j : Nat) : Int32 := nI j - 1
theorem pm_0 : pm 0 < 0 := by decide
theorem pm_s (j : Nat) : pm (j + 1) = nI j := nI_pred j
theorem pm_dec (j : Nat) : nI j + Int32.ofInt (-1) = pm j := by
  unfold pm
  rw [Int32.sub_eq_add_neg]
  rfl
section MM
variable {sc : Nat × Nat × (Nat → Int32)} {d o : Nat} {h h0 : xm_S} {Q : Option Value → xm_S → Prop} {n : Nat → Nat} {f : Nat → Nat → Nat}
theorem wn_iincI {y i k : Nat} {ls ls' : xm_L} {st : List Value} {x : Int32} {c : Int} (hc : (xm_code y)[i]? = some (.iinc k c)) (hv : ls[k]? = some (some (.int x))) (hl : ls.set k (some (.int (x + Int32.ofInt c))) = ls') (w : xm_wp sc d y (i + 1) ls' st h Q) : xm_wp sc d y i ls st h Q := wp_step (by unfold xm_act; rw [hc]; simp only [xm_do, hv, hl]) w
theorem l_word2 {n1 : Nat → Nat} {u A : Nat} (hB : n1 4 ≤ 12) (hu : 1 ≤ u) (hu2 : u ≤ 12) (hA : A < 24) (hQ : ∀ (h : xm_S) (f1 : Nat → Nat → Nat), MX o n1 f1 h0 h → wS f f1 A 0 (2 ^ n1 4) u → xm_wp sc (d + 1) 38 58 [some (.ref o), some (.int (nI u)), some (.int (nI A)), some (.int (pm 0))] [] h Q) : ∀ (j : Nat) (h : xm_S) (f1 : Nat → Nat → Nat), j ≤ 2 ^ n1 4 → MX o n1 f1 h0 h → wS f f1 A j (2 ^ n1 4) u → xm_wp sc (d + 1) 38 36 [some (.ref o), some (.int (nI u)), some (.int (nI A)), some (.int (pm j))] [] h Q := by
  intro j
  have hN := xn_p12 hB
  induction j with
  | zero =>
    intro h f1 hj hX hw
    refine wn_iload (i := 36) rfl rfl ?_
    exact wi_if_lt (i := 37) (t' := 58) rfl rfl (fun _ => hQ h f1 hX hw) (fun q => absurd pm_0 q)
  | succ j ih =>
    intro h f1 hj hX hw
    rw [pm_s]
    refine wn_iload (i := 36) rfl rfl ?_
    refine wn_if_lt (i := 37) (a := j) rfl (by omega) ?_
    refine wn_aload (i := 38) rfl rfl ?_
    refine wp_get (i := 39) (n := 3) (a := o) (v := .ref (o + 3)) rfl hX.1.1 rfl ?_
    refine wn_const (i := 40) (n := 4096) rfl rfl ?_
    refine wn_iload (i := 41) rfl rfl ?_
    refine wn_imul (i := 42) (a := 4096) (b := A) rfl ?_
    refine wn_iload (i := 43) rfl rfl ?_
    refine wn_iadd (i := 44) (a := (4096 * A)) (b := j) rfl ?_
    refine wn_aload (i := 45) rfl rfl ?_
    refine wp_get (i := 46) (n := 3) (a := o) (v := .ref (o + 3)) rfl hX.1.1 rfl ?_
    refine wn_const (i := 47) (n := 4096) rfl rfl ?_
    refine wn_iload (i := 48) rfl rfl ?_
    refine wn_imul (i := 49) (a := 4096) (b := A) rfl ?_
    refine wn_iload (i := 50) rfl rfl ?_
    refine wn_iload (i := 51) rfl rfl ?_
    refine wn_ishr (i := 52) (a := j) (b := u) rfl (by omega) (by omega) ?_
    refine wn_iadd (i := 53) (a := (4096 * A)) (b := (j / 2 ^ u)) rfl ?_
    refine wm_iald (i := 54) (k := 3) (e := ((4096 * A) + (j / 2 ^ u))) (len := 98304) rfl hX (by decide) (by decide) rfl rfl rfl (by have := Nat.div_le_self j (2 ^ u); omega) (by decide) ?_
    refine wm_iast (i := 55) (k := 3) (e := ((4096 * A) + j)) (x := (f1 3 ((4096 * A) + (j / 2 ^ u)))) (len := 98304) rfl hX (by decide) (by decide) rfl rfl rfl (by omega) (by decide) (fun h_55 hX_55 => ?_)
    refine wn_iincI (i := 56) (x := nI j) (ls' := [some (.ref o), some (.int (nI u)), some (.int (nI A)), some (.int (nI j + Int32.ofInt (-1)))]) rfl rfl rfl ?_
    rw [pm_dec]
    refine wn_goto (i := 57) (t' := 36) rfl rfl ?_
    exact ih _ _ (by omega) hX_55 (hw.step hN (by omega) hA rfl)
theorem l_word3 {n1 : Nat → Nat} {g : Nat → Nat → Nat} {T u : Nat} (hB : n1 4 ≤ 12) (hT : T < 24) (hu : u ≤ 12) (hQ : ∀ (h' : xm_S) (f1 : Nat → Nat → Nat), MX o n1 f1 h0 h' → tL f g f1 T (2 ^ n1 4) (fun i => i &&& (2 ^ u - 1)) → Q (some (.int (nI T))) h') : ∀ (m : Nat) (x : Nat) (h : xm_S) (f1 : Nat → Nat → Nat), x ≤ 2 ^ n1 4 → 2 ^ n1 4 < x + m → MX o n1 f1 h0 h → tL f g f1 T x (fun i => i &&& (2 ^ u - 1)) → xm_wp sc (d + 1) 38 67 [some (.ref o), some (.int (nI u)), some (.int (nI T)), some (.int (nI x))] [] h Q := by
  intro m
  induction m with
  | zero => intro x h f1 h1 h2; exact absurd h2 (by omega)
  | succ m ih =>
    intro x h f1 h1 h2 hX ht
    have hN := xn_p12 hB
    refine wn_iload (i := 67) rfl rfl ?_
    refine wn_aload (i := 68) rfl rfl ?_
    refine wn_callv (i := 69) (as := []) (b := o) (rest := [.int (nI x)]) (es := [some (.ref o)]) rfl rfl rfl rfl rfl (Nat.le_of_ble_eq_true rfl) rfl hX.1.1 rfl ?_
    refine m_all hX hB ?_
    show xm_wp sc (d + 1) 38 70 [some (.ref o), some (.int (nI u)), some (.int (nI T)), some (.int (nI x))] [.int (nI (2 ^ n1 4)), .int (nI x)] h Q
    refine wn_ic_ge (i := 70) (a := x) (b := (2 ^ n1 4)) (t' := 85) rfl rfl (by omega) (by omega) (fun c70 => ?_) (fun c70 => ?_)
    · skip
      refine wn_iload (i := 85) rfl rfl ?_
      have ex : x = 2 ^ n1 4 := by omega
      subst ex
      exact wn_ret (i := 86) rfl rfl (hQ _ _ hX ht)
    · skip
      refine wn_aload (i := 71) rfl rfl ?_
      refine wp_get (i := 72) (n := 3) (a := o) (v := .ref (o + 3)) rfl hX.1.1 rfl ?_
      refine wn_const (i := 73) (n := 4096) rfl rfl ?_
      refine wn_iload (i := 74) rfl rfl ?_
      refine wn_imul (i := 75) (a := 4096) (b := T) rfl ?_
      refine wn_iload (i := 76) rfl rfl ?_
      refine wn_iadd (i := 77) (a := (4096 * T)) (b := x) rfl ?_
      refine wn_iload (i := 78) rfl rfl ?_
      refine wn_iload (i := 79) rfl rfl ?_
      refine wn_calls (i := 80) (as := [.int (nI u)]) (rest := [.int (nI x), .int (nI ((4096 * T) + x)), .ref (o + 3)]) (es := [some (.int (nI u))]) rfl rfl (by decide) rfl rfl rfl (Nat.le_of_ble_eq_true rfl) rfl rfl ?_
      refine m_mask (by omega) ?_
      show xm_wp sc (d + 1) 38 81 [some (.ref o), some (.int (nI u)), some (.int (nI T)), some (.int (nI x))] [.int (nI (2 ^ u - 1)), .int (nI x), .int (nI ((4096 * T) + x)), .ref (o + 3)] h Q
      refine wn_iand (i := 81) (a := x) (b := (2 ^ u - 1)) rfl ?_
      refine wm_iast (i := 82) (k := 3) (e := ((4096 * T) + x)) (x := (x &&& (2 ^ u - 1))) (len := 98304) rfl hX (by decide) (by decide) rfl rfl rfl (by omega) (by decide) (fun h_82 hX_82 => ?_)
      refine wn_iinc (i := 83) (x := x) (n := 1) (ls' := [some (.ref o), some (.int (nI u)), some (.int (nI T)), some (.int (nI (x + 1)))]) rfl rfl rfl rfl ?_
      refine wn_goto (i := 84) (t' := 67) rfl rfl ?_
      exact ih (x + 1) _ _ (by omega) (by omega) hX_82 (ht.step rfl)
theorem l_word1 {n1 : Nat → Nat} {u : Nat} (hB : n1 4 ≤ 12) (hT : n1 0 < 24) (hu : 1 ≤ u) (hu2 : u ≤ 12) (hQ : ∀ (h' : xm_S) (f1 f2 : Nat → Nat → Nat), wS f f1 (n1 0) (2 ^ n1 4) (2 ^ n1 4) u → MX o (nU n1 0 (n1 0 + 1)) f2 h0 h' → tL f1 (fU (fU f1 1 (n1 0) u) 2 (n1 0) 1) f2 (n1 0) (2 ^ n1 4) (fun i => i &&& (2 ^ u - 1)) → Q (some (.int (nI (n1 0)))) h') : ∀ (m : Nat) (A : Nat) (h : xm_S) (f1 : Nat → Nat → Nat) (z : Option Value), A ≤ n1 0 → n1 0 < A + m → MX o n1 f1 h0 h → wS f f1 A (2 ^ n1 4) (2 ^ n1 4) u → xm_wp sc (d + 1) 38 27 [some (.ref o), some (.int (nI u)), some (.int (nI A)), z] [] h Q := by
  intro m
  induction m with
  | zero => intro A h f1 z h1 h2; exact absurd h2 (by omega)
  | succ m ih =>
    intro A h f1 z h1 h2 hX hw
    have hN := xn_p12 hB
    have hN0 := Nat.two_pow_pos (n1 4)
    refine wn_iload (i := 27) rfl rfl ?_
    refine wn_aload (i := 28) rfl rfl ?_
    refine wp_get (i := 29) (n := 0) (a := o) (v := .int (nI (n1 0))) rfl hX.1.1 rfl ?_
    refine wn_ic_ge (i := 30) (a := A) (b := (n1 0)) (t' := 60) rfl rfl (by omega) (by omega) (fun c30 => ?_) (fun c30 => ?_)
    · skip
      refine wn_aload (i := 60) rfl rfl ?_
      refine wn_iload (i := 61) rfl rfl ?_
      refine wn_const (i := 62) (n := 1) rfl rfl ?_
      refine wn_callv (i := 63) (as := [.int (nI u), .int (nI 1)]) (b := o) (rest := []) (es := [some (.ref o), some (.int (nI u)), some (.int (nI 1))]) rfl rfl rfl rfl rfl (Nat.le_of_ble_eq_true rfl) rfl hX.1.1 rfl ?_
      have eA : A = n1 0 := by omega
      rw [eA] at hw
      refine m_add hX (by omega) (by omega) (fun h1 hX1 => ?_)
      show xm_wp sc (d + 1) 38 64 [some (.ref o), some (.int (nI u)), some (.int (nI A)), z] [.int (nI (n1 0))] h1 Q
      refine wn_istore (i := 64) (ls' := [some (.ref o), some (.int (nI u)), some (.int (nI (n1 0))), z]) rfl (Nat.le_of_ble_eq_true rfl) rfl ?_
      refine wn_const (i := 65) (n := 0) rfl rfl ?_
      refine wn_istore (i := 66) (ls' := [some (.ref o), some (.int (nI u)), some (.int (nI (n1 0))), some (.int (nI 0))]) rfl (Nat.le_of_ble_eq_true rfl) rfl ?_
      exact l_word3 (f := f1) (n1 := nU n1 0 (n1 0 + 1)) hB hT hu2 (fun h' f2 hX2 ht => hQ h' f1 f2 hw hX2 ht) (2 ^ n1 4 + 1) 0 _ _ (Nat.zero_le _) (by show 2 ^ n1 4 < _; omega) hX1 (tL.start (by funext j; rw [fU_ne (by simp), fU_ne (by simp)]))
    · skip
      refine wn_aload (i := 31) rfl rfl ?_
      refine wn_callv (i := 32) (as := []) (b := o) (rest := []) (es := [some (.ref o)]) rfl rfl rfl rfl rfl (Nat.le_of_ble_eq_true rfl) rfl hX.1.1 rfl ?_
      refine m_all hX hB ?_
      show xm_wp sc (d + 1) 38 33 [some (.ref o), some (.int (nI u)), some (.int (nI A)), z] [.int (nI (2 ^ n1 4))] h Q
      refine wn_const (i := 33) (n := 1) rfl rfl ?_
      refine wn_isub (i := 34) (a := (2 ^ n1 4)) (b := 1) rfl (Nat.two_pow_pos _) ?_
      refine wn_istore (i := 35) (ls' := [some (.ref o), some (.int (nI u)), some (.int (nI A)), some (.int (nI ((2 ^ n1 4) - 1)))]) rfl (Nat.le_of_ble_eq_true rfl) rfl ?_
      rw [show nI (2 ^ n1 4 - 1) = pm (2 ^ n1 4) by rw [show 2 ^ n1 4 = (2 ^ n1 4 - 1) + 1 by omega, pm_s]; rfl]
      refine l_word2 hB hu hu2 (by omega) (fun h2 f2 hX2 hw2 => ?_) (2 ^ n1 4) h f1 (Nat.le_refl _) hX hw
      refine wn_iinc (i := 58) (x := A) (n := 1) (ls' := [some (.ref o), some (.int (nI u)), some (.int (nI (A + 1))), some (.int (pm 0))]) rfl rfl rfl rfl ?_
      refine wn_goto (i := 59) (t' := 27) rfl rfl ?_
      exact ih (A + 1) _ _ _ (by omega) (by omega) hX2 hw2.next
theorem m_word (hX : MX o n f h0 h) (hT : n 0 ≤ 24) (hB : n 4 ≤ 12) {a : Int32} (hBad : (∀ u, 1 ≤ u → u ≤ 12 → a ≠ nI u) → Q (some (.int (-2))) h) (hF : ∀ u, 1 ≤ u → u ≤ 12 → a = nI u → (n 0 = 24 ∨ 12 < n 4 + u) → Q (some (.int (-3))) h) (hQ : ∀ u, 1 ≤ u → u ≤ 12 → a = nI u → n 0 < 24 → n 4 + u ≤ 12 → ∀ (h' : xm_S) (f1 f2 : Nat → Nat → Nat), wS f f1 (n 0) (2 ^ (n 4 + u)) (2 ^ (n 4 + u)) u → MX o (nU (nU n 4 (n 4 + u)) 0 (n 0 + 1)) f2 h0 h' → tL f1 (fU (fU f1 1 (n 0) u) 2 (n 0) 1) f2 (n 0) (2 ^ (n 4 + u)) (fun i => i &&& (2 ^ u - 1)) → Q (some (.int (nI (n 0)))) h') : xm_wp sc (d + 1) 38 0 [some (.ref o), some (.int a), none, none] [] h Q := by
  refine wn_iload (i := 0) rfl rfl ?_
  refine wn_const (i := 1) (n := 1) rfl rfl ?_
  refine wn_const (i := 2) (n := 12) rfl rfl ?_
  refine wn_calls (i := 3) (as := [.int a, .int (nI 1), .int (nI 12)]) (rest := []) (es := [some (.int a), some (.int (nI 1)), some (.int (nI 12))]) rfl rfl (by decide) rfl rfl rfl (Nat.le_of_ble_eq_true rfl) rfl rfl ?_
  refine m_isIn (fun q1 q2 => ?_) (fun q0 => ?_)
  · skip
    obtain ⟨u, hu1, hu2, rfl⟩ := xn_isIn2 (by omega) (by omega) q1 q2
    show xm_wp sc (d + 1) 38 4 [some (.ref o), some (.int (nI u)), none, none] [.int (nI (true).toNat)] h Q
    refine wb_if_ne (i := 4) (b := true) (t' := 7) rfl rfl (fun c4 => ?_) (fun c4 => ?_)
    · skip
      refine wn_aload (i := 7) rfl rfl ?_
      refine wp_get (i := 8) (n := 0) (a := o) (v := .int (nI (n 0))) rfl hX.1.1 rfl ?_
      refine wn_const (i := 9) (n := 24) rfl rfl ?_
      refine wn_ic_eq (i := 10) (a := (n 0)) (b := 24) (t' := 17) rfl rfl (by omega) (by omega) (fun c10 => ?_) (fun c10 => ?_)
      · skip
        refine wn_constI (i := 17) (n := -3) rfl rfl ?_
        exact wn_ret (i := 18) rfl rfl (hF u hu1 hu2 rfl (by omega))
      · skip
        refine wn_aload (i := 11) rfl rfl ?_
        refine wp_get (i := 12) (n := 4) (a := o) (v := .int (nI (n 4))) rfl hX.1.1 rfl ?_
        refine wn_iload (i := 13) rfl rfl ?_
        refine wn_iadd (i := 14) (a := (n 4)) (b := u) rfl ?_
        refine wn_const (i := 15) (n := 12) rfl rfl ?_
        refine wn_ic_le (i := 16) (a := ((n 4) + u)) (b := 12) (t' := 19) rfl rfl (by omega) (by omega) (fun c16 => ?_) (fun c16 => ?_)
        · skip
          refine wn_aload (i := 19) rfl rfl ?_
          refine wn_dup (i := 20) rfl ?_
          refine wp_get (i := 21) (n := 4) (a := o) (v := .int (nI (n 4))) rfl hX.1.1 rfl ?_
          refine wn_iload (i := 22) rfl rfl ?_
          refine wn_iadd (i := 23) (a := (n 4)) (b := u) rfl ?_
          refine wm_put (i := 24) (k := 4) (x := ((n 4) + u)) rfl hX (by decide) rfl rfl rfl (fun h_24 hX_24 => ?_)
          refine wn_const (i := 25) (n := 0) rfl rfl ?_
          refine wn_istore (i := 26) (ls' := [some (.ref o), some (.int (nI u)), some (.int (nI 0)), none]) rfl (Nat.le_of_ble_eq_true rfl) rfl ?_
          exact l_word1 (n1 := nU n 4 (n 4 + u)) c16 (by show n 0 < 24; omega) hu1 hu2 (hQ u hu1 hu2 rfl (by omega) c16) (n 0 + 1) 0 _ _ _ (Nat.zero_le _) (by show n 0 < _; omega) hX_24 (wS.start f _ _)
        · skip
          refine wn_constI (i := 17) (n := -3) rfl rfl ?_
          exact wn_ret (i := 18) rfl rfl (hF u hu1 hu2 rfl (by omega))
    · cases c4
  · skip
    have hin1 : ∀ z_, 1 ≤ z_ → z_ ≤ 12 → a ≠ nI z_ := xn_notIn2 (by omega) (by omega) q0
    show xm_wp sc (d + 1) 38 4 [some (.ref o), some (.int a), none, none] [.int (nI (false).toNat)] h Q
    refine wb_if_ne (i := 4) (b := false) (t' := 7) rfl rfl (fun c4 => ?_) (fun c4 => ?_)
    · cases c4
    · skip
      refine wn_constI (i := 5) (n := -2) rfl rfl ?_
      exact wn_ret (i := 6) rfl rfl (hBad hin1)
end MM
end
section
/-! ===== the reference: diagrams ===== -/
abbrev SH : Type := (Nat → Nat) × Nat × (Nat → Nat) × (Nat → Nat)
/-- the first node from k on, of m, that has these parts; else the one behind -/
def nd (lo hi : Nat → Nat) (l h : Nat) : Nat → Nat → Nat
  | 0, k => k
  | m + 1, k => if lo k = l ∧ hi k = h then k else nd lo hi l h m (k + 1)
theorem nd_le (lo hi : Nat → Nat) (l h : Nat) : ∀ m k, k ≤ nd lo hi l h m k ∧ nd lo hi l h m k ≤ k + m
  | 0, k => ⟨Nat.le_refl _, Nat.le_refl _⟩
  | m + 1, k => by
    unfold nd
    split
    · omega
    · have := nd_le lo hi l h m (k + 1)
      omega
/-- the node of two parts, among those from first on -/
def ndS (first : Nat) (s : SH) (l h : Nat) : Nat := nd s.2.2.1 s.2.2.2 l h (s.2.1 - first) first
def stp (first : Nat) (s : SH) (i : Nat) : SH :=
  if s.1 (2 * i) = s.1 (2 * i + 1) then (nU s.1 i (s.1 (2 * i)), s.2.1, s.2.2.1, s.2.2.2)
  else if ndS first s (s.1 (2 * i)) (s.1 (2 * i + 1)) = s.2.1 then (nU s.1 i s.2.1, s.2.1 + 1, nU s.2.2.1 s.2.1 (s.1 (2 * i)), nU s.2.2.2 s.2.1 (s.1 (2 * i + 1)))
  else (nU s.1 i (ndS first s (s.1 (2 * i)) (s.1 (2 * i + 1))), s.2.1, s.2.2.1, s.2.2.2)
def lvl (first : Nat) (s : SH) : Nat → SH
  | 0 => s
  | m + 1 => stp first (lvl first s m) m
def shr : Nat → SH → SH
  | 0, s => s
  | L + 1, s => shr L (lvl s.2.1 s (2 ^ L))
/-- sizes stay small -/
def SB (s : SH) (b M : Nat) : Prop := 2 ≤ s.2.1 ∧ s.2.1 ≤ b ∧ (∀ j, j < M → s.1 j < s.2.1) ∧ ∀ k, 2 ≤ k → k < s.2.1 → s.2.2.1 k < 5000 ∧ s.2.2.2 k < 5000
theorem SB_stp {s : SH} {b first i M : Nat} (h : SB s b M) (hf : first ≤ s.2.1) (hb : b ≤ 4098) (hi : 2 * i + 1 < M) : SB (stp first s i) (b + 1) M := by
  obtain ⟨h1, h2, h3, h4⟩ := h
  have a1 := h3 (2 * i) (by omega)
  have a2 := h3 (2 * i + 1) (by omega)
  have hnd := nd_le s.2.2.1 s.2.2.2 (s.1 (2 * i)) (s.1 (2 * i + 1)) (s.2.1 - first) first
  unfold stp
  split
  · refine ⟨h1, by dsimp only; omega, fun j hj => ?_, h4⟩
    dsimp only [nU]
    split
    · exact a1
    · exact h3 j hj
  · split
    · refine ⟨by dsimp only; omega, by dsimp only; omega, fun j hj => ?_, fun k hk2 hk => ?_⟩
      · dsimp only [nU]
        split
        · omega
        · have := h3 j hj; omega
      · dsimp only [nU] at hk ⊢
        split
        · constructor <;> omega
        · exact h4 k hk2 (by omega)
    · rename_i hne
      refine ⟨h1, by dsimp only; omega, fun j hj => ?_, h4⟩
      dsimp only [nU]
      split
      · unfold ndS at hne ⊢
        omega
      · exact h3 j hj
theorem stp_ge (first : Nat) (s : SH) (i : Nat) : s.2.1 ≤ (stp first s i).2.1 := by
  unfold stp
  split
  · exact Nat.le_refl _
  · split
    · exact Nat.le_succ _
    · exact Nat.le_refl _
theorem lvl_ge (first : Nat) (s : SH) : ∀ m, s.2.1 ≤ (lvl first s m).2.1
  | 0 => Nat.le_refl _
  | m + 1 => Nat.le_trans (lvl_ge first s m) (stp_ge _ _ _)
theorem SB_lvl {s : SH} {b first M : Nat} (h : SB s b M) (hf : first ≤ s.2.1) : ∀ m, b + m ≤ 4099 → 2 * m ≤ M → SB (lvl first s m) (b + m) M
  | 0, _, _ => h
  | m + 1, h1, h2 => by
    have ih := SB_lvl h hf m (by omega) (by omega)
    show SB (stp first (lvl first s m) m) (b + m + 1) M
    exact SB_stp ih (Nat.le_trans hf (lvl_ge first s m)) (by omega) (by omega)
def SR (n : Nat → Nat) (f : Nat → Nat → Nat) (n1 : Nat → Nat) (f1 : Nat → Nat → Nat) (s : SH) : Prop := (∀ k, k < 9 → f1 k = f k) ∧ f1 9 = s.1 ∧ f1 10 = s.2.2.1 ∧ f1 11 = s.2.2.2 ∧ n1 16 = s.2.1 ∧ ∀ k, k ≠ 16 → n1 k = n k
theorem SR.put9 {n n1 : Nat → Nat} {f f1 : Nat → Nat → Nat} {P lo hi : Nat → Nat} {N : Nat} (h : SR n f n1 f1 (P, N, lo, hi)) (e x : Nat) : SR n f n1 (fU f1 9 e x) (nU P e x, N, lo, hi) := by
  obtain ⟨h1, h2, h3, h4, h5, h6⟩ := h
  refine ⟨fun k hk => ?_, ?_, ?_, ?_, h5, h6⟩
  · rw [← h1 k hk]; funext j; exact fU_ne (fun q => by omega)
  · funext j
    dsimp only [nU] at h2 ⊢
    by_cases q : j = e
    · subst q; rw [fU_same, if_pos rfl]
    · rw [fU_ne (fun z => q z.2), if_neg q, h2]
  · rw [← h3]; funext j; exact fU_ne (fun q => by omega)
  · rw [← h4]; funext j; exact fU_ne (fun q => by omega)
theorem SR.put10 {n n1 : Nat → Nat} {f f1 : Nat → Nat → Nat} {P lo hi : Nat → Nat} {N : Nat} (h : SR n f n1 f1 (P, N, lo, hi)) (e x : Nat) : SR n f n1 (fU f1 10 e x) (P, N, nU lo e x, hi) := by
  obtain ⟨h1, h2, h3, h4, h5, h6⟩ := h
  refine ⟨fun k hk => ?_, ?_, ?_, ?_, h5, h6⟩
  · rw [← h1 k hk]; funext j; exact fU_ne (fun q => by omega)
  · rw [← h2]; funext j; exact fU_ne (fun q => by omega)
  · funext j
    dsimp only [nU] at h3 ⊢
    by_cases q : j = e
    · subst q; rw [fU_same, if_pos rfl]
    · rw [fU_ne (fun z => q z.2), if_neg q, h3]
  · rw [← h4]; funext j; exact fU_ne (fun q => by omega)
theorem SR.put11 {n n1 : Nat → Nat} {f f1 : Nat → Nat → Nat} {P lo hi : Nat → Nat} {N : Nat} (h : SR n f n1 f1 (P, N, lo, hi)) (e x : Nat) : SR n f n1 (fU f1 11 e x) (P, N, lo, nU hi e x) := by
  obtain ⟨h1, h2, h3, h4, h5, h6⟩ := h
  refine ⟨fun k hk => ?_, ?_, ?_, ?_, h5, h6⟩
  · rw [← h1 k hk]; funext j; exact fU_ne (fun q => by omega)
  · rw [← h2]; funext j; exact fU_ne (fun q => by omega)
  · rw [← h3]; funext j; exact fU_ne (fun q => by omega)
  · funext j
    dsimp only [nU] at h4 ⊢
    by_cases q : j = e
    · subst q; rw [fU_same, if_pos rfl]
    · rw [fU_ne (fun z => q z.2), if_neg q, h4]
theorem SR.putN {n n1 : Nat → Nat} {f f1 : Nat → Nat → Nat} {P lo hi : Nat → Nat} {N : Nat} (h : SR n f n1 f1 (P, N, lo, hi)) (x : Nat) : SR n f (nU n1 16 x) f1 (P, x, lo, hi) := by
  obtain ⟨h1, h2, h3, h4, h5, h6⟩ := h
  exact ⟨h1, h2, h3, h4, nU_same, fun k hk => by rw [nU_ne hk]; exact h6 k hk⟩
section MM
variable {sc : Nat × Nat × (Nat → Int32)} {d o : Nat} {h h0 : xm_S} {Q : Option Value → xm_S → Prop} {n : Nat → Nat} {f : Nat → Nat → Nat}
theorem l_search {n1 : Nat → Nat} {f1 : Nat → Nat → Nat} {s : SH} {c first x lw hg : Nat} (hX : MX o n1 f1 h0 h) (hr : SR n f n1 f1 s) {M : Nat} (hs : SB s 4099 M) (hlw : lw < 5000) (hhg : hg < 5000) : ∀ (m k : Nat), 2 ≤ k → s.2.1 = k + m → (xm_wp sc (d) 30 60 [some (.ref o), some (.int (nI c)), some (.int (nI first)), some (.int (nI x)), some (.int (nI lw)), some (.int (nI hg)), some (.int (nI (nd s.2.2.1 s.2.2.2 lw hg m k)))] [] h Q) → xm_wp sc (d) 30 42 [some (.ref o), some (.int (nI c)), some (.int (nI first)), some (.int (nI x)), some (.int (nI lw)), some (.int (nI hg)), some (.int (nI k))] [] h Q := by
  obtain ⟨r1, r2, r3, r4, r5, r6⟩ := id hr
  obtain ⟨s1, s2, s3, s4⟩ := id hs
  intro m
  induction m with
  | zero =>
    intro k hk2 hk hQ
    have hn16 : n1 16 = k := by rw [r5]; omega
    refine wn_iload (i := 42) rfl rfl ?_
    refine wn_aload (i := 43) rfl rfl ?_
    refine wp_get (i := 44) (n := 16) (a := o) (v := .int (nI (n1 16))) rfl hX.1.1 rfl ?_
    exact wn_ic_ge (i := 45) (a := k) (b := n1 16) (t' := 60) rfl rfl (by omega) (by omega) (fun _ => hQ) (fun q => absurd q (by omega))
  | succ m ih =>
    intro k hk2 hk hQ
    have hn16 : n1 16 = k + (m + 1) := by rw [r5]; omega
    have hsk := s4 k hk2 (by omega)
    have e10 : f1 10 k = s.2.2.1 k := by rw [r3]
    have e11 : f1 11 k = s.2.2.2 k := by rw [r4]
    refine wn_iload (i := 42) rfl rfl ?_
    refine wn_aload (i := 43) rfl rfl ?_
    refine wp_get (i := 44) (n := 16) (a := o) (v := .int (nI (n1 16))) rfl hX.1.1 rfl ?_
    refine wn_ic_ge (i := 45) (a := k) (b := (n1 16)) (t' := 60) rfl rfl (by omega) (by omega) (fun c45 => ?_) (fun c45 => ?_)
    · skip
      exact absurd c45 (by omega)
    · skip
      refine wn_aload (i := 46) rfl rfl ?_
      refine wp_get (i := 47) (n := 14) (a := o) (v := .ref (o + 10)) rfl hX.1.1 rfl ?_
      refine wn_iload (i := 48) rfl rfl ?_
      refine wm_iald (i := 49) (k := 10) (e := k) (len := 4100) rfl hX (by decide) (by decide) rfl rfl rfl (by omega) (by decide) ?_
      refine wn_iload (i := 50) rfl rfl ?_
      refine wn_ic_ne (i := 51) (a := (f1 10 k)) (b := lw) (t' := 58) rfl rfl (by omega) (by omega) (fun c51 => ?_) (fun c51 => ?_)
      · skip
        refine wn_iinc (i := 58) (x := k) (n := 1) (ls' := [some (.ref o), some (.int (nI c)), some (.int (nI first)), some (.int (nI x)), some (.int (nI lw)), some (.int (nI hg)), some (.int (nI (k + 1)))]) rfl rfl rfl rfl ?_
        refine wn_goto (i := 59) (t' := 42) rfl rfl ?_
        rw [show nd s.2.2.1 s.2.2.2 lw hg (m + 1) k = nd s.2.2.1 s.2.2.2 lw hg m (k + 1) by rw [nd]; rw [if_neg (by omega)]] at hQ
        exact ih (k + 1) (by omega) (by omega) hQ
      · skip
        refine wn_aload (i := 52) rfl rfl ?_
        refine wp_get (i := 53) (n := 15) (a := o) (v := .ref (o + 11)) rfl hX.1.1 rfl ?_
        refine wn_iload (i := 54) rfl rfl ?_
        refine wm_iald (i := 55) (k := 11) (e := k) (len := 4100) rfl hX (by decide) (by decide) rfl rfl rfl (by omega) (by decide) ?_
        refine wn_iload (i := 56) rfl rfl ?_
        refine wn_ic_eq (i := 57) (a := (f1 11 k)) (b := hg) (t' := 60) rfl rfl (by omega) (by omega) (fun c57 => ?_) (fun c57 => ?_)
        · skip
          rw [show nd s.2.2.1 s.2.2.2 lw hg (m + 1) k = k by unfold nd; rw [if_pos ⟨by omega, by omega⟩]] at hQ
          exact hQ
        · skip
          refine wn_iinc (i := 58) (x := k) (n := 1) (ls' := [some (.ref o), some (.int (nI c)), some (.int (nI first)), some (.int (nI x)), some (.int (nI lw)), some (.int (nI hg)), some (.int (nI (k + 1)))]) rfl rfl rfl rfl ?_
          refine wn_goto (i := 59) (t' := 42) rfl rfl ?_
          rw [show nd s.2.2.1 s.2.2.2 lw hg (m + 1) k = nd s.2.2.1 s.2.2.2 lw hg m (k + 1) by rw [nd]; rw [if_neg (by omega)]] at hQ
          exact ih (k + 1) (by omega) (by omega) hQ
theorem l_level {c first : Nat} {s0 : SH} {b M : Nat} (hc : c ≤ 2048) (hM : 2 * c ≤ M) (hM2 : M ≤ 4096) (hb : SB s0 b M) (hbc : b + c ≤ 4098) (hf : first = s0.2.1) (hE : (∀ (h : xm_S) (n1 : Nat → Nat) (f1 : Nat → Nat → Nat) (z3 z4 z5 z6 : Option Value), MX o n1 f1 h0 h → SR n f n1 f1 (lvl first s0 c) → xm_wp sc (d) 30 6 [some (.ref o), some (.int (nI c)), some (.int (nI first)), z3, z4, z5, z6] [] h Q)) : ∀ (m : Nat) (x : Nat) (h : xm_S) (n1 : Nat → Nat) (f1 : Nat → Nat → Nat) (z4 z5 z6 : Option Value), x ≤ c → c < x + m → MX o n1 f1 h0 h → SR n f n1 f1 (lvl first s0 x) → xm_wp sc (d) 30 18 [some (.ref o), some (.int (nI c)), some (.int (nI first)), some (.int (nI x)), z4, z5, z6] [] h Q := by
  intro m
  induction m with
  | zero => intro x h n1 f1 z4 z5 z6 h1 h2; exact absurd h2 (by omega)
  | succ m ih =>
    intro x h n1 f1 z4 z5 z6 h1 h2 hX hr
    have hge := lvl_ge first s0 x
    have hB1 := SB_lvl hb (by omega : first ≤ s0.2.1) x (by omega) (by omega)
    have hnext : lvl first s0 (x + 1) = stp first (lvl first s0 x) x := rfl
    generalize hse : lvl first s0 x = s at hr hge hB1 hnext
    obtain ⟨P, N, lo, hi⟩ := s
    obtain ⟨r1, r2, r3, r4, r5, r6⟩ := id hr
    obtain ⟨s1, s2, s3, s4⟩ := id hB1
    dsimp only at r2 r3 r4 r5 s1 s2 s3 s4 hge
    refine wn_iload (i := 18) rfl rfl ?_
    refine wn_iload (i := 19) rfl rfl ?_
    refine wn_ic_ge (i := 20) (a := x) (b := c) (t' := 89) rfl rfl (by omega) (by omega) (fun c20 => ?_) (fun c20 => ?_)
    · skip
      have ex : x = c := by omega
      refine wn_goto (i := 89) (t' := 6) rfl rfl ?_
      subst ex
      exact hE _ _ _ _ _ _ _ hX (by rw [hse]; exact hr)
    · skip
      refine wn_aload (i := 21) rfl rfl ?_
      refine wp_get (i := 22) (n := 13) (a := o) (v := .ref (o + 9)) rfl hX.1.1 rfl ?_
      refine wn_const (i := 23) (n := 2) rfl rfl ?_
      refine wn_iload (i := 24) rfl rfl ?_
      refine wn_imul (i := 25) (a := 2) (b := x) rfl ?_
      refine wm_iald (i := 26) (k := 9) (e := (2 * x)) (len := 4096) rfl hX (by decide) (by decide) rfl rfl rfl (by omega) (by decide) ?_
      rw [show f1 9 (2 * x) = P (2 * x) from by rw [r2]]
      refine wn_istore (i := 27) (ls' := [some (.ref o), some (.int (nI c)), some (.int (nI first)), some (.int (nI x)), some (.int (nI (P (2 * x)))), z5, z6]) rfl (Nat.le_of_ble_eq_true rfl) rfl ?_
      refine wn_aload (i := 28) rfl rfl ?_
      refine wp_get (i := 29) (n := 13) (a := o) (v := .ref (o + 9)) rfl hX.1.1 rfl ?_
      refine wn_const (i := 30) (n := 2) rfl rfl ?_
      refine wn_iload (i := 31) rfl rfl ?_
      refine wn_imul (i := 32) (a := 2) (b := x) rfl ?_
      refine wn_const (i := 33) (n := 1) rfl rfl ?_
      refine wn_iadd (i := 34) (a := (2 * x)) (b := 1) rfl ?_
      refine wm_iald (i := 35) (k := 9) (e := ((2 * x) + 1)) (len := 4096) rfl hX (by decide) (by decide) rfl rfl rfl (by omega) (by decide) ?_
      rw [show f1 9 ((2 * x) + 1) = P (2 * x + 1) from by rw [r2]]
      refine wn_istore (i := 36) (ls' := [some (.ref o), some (.int (nI c)), some (.int (nI first)), some (.int (nI x)), some (.int (nI (P (2 * x)))), some (.int (nI (P (2 * x + 1)))), z6]) rfl (Nat.le_of_ble_eq_true rfl) rfl ?_
      have a1 := s3 (2 * x) (by omega)
      have a2 := s3 (2 * x + 1) (by omega)
      refine wn_iload (i := 37) rfl rfl ?_
      refine wn_iload (i := 38) rfl rfl ?_
      refine wn_ic_eq (i := 39) (a := (P (2 * x))) (b := (P (2 * x + 1))) (t' := 82) rfl rfl (by omega) (by omega) (fun c39 => ?_) (fun c39 => ?_)
      · skip
        refine wn_aload (i := 82) rfl rfl ?_
        refine wp_get (i := 83) (n := 13) (a := o) (v := .ref (o + 9)) rfl hX.1.1 rfl ?_
        refine wn_iload (i := 84) rfl rfl ?_
        refine wn_iload (i := 85) rfl rfl ?_
        refine wm_iast (i := 86) (k := 9) (e := x) (x := (P (2 * x))) (len := 4096) rfl hX (by decide) (by decide) rfl rfl rfl (by omega) (by decide) (fun h_86 hX_86 => ?_)
        refine wn_iinc (i := 87) (x := x) (n := 1) (ls' := [some (.ref o), some (.int (nI c)), some (.int (nI first)), some (.int (nI (x + 1))), some (.int (nI (P (2 * x)))), some (.int (nI (P (2 * x + 1)))), z6]) rfl rfl rfl rfl ?_
        refine wn_goto (i := 88) (t' := 18) rfl rfl ?_
        have hsr := hr.put9 x (P (2 * x))
        exact ih (x + 1) _ _ _ _ _ _ (by omega) (by omega) hX_86 (by rw [hnext]; unfold stp; rw [if_pos c39]; exact hsr)
      · skip
        refine wn_iload (i := 40) rfl rfl ?_
        refine wn_istore (i := 41) (ls' := [some (.ref o), some (.int (nI c)), some (.int (nI first)), some (.int (nI x)), some (.int (nI (P (2 * x)))), some (.int (nI (P (2 * x + 1)))), some (.int (nI first))]) rfl (Nat.le_of_ble_eq_true rfl) rfl ?_
        have hndle := nd_le lo hi (P (2 * x)) (P (2 * x + 1)) (N - first) first
        have hfN : first ≤ N := by omega
        refine l_search hX hr ⟨s1, by dsimp only; omega, s3, s4⟩ (by omega) (by omega) (N - first) first (by have := hb.1; omega) (by dsimp only; omega) ?_
        dsimp only
        generalize hke : nd lo hi (P (2 * x)) (P (2 * x + 1)) (N - first) first = k at hndle
        refine wn_iload (i := 60) rfl rfl ?_
        refine wn_aload (i := 61) rfl rfl ?_
        refine wp_get (i := 62) (n := 16) (a := o) (v := .int (nI (n1 16))) rfl hX.1.1 rfl ?_
        refine wn_ic_ne (i := 63) (a := k) (b := (n1 16)) (t' := 80) rfl rfl (by omega) (by omega) (fun c63 => ?_) (fun c63 => ?_)
        · skip
          refine wn_iload (i := 80) rfl rfl ?_
          refine wn_istore (i := 81) (ls' := [some (.ref o), some (.int (nI c)), some (.int (nI first)), some (.int (nI x)), some (.int (nI k)), some (.int (nI (P (2 * x + 1)))), some (.int (nI k))]) rfl (Nat.le_of_ble_eq_true rfl) rfl ?_
          refine wn_aload (i := 82) rfl rfl ?_
          refine wp_get (i := 83) (n := 13) (a := o) (v := .ref (o + 9)) rfl hX.1.1 rfl ?_
          refine wn_iload (i := 84) rfl rfl ?_
          refine wn_iload (i := 85) rfl rfl ?_
          refine wm_iast (i := 86) (k := 9) (e := x) (x := k) (len := 4096) rfl hX (by decide) (by decide) rfl rfl rfl (by omega) (by decide) (fun h_86 hX_86 => ?_)
          refine wn_iinc (i := 87) (x := x) (n := 1) (ls' := [some (.ref o), some (.int (nI c)), some (.int (nI first)), some (.int (nI (x + 1))), some (.int (nI k)), some (.int (nI (P (2 * x + 1)))), some (.int (nI k))]) rfl rfl rfl rfl ?_
          refine wn_goto (i := 88) (t' := 18) rfl rfl ?_
          have hsr := hr.put9 x k
          exact ih (x + 1) _ _ _ _ _ _ (by omega) (by omega) hX_86 (by rw [hnext]; unfold stp; rw [if_neg c39, if_neg (by unfold ndS; dsimp only; omega)]; unfold ndS; dsimp only; rw [hke]; exact hsr)
        · skip
          refine wn_aload (i := 64) rfl rfl ?_
          refine wp_get (i := 65) (n := 14) (a := o) (v := .ref (o + 10)) rfl hX.1.1 rfl ?_
          refine wn_iload (i := 66) rfl rfl ?_
          refine wn_iload (i := 67) rfl rfl ?_
          refine wm_iast (i := 68) (k := 10) (e := k) (x := (P (2 * x))) (len := 4100) rfl hX (by decide) (by decide) rfl rfl rfl (by omega) (by decide) (fun h_68 hX_68 => ?_)
          refine wn_aload (i := 69) rfl rfl ?_
          refine wp_get (i := 70) (n := 15) (a := o) (v := .ref (o + 11)) rfl hX_68.1.1 rfl ?_
          refine wn_iload (i := 71) rfl rfl ?_
          refine wn_iload (i := 72) rfl rfl ?_
          refine wm_iast (i := 73) (k := 11) (e := k) (x := (P (2 * x + 1))) (len := 4100) rfl hX_68 (by decide) (by decide) rfl rfl rfl (by omega) (by decide) (fun h_73 hX_73 => ?_)
          refine wn_aload (i := 74) rfl rfl ?_
          refine wn_dup (i := 75) rfl ?_
          refine wp_get (i := 76) (n := 16) (a := o) (v := .int (nI (n1 16))) rfl hX_73.1.1 rfl ?_
          refine wn_const (i := 77) (n := 1) rfl rfl ?_
          refine wn_iadd (i := 78) (a := (n1 16)) (b := 1) rfl ?_
          refine wm_put (i := 79) (k := 16) (x := ((n1 16) + 1)) rfl hX_73 (by decide) rfl rfl rfl (fun h_79 hX_79 => ?_)
          refine wn_iload (i := 80) rfl rfl ?_
          refine wn_istore (i := 81) (ls' := [some (.ref o), some (.int (nI c)), some (.int (nI first)), some (.int (nI x)), some (.int (nI k)), some (.int (nI (P (2 * x + 1)))), some (.int (nI k))]) rfl (Nat.le_of_ble_eq_true rfl) rfl ?_
          refine wn_aload (i := 82) rfl rfl ?_
          refine wp_get (i := 83) (n := 13) (a := o) (v := .ref (o + 9)) rfl hX_79.1.1 rfl ?_
          refine wn_iload (i := 84) rfl rfl ?_
          refine wn_iload (i := 85) rfl rfl ?_
          refine wm_iast (i := 86) (k := 9) (e := x) (x := k) (len := 4096) rfl hX_79 (by decide) (by decide) rfl rfl rfl (by omega) (by decide) (fun h_86 hX_86 => ?_)
          refine wn_iinc (i := 87) (x := x) (n := 1) (ls' := [some (.ref o), some (.int (nI c)), some (.int (nI first)), some (.int (nI (x + 1))), some (.int (nI k)), some (.int (nI (P (2 * x + 1)))), some (.int (nI k))]) rfl rfl rfl rfl ?_
          refine wn_goto (i := 88) (t' := 18) rfl rfl ?_
          have hsr := (((hr.put10 k (P (2 * x))).put11 k (P (2 * x + 1))).putN (n1 16 + 1)).put9 x k
          have hkN : k = N := by omega
          exact ih (x + 1) _ _ _ _ _ _ (by omega) (by omega) hX_86 (by rw [hnext]; unfold stp; rw [if_neg c39, if_pos (by unfold ndS; dsimp only; omega)]; dsimp only; rw [← hkN, ← c63]; rw [← c63] at hsr; exact hsr)
theorem l_shrink {sF0 : SH} (hQ : ∀ (h' : xm_S) (n1 : Nat → Nat) (f1 : Nat → Nat → Nat) (s : SH), MX o n1 f1 h0 h' → SR n f n1 f1 s → 2 ≤ s.2.1 → s.2.1 ≤ 4098 → s = sF0 → Q (some (.int (nI (s.2.1 - 2)))) h') : ∀ (l : Nat) (h : xm_S) (n1 : Nat → Nat) (f1 : Nat → Nat → Nat) (s : SH) (z2 z3 z4 z5 z6 : Option Value), l ≤ 12 → MX o n1 f1 h0 h → SR n f n1 f1 s → SB s (4098 - 2 ^ l) (2 ^ l) → shr l s = sF0 → xm_wp sc (d) 30 6 [some (.ref o), some (.int (nI (2 ^ l))), z2, z3, z4, z5, z6] [] h Q := by
  intro l
  induction l with
  | zero =>
    intro h n1 f1 s z2 z3 z4 z5 z6 hl hX hr hb he
    have hn16 : n1 16 = s.2.1 := hr.2.2.2.2.1
    obtain ⟨s1, s2, s3, s4⟩ := id hb
    refine wn_iload (i := 6) rfl rfl ?_
    refine wn_const (i := 7) (n := 1) rfl rfl ?_
    refine wn_ic_le (i := 8) (a := 2 ^ 0) (b := 1) (t' := 90) rfl rfl (by decide) (by decide) (fun _ => ?_) (fun q => absurd q (by decide))
    refine wn_aload (i := 90) rfl rfl ?_
    refine wp_get (i := 91) (n := 16) (a := o) (v := .int (nI (n1 16))) rfl hX.1.1 rfl ?_
    refine wn_const (i := 92) (n := 2) rfl rfl ?_
    refine wn_isub (i := 93) (a := n1 16) (b := 2) rfl (by omega) ?_
    rw [hn16]
    exact wn_ret (i := 94) rfl rfl (hQ h n1 f1 s hX hr (by omega) (by omega) he)
  | succ l ih =>
    intro h n1 f1 s z2 z3 z4 z5 z6 hl hX hr hb he
    have hn16 : n1 16 = s.2.1 := hr.2.2.2.2.1
    have hp := xn_p12 (show l ≤ 12 by omega)
    have hp2 : 2 ^ (l + 1) = 2 ^ l * 2 := Nat.pow_succ 2 l
    have hp3 := xn_p12 hl
    have hp0 := Nat.two_pow_pos l
    refine wn_iload (i := 6) rfl rfl ?_
    refine wn_const (i := 7) (n := 1) rfl rfl ?_
    refine wn_ic_le (i := 8) (a := (2 ^ (l + 1))) (b := 1) (t' := 90) rfl rfl (by omega) (by omega) (fun c8 => ?_) (fun c8 => ?_)
    · skip
      exact absurd c8 (by omega)
    · skip
      refine wn_iload (i := 9) rfl rfl ?_
      refine wn_const (i := 10) (n := 2) rfl rfl ?_
      refine wn_idiv (i := 11) (a := (2 ^ (l + 1))) (b := 2) rfl (by omega) (by decide) (by decide) ?_
      rw [show 2 ^ (l + 1) / 2 = 2 ^ l by omega]
      refine wn_istore (i := 12) (ls' := [some (.ref o), some (.int (nI (2 ^ l))), z2, z3, z4, z5, z6]) rfl (Nat.le_of_ble_eq_true rfl) rfl ?_
      refine wn_aload (i := 13) rfl rfl ?_
      refine wp_get (i := 14) (n := 16) (a := o) (v := .int (nI (n1 16))) rfl hX.1.1 rfl ?_
      refine wn_istore (i := 15) (ls' := [some (.ref o), some (.int (nI (2 ^ l))), some (.int (nI (n1 16))), z3, z4, z5, z6]) rfl (Nat.le_of_ble_eq_true rfl) rfl ?_
      refine wn_const (i := 16) (n := 0) rfl rfl ?_
      refine wn_istore (i := 17) (ls' := [some (.ref o), some (.int (nI (2 ^ l))), some (.int (nI (n1 16))), some (.int (nI 0)), z4, z5, z6]) rfl (Nat.le_of_ble_eq_true rfl) rfl ?_
      refine l_level (s0 := s) (b := 4098 - 2 ^ (l + 1)) (M := 2 ^ (l + 1)) (by omega) (by omega) (by omega) hb (by omega) hn16 (fun h' n2 f2 y3 y4 y5 y6 hX2 hr2 => ?_) (2 ^ l + 1) 0 h n1 f1 z4 z5 z6 (Nat.zero_le _) (by omega) hX hr
      have hb2 := SB_lvl hb (first := n1 16) (by omega) (2 ^ l) (by omega) (by omega)
      rw [show 4098 - 2 ^ (l + 1) + 2 ^ l = 4098 - 2 ^ l by omega] at hb2
      exact ih h' n2 f2 _ _ _ _ _ _ (by omega) hX2 hr2 ⟨hb2.1, hb2.2.1, fun j hj => hb2.2.2.1 j (by omega), hb2.2.2.2⟩ (by rw [hn16]; exact he)
theorem m_shrink {P : Nat → Nat} (hX : MX o n (fR f 9 P) h0 h) (hB : n 4 ≤ 12) (hP : ∀ j, j < 2 ^ n 4 → P j < 2) (hQ : ∀ (h' : xm_S) (n1 : Nat → Nat) (f1 : Nat → Nat → Nat), MX o n1 f1 h0 h' → SR n f n1 f1 (shr (n 4) (P, 2, f 10, f 11)) → Q (some (.int (nI ((shr (n 4) (P, 2, f 10, f 11)).2.1 - 2)))) h') : xm_wp sc (d + 1) 30 0 [some (.ref o), none, none, none, none, none, none] [] h Q := by
  refine wn_aload (i := 0) rfl rfl ?_
  refine wn_const (i := 1) (n := 2) rfl rfl ?_
  refine wm_put (i := 2) (k := 16) (x := 2) rfl hX (by decide) rfl rfl rfl (fun h_2 hX_2 => ?_)
  refine wn_aload (i := 3) rfl rfl ?_
  refine wn_callv (i := 4) (as := []) (b := o) (rest := []) (es := [some (.ref o)]) rfl rfl rfl rfl rfl (Nat.le_of_ble_eq_true rfl) rfl hX_2.1.1 rfl ?_
  refine m_all hX_2 hB ?_
  show xm_wp sc (d + 1) 30 5 [some (.ref o), none, none, none, none, none, none] [.int (nI (2 ^ n 4))] h_2 Q
  refine wn_istore (i := 5) (ls' := [some (.ref o), some (.int (nI (2 ^ n 4))), none, none, none, none, none]) rfl (Nat.le_of_ble_eq_true rfl) rfl ?_
  exact l_shrink (n := n) (f := f) (sF0 := shr (n 4) (P, 2, f 10, f 11)) (fun h' n1 f1 s hX hr _ _ es => by subst es; exact hQ h' n1 f1 hX hr) (n 4) _ _ _ (P, 2, f 10, f 11) _ _ _ _ _ hB hX_2 ⟨fun k hk => fR_ne (by omega), fR_same, fR_ne (by decide), fR_ne (by decide), nU_same, fun k hk => nU_ne hk⟩ ⟨Nat.le_refl _, by have := xn_p12 hB; dsimp only; omega, hP, fun k h2 hk => absurd hk (by dsimp only; omega)⟩ rfl
theorem fR_fU {f : Nat → Nat → Nat} {P : Nat → Nat} (e x : Nat) : fU (fR f 9 P) 9 e x = fR f 9 (nU P e x) := fR_up f 9 P e x
theorem l_size (hb : MB n f) {j p : Nat} (hj : j < n 0) (hp : p < 12) (hQ : ∀ (h' : xm_S) (n1 : Nat → Nat) (f1 : Nat → Nat → Nat) (P : Nat → Nat), (∀ x, x < 2 ^ n 4 → P x = f 3 (4096 * j + x) / 2 ^ p &&& 1) → MX o n1 f1 h0 h' → SR n f n1 f1 (shr (n 4) (P, 2, f 10, f 11)) → Q (some (.int (nI ((shr (n 4) (P, 2, f 10, f 11)).2.1 - 2)))) h') : ∀ (m : Nat) (x : Nat) (h : xm_S) (P : Nat → Nat), x ≤ 2 ^ n 4 → 2 ^ n 4 < x + m → MX o n (fR f 9 P) h0 h → (∀ i, i < x → P i = f 3 (4096 * j + i) / 2 ^ p &&& 1) → xm_wp sc (d + 2) 32 18 [some (.ref o), some (.int (nI j)), some (.int (nI p)), some (.int (nI x))] [] h Q := by
  intro m
  induction m with
  | zero => intro x h P h1 h2; exact absurd h2 (by omega)
  | succ m ih =>
    intro x h P h1 h2 hX hm
    obtain ⟨hT, hB, b5, b7, bc, ba, bl, bn⟩ := id hb
    have hN := xn_p12 hB
    refine wn_iload (i := 18) rfl rfl ?_
    refine wn_aload (i := 19) rfl rfl ?_
    refine wn_callv (i := 20) (as := []) (b := o) (rest := [.int (nI x)]) (es := [some (.ref o)]) rfl rfl rfl rfl rfl (Nat.le_of_ble_eq_true rfl) rfl hX.1.1 rfl ?_
    refine m_all hX hB ?_
    show xm_wp sc (d + 2) 32 21 [some (.ref o), some (.int (nI j)), some (.int (nI p)), some (.int (nI x))] [.int (nI (2 ^ n 4)), .int (nI x)] h Q
    refine wn_ic_ge (i := 21) (a := x) (b := (2 ^ n 4)) (t' := 36) rfl rfl (by omega) (by omega) (fun c21 => ?_) (fun c21 => ?_)
    · skip
      refine wn_aload (i := 36) rfl rfl ?_
      refine wn_callv (i := 37) (as := []) (b := o) (rest := []) (es := [some (.ref o), none, none, none, none, none, none]) rfl rfl rfl rfl rfl (Nat.le_of_ble_eq_true rfl) rfl hX.1.1 rfl ?_
      have ex : x = 2 ^ n 4 := by omega
      refine m_shrink hX hB (fun i hi => by rw [hm i (by omega)]; exact Nat.lt_of_le_of_lt Nat.and_le_right (by decide)) (fun h1 n1 f1 hX1 hr1 => ?_)
      show xm_wp sc (d + 2) 32 38 [some (.ref o), some (.int (nI j)), some (.int (nI p)), some (.int (nI x))] [.int (nI ((shr (n 4) (P, 2, f 10, f 11)).2.1 - 2))] h1 Q
      exact wn_ret (i := 38) rfl rfl (hQ h1 n1 f1 P (fun i hi => hm i (by omega)) hX1 hr1)
    · skip
      refine wn_aload (i := 22) rfl rfl ?_
      refine wp_get (i := 23) (n := 13) (a := o) (v := .ref (o + 9)) rfl hX.1.1 rfl ?_
      refine wn_iload (i := 24) rfl rfl ?_
      have hbn := bn (4096 * j + x) (by omega)
      refine wn_aload (i := 25) rfl rfl ?_
      refine wn_iload (i := 26) rfl rfl ?_
      refine wn_iload (i := 27) rfl rfl ?_
      refine wn_callv (i := 28) (as := [.int (nI j), .int (nI x)]) (b := o) (rest := [.int (nI x), .ref (o + 9)]) (es := [some (.ref o), some (.int (nI j)), some (.int (nI x))]) rfl rfl rfl rfl rfl (Nat.le_of_ble_eq_true rfl) rfl hX.1.1 rfl ?_
      refine m_by hX (by omega) ?_
      show xm_wp sc (d + 2) 32 29 [some (.ref o), some (.int (nI j)), some (.int (nI p)), some (.int (nI x))] [.int (nI (f 3 (4096 * j + x))), .int (nI x), .ref (o + 9)] h Q
      refine wn_iload (i := 29) rfl rfl ?_
      refine wn_ishr (i := 30) (a := (f 3 (4096 * j + x))) (b := p) rfl (by omega) (by omega) ?_
      refine wn_const (i := 31) (n := 1) rfl rfl ?_
      refine wn_iand (i := 32) (a := ((f 3 (4096 * j + x)) / 2 ^ p)) (b := 1) rfl ?_
      refine wm_iast (i := 33) (k := 9) (e := x) (x := (((f 3 (4096 * j + x)) / 2 ^ p) &&& 1)) (len := 4096) rfl hX (by decide) (by decide) rfl rfl rfl (by omega) (by decide) (fun h_33 hX_33 => ?_)
      refine wn_iinc (i := 34) (x := x) (n := 1) (ls' := [some (.ref o), some (.int (nI j)), some (.int (nI p)), some (.int (nI (x + 1)))]) rfl rfl rfl rfl ?_
      refine wn_goto (i := 35) (t' := 18) rfl rfl ?_
      rw [fR_fU] at hX_33
      exact ih (x + 1) _ _ (by omega) (by omega) hX_33 (fun i hi => by by_cases q : i = x; rw [q, nU_same]; skip; rw [nU_ne q]; exact hm i (by omega))
theorem m_size (hX : MX o n f h0 h) (hb : MB n f) (hs : ∀ t, t < n 0 → 1 ≤ f 1 t ∧ f 1 t ≤ 12) {a v : Int32} (hBad : (∀ j p, j < n 0 → a = nI j → p < f 1 j → v ≠ nI p) → Q (some (.int (-2))) h) (hQ : ∀ j p, j < n 0 → a = nI j → p < f 1 j → v = nI p → ∀ (h' : xm_S) (n1 : Nat → Nat) (f1 : Nat → Nat → Nat) (P : Nat → Nat), (∀ x, x < 2 ^ n 4 → P x = f 3 (4096 * j + x) / 2 ^ p &&& 1) → MX o n1 f1 h0 h' → SR n f n1 f1 (shr (n 4) (P, 2, f 10, f 11)) → Q (some (.int (nI ((shr (n 4) (P, 2, f 10, f 11)).2.1 - 2)))) h') : xm_wp sc (d + 2) 32 0 [some (.ref o), some (.int a), some (.int v), none] [] h Q := by
  have hT := hb.1
  refine wn_aload (i := 0) rfl rfl ?_
  refine wn_iload (i := 1) rfl rfl ?_
  refine wn_callv (i := 2) (as := [.int a]) (b := o) (rest := []) (es := [some (.ref o), some (.int a)]) rfl rfl rfl rfl rfl (Nat.le_of_ble_eq_true rfl) rfl hX.1.1 rfl ?_
  refine m_has hX hT (fun j hj ej => ?_) (fun hno2 => ?_)
  · skip
    subst ej
    show xm_wp sc (d + 2) 32 3 [some (.ref o), some (.int (nI j)), some (.int v), none] [.int (nI (true).toNat)] h Q
    refine wb_if_eq (i := 3) (b := true) (t' := 14) rfl rfl (fun c3 => ?_) (fun c3 => ?_)
    · cases c3
    · skip
      have hsj := hs j hj
      refine wn_iload (i := 4) rfl rfl ?_
      refine wn_const (i := 5) (n := 0) rfl rfl ?_
      refine wn_aload (i := 6) rfl rfl ?_
      refine wp_get (i := 7) (n := 1) (a := o) (v := .ref (o + 1)) rfl hX.1.1 rfl ?_
      refine wn_iload (i := 8) rfl rfl ?_
      refine wm_iald (i := 9) (k := 1) (e := j) (len := 24) rfl hX (by decide) (by decide) rfl rfl rfl (by omega) (by decide) ?_
      refine wn_const (i := 10) (n := 1) rfl rfl ?_
      refine wn_isub (i := 11) (a := (f 1 j)) (b := 1) rfl (by omega) ?_
      refine wn_calls (i := 12) (as := [.int v, .int (nI 0), .int (nI ((f 1 j) - 1))]) (rest := []) (es := [some (.int v), some (.int (nI 0)), some (.int (nI ((f 1 j) - 1)))]) rfl rfl (by decide) rfl rfl rfl (Nat.le_of_ble_eq_true rfl) rfl rfl ?_
      refine m_isIn (fun q1 q2 => ?_) (fun q0 => ?_)
      · skip
        obtain ⟨p, hp1, hp2, rfl⟩ := xn_isIn2 (by omega) (by omega) q1 q2
        show xm_wp sc (d + 2) 32 13 [some (.ref o), some (.int (nI j)), some (.int (nI p)), none] [.int (nI (true).toNat)] h Q
        refine wb_if_ne (i := 13) (b := true) (t' := 16) rfl rfl (fun c13 => ?_) (fun c13 => ?_)
        · skip
          refine wn_const (i := 16) (n := 0) rfl rfl ?_
          refine wn_istore (i := 17) (ls' := [some (.ref o), some (.int (nI j)), some (.int (nI p)), some (.int (nI 0))]) rfl (Nat.le_of_ble_eq_true rfl) rfl ?_
          exact l_size hb hj (by omega) (hQ j p hj rfl (by omega) rfl) (2 ^ n 4 + 1) 0 h (f 9) (Nat.zero_le _) (by omega) (by rw [fR_id (fun _ => rfl)]; exact hX) (fun i hi => absurd hi (Nat.not_lt_zero _))
        · cases c13
      · skip
        have hin1 : ∀ z_, 0 ≤ z_ → z_ ≤ (f 1 j) - 1 → v ≠ nI z_ := xn_notIn2 (by omega) (by omega) q0
        show xm_wp sc (d + 2) 32 13 [some (.ref o), some (.int (nI j)), some (.int v), none] [.int (nI (false).toNat)] h Q
        refine wb_if_ne (i := 13) (b := false) (t' := 16) rfl rfl (fun c13 => ?_) (fun c13 => ?_)
        · cases c13
        · skip
          refine wn_constI (i := 14) (n := -2) rfl rfl ?_
          exact wn_ret (i := 15) rfl rfl (hBad (fun j' p' h1 h2 h3 => by first | exact absurd h2 (hno2 j' h1) | (have e2 := (nI_eq (by omega) (by omega)).mp h2; subst e2; exact hin1 p' (Nat.zero_le _) (by omega))))
  · skip
    show xm_wp sc (d + 2) 32 3 [some (.ref o), some (.int a), some (.int v), none] [.int (nI (false).toNat)] h Q
    refine wb_if_eq (i := 3) (b := false) (t' := 14) rfl rfl (fun c3 => ?_) (fun c3 => ?_)
    · skip
      refine wn_constI (i := 14) (n := -2) rfl rfl ?_
      exact wn_ret (i := 15) rfl rfl (hBad (fun j' p' h1 h2 h3 => by first | exact absurd h2 (hno2 j' h1) | (have e2 := (nI_eq (by omega) (by omega)).mp h2; subst e2; exact hin1 p' (Nat.zero_le _) (by omega))))
    · cases c3
theorem l_great (hb : MB n f) (hQ : ∀ (h' : xm_S) (n1 : Nat → Nat) (f1 : Nat → Nat → Nat) (P : Nat → Nat), (∀ x, x < 2 ^ n 4 → P x = (mB n f x).toNat) → MX o n1 f1 h0 h' → SR n f n1 f1 (shr (n 4) (P, 2, f 10, f 11)) → Q (some (.int (nI ((shr (n 4) (P, 2, f 10, f 11)).2.1 - 2)))) h') : ∀ (m : Nat) (x : Nat) (h : xm_S) (P : Nat → Nat), x ≤ 2 ^ n 4 → 2 ^ n 4 < x + m → MX o n (fR f 9 P) h0 h → (∀ i, i < x → P i = (mB n f i).toNat) → xm_wp sc (d + 2) 18 2 [some (.ref o), some (.int (nI x))] [] h Q := by
  intro m
  induction m with
  | zero => intro x h P h1 h2; exact absurd h2 (by omega)
  | succ m ih =>
    intro x h P h1 h2 hX hm
    obtain ⟨hT, hB, b5, b7, bc, ba, bl, bn⟩ := id hb
    have hN := xn_p12 hB
    have hs : sF f (fR f 9 P) := fun k hk => fR_ne (by omega)
    refine wn_iload (i := 2) rfl rfl ?_
    refine wn_aload (i := 3) rfl rfl ?_
    refine wn_callv (i := 4) (as := []) (b := o) (rest := [.int (nI x)]) (es := [some (.ref o)]) rfl rfl rfl rfl rfl (Nat.le_of_ble_eq_true rfl) rfl hX.1.1 rfl ?_
    refine m_all hX hB ?_
    show xm_wp sc (d + 2) 18 5 [some (.ref o), some (.int (nI x))] [.int (nI (2 ^ n 4)), .int (nI x)] h Q
    refine wn_ic_ge (i := 5) (a := x) (b := (2 ^ n 4)) (t' := 19) rfl rfl (by omega) (by omega) (fun c5 => ?_) (fun c5 => ?_)
    · skip
      refine wn_aload (i := 19) rfl rfl ?_
      refine wn_callv (i := 20) (as := []) (b := o) (rest := []) (es := [some (.ref o), none, none, none, none, none, none]) rfl rfl rfl rfl rfl (Nat.le_of_ble_eq_true rfl) rfl hX.1.1 rfl ?_
      have ex : x = 2 ^ n 4 := by omega
      refine m_shrink hX hB (fun i hi => by rw [hm i (by omega)]; have := xn_tn (mB n f i); omega) (fun h1 n1 f1 hX1 hr1 => ?_)
      show xm_wp sc (d + 2) 18 21 [some (.ref o), some (.int (nI x))] [.int (nI ((shr (n 4) (P, 2, f 10, f 11)).2.1 - 2))] h1 Q
      exact wn_ret (i := 21) rfl rfl (hQ h1 n1 f1 P (fun i hi => hm i (by omega)) hX1 hr1)
    · skip
      refine wn_aload (i := 6) rfl rfl ?_
      refine wp_get (i := 7) (n := 13) (a := o) (v := .ref (o + 9)) rfl hX.1.1 rfl ?_
      refine wn_iload (i := 8) rfl rfl ?_
      refine wn_aload (i := 9) rfl rfl ?_
      refine wn_iload (i := 10) rfl rfl ?_
      refine wn_callv (i := 11) (as := [.int (nI x)]) (b := o) (rest := [.int (nI x), .ref (o + 9)]) (es := [some (.ref o), some (.int (nI x)), none, none]) rfl rfl rfl rfl rfl (Nat.le_of_ble_eq_true rfl) rfl hX.1.1 rfl ?_
      refine m_isModelS hX hs hb (by omega) ?_
      show xm_wp sc (d + 2) 18 12 [some (.ref o), some (.int (nI x))] [.int (nI (mB n f x).toNat), .int (nI x), .ref (o + 9)] h Q
      refine wb_if_eq (i := 12) (b := (mB n f x)) (t' := 15) rfl rfl (fun c12 => ?_) (fun c12 => ?_)
      · skip
        refine wn_const (i := 15) (n := 0) rfl rfl ?_
        refine wm_iast (i := 16) (k := 9) (e := x) (x := 0) (len := 4096) rfl hX (by decide) (by decide) rfl rfl rfl (by omega) (by decide) (fun h_16 hX_16 => ?_)
        refine wn_iinc (i := 17) (x := x) (n := 1) (ls' := [some (.ref o), some (.int (nI (x + 1)))]) rfl rfl rfl rfl ?_
        refine wn_goto (i := 18) (t' := 2) rfl rfl ?_
        rw [fR_fU] at hX_16
        exact ih (x + 1) _ _ (by omega) (by omega) hX_16 (fun i hi => by by_cases q : i = x; rw [q, nU_same]; rw [c12]; rfl; rw [nU_ne q]; exact hm i (by omega))
      · skip
        refine wn_const (i := 13) (n := 1) rfl rfl ?_
        refine wn_goto (i := 14) (t' := 16) rfl rfl ?_
        refine wm_iast (i := 16) (k := 9) (e := x) (x := 1) (len := 4096) rfl hX (by decide) (by decide) rfl rfl rfl (by omega) (by decide) (fun h_16 hX_16 => ?_)
        refine wn_iinc (i := 17) (x := x) (n := 1) (ls' := [some (.ref o), some (.int (nI (x + 1)))]) rfl rfl rfl rfl ?_
        refine wn_goto (i := 18) (t' := 2) rfl rfl ?_
        rw [fR_fU] at hX_16
        exact ih (x + 1) _ _ (by omega) (by omega) hX_16 (fun i hi => by by_cases q : i = x; rw [q, nU_same]; rw [c12]; rfl; rw [nU_ne q]; exact hm i (by omega))
theorem m_great (hX : MX o n f h0 h) (hb : MB n f) (hQ : ∀ (h' : xm_S) (n1 : Nat → Nat) (f1 : Nat → Nat → Nat) (P : Nat → Nat), (∀ x, x < 2 ^ n 4 → P x = (mB n f x).toNat) → MX o n1 f1 h0 h' → SR n f n1 f1 (shr (n 4) (P, 2, f 10, f 11)) → Q (some (.int (nI ((shr (n 4) (P, 2, f 10, f 11)).2.1 - 2)))) h') : xm_wp sc (d + 2) 18 0 [some (.ref o), none] [] h Q := by
  refine wn_const (i := 0) (n := 0) rfl rfl ?_
  refine wn_istore (i := 1) (ls' := [some (.ref o), some (.int (nI 0))]) rfl (Nat.le_of_ble_eq_true rfl) rfl ?_
  exact l_great hb hQ (2 ^ n 4 + 1) 0 h (f 9) (Nat.zero_le _) (by omega) (by rw [fR_id (fun _ => rfl)]; exact hX) (fun i hi => absurd hi (Nat.not_lt_zero _))
end MM
end
section
/-! ===== the reference: without, and its start ===== -/
/-- the bits of the variables among m terms from t on -/
def bS (f : Nat → Nat → Nat) (t : Nat) : Nat → Nat
  | 0 => 0
  | m + 1 => bS f t m + (if f 2 (t + m) ≠ 0 then f 1 (t + m) else 0)
def wM (n : Nat → Nat) (f : Nat → Nat → Nat) (x bl : Nat) : Nat → Nat
  | 0 => 0
  | v + 1 => wM n f x bl v + (mB n f (x ||| v * 2 ^ bl)).toNat
theorem wM_le (n : Nat → Nat) (f : Nat → Nat → Nat) (x bl : Nat) : ∀ v, wM n f x bl v ≤ v
  | 0 => Nat.le_refl _
  | v + 1 => by
    have := wM_le n f x bl v
    have h2 := xn_tn (mB n f (x ||| v * 2 ^ bl))
    show wM n f x bl v + _ ≤ v + 1
    omega
def wO (n : Nat → Nat) (f : Nat → Nat → Nat) (bl w : Nat) (any : Bool) (x : Nat) : Nat := if any = true then (if wM n f x bl (2 ^ w) = 2 ^ w then 1 else 0) else (if 0 < wM n f x bl (2 ^ w) then 1 else 0)
def wN (n : Nat → Nat) (f : Nat → Nat → Nat) (bl w : Nat) (any : Bool) : Nat → Nat
  | 0 => 0
  | x + 1 => wN n f bl w any x + (if x / 2 ^ bl &&& (2 ^ w - 1) = 0 then wO n f bl w any x else 0)
theorem wN_le (n : Nat → Nat) (f : Nat → Nat → Nat) (bl w : Nat) (any : Bool) : ∀ x, wN n f bl w any x ≤ x
  | 0 => Nat.le_refl _
  | x + 1 => by
    have := wN_le n f bl w any x
    have h1 : wO n f bl w any x ≤ 1 := by unfold wO; split <;> split <;> omega
    show wN n f bl w any x + _ ≤ x + 1
    split <;> omega
section MM
variable {sc : Nat × Nat × (Nat → Int32)} {d o : Nat} {h h0 : xm_S} {Q : Option Value → xm_S → Prop} {n : Nat → Nat} {f : Nat → Nat → Nat}
theorem l_without3 (hX : MX o n f h0 h) (hb : MB n f) {j bl q x w : Nat} {g : Bool} (hj : j < n 0) (hw : f 1 j = w) (hw2 : bl + w ≤ 12) (hx : x < 4096) (hQ : xm_wp sc (d + 2) 37 82 [some (.ref o), some (.int (nI j)), some (.int (nI (g).toNat)), some (.int (nI bl)), some (.int (nI q)), some (.int (nI x)), some (.int (nI (wM n f x bl (2 ^ w)))), some (.int (nI (2 ^ w)))] [] h Q) : ∀ (m : Nat) (v c : Nat), v ≤ 2 ^ w → 2 ^ w < v + m → c = wM n f x bl v → xm_wp sc (d + 2) 37 59 [some (.ref o), some (.int (nI j)), some (.int (nI (g).toNat)), some (.int (nI bl)), some (.int (nI q)), some (.int (nI x)), some (.int (nI c)), some (.int (nI v))] [] h Q := by
  intro m
  induction m with
  | zero => intro v c h1 h2; exact absurd h2 (by omega)
  | succ m ih =>
    intro v c h1 h2 ec
    obtain ⟨hT, hB, b5, b7, bc, ba, bll, bn⟩ := id hb
    have hp := xn_p12 (show w ≤ 12 by omega)
    have hp0 := Nat.two_pow_pos w
    have hpb := Nat.two_pow_pos bl
    have hpp : 2 ^ w * 2 ^ bl ≤ 4096 := by rw [← Nat.pow_add]; exact xn_p12 (by omega)
    have hcl := wM_le n f x bl v
    subst ec
    refine wn_iload (i := 59) rfl rfl ?_
    refine wn_aload (i := 60) rfl rfl ?_
    refine wp_get (i := 61) (n := 1) (a := o) (v := .ref (o + 1)) rfl hX.1.1 rfl ?_
    refine wn_iload (i := 62) rfl rfl ?_
    refine wm_iald (i := 63) (k := 1) (e := j) (len := 24) rfl hX (by decide) (by decide) rfl rfl rfl (by omega) (by decide) ?_
    rw [show f 1 j = w from hw]
    refine wn_calls (i := 64) (as := [.int (nI w)]) (rest := [.int (nI v)]) (es := [some (.int (nI w))]) rfl rfl (by decide) rfl rfl rfl (Nat.le_of_ble_eq_true rfl) rfl rfl ?_
    refine m_mask (by omega) ?_
    show xm_wp sc (d + 2) 37 65 [some (.ref o), some (.int (nI j)), some (.int (nI (g).toNat)), some (.int (nI bl)), some (.int (nI q)), some (.int (nI x)), some (.int (nI (wM n f x bl v))), some (.int (nI v))] [.int (nI (2 ^ w - 1)), .int (nI v)] h Q
    refine wn_ic_gt (i := 65) (a := v) (b := (2 ^ w - 1)) (t' := 82) rfl rfl (by omega) (by omega) (fun c65 => ?_) (fun c65 => ?_)
    · skip
      have ev : v = 2 ^ w := by omega
      rw [ev]
      exact hQ
    · skip
      have hvb : v * 2 ^ bl < 4096 := Nat.lt_of_lt_of_le (Nat.mul_lt_mul_of_pos_right (show v < 2 ^ w by omega) hpb) hpp
      have hor : x ||| v * 2 ^ bl < 4096 := Nat.or_lt_two_pow (n := 12) hx hvb
      refine wn_iload (i := 66) rfl rfl ?_
      refine wn_aload (i := 67) rfl rfl ?_
      refine wn_iload (i := 68) rfl rfl ?_
      refine wn_iload (i := 69) rfl rfl ?_
      refine wn_iload (i := 70) rfl rfl ?_
      refine wn_ishl (i := 71) (a := v) (b := bl) rfl (by omega) (by omega) ?_
      refine wn_ior (i := 72) (a := x) (b := (v * 2 ^ bl)) rfl ?_
      refine wn_callv (i := 73) (as := [.int (nI (x ||| (v * 2 ^ bl)))]) (b := o) (rest := [.int (nI (wM n f x bl v))]) (es := [some (.ref o), some (.int (nI (x ||| (v * 2 ^ bl)))), none, none]) rfl rfl rfl rfl rfl (Nat.le_of_ble_eq_true rfl) rfl hX.1.1 rfl ?_
      refine m_isModel hX hb (by omega) ?_
      show xm_wp sc (d + 2) 37 74 [some (.ref o), some (.int (nI j)), some (.int (nI (g).toNat)), some (.int (nI bl)), some (.int (nI q)), some (.int (nI x)), some (.int (nI (wM n f x bl v))), some (.int (nI v))] [.int (nI (mB n f (x ||| (v * 2 ^ bl))).toNat), .int (nI (wM n f x bl v))] h Q
      refine wb_if_eq (i := 74) (b := (mB n f (x ||| (v * 2 ^ bl)))) (t' := 77) rfl rfl (fun c74 => ?_) (fun c74 => ?_)
      · skip
        refine wn_const (i := 77) (n := 0) rfl rfl ?_
        refine wn_iadd (i := 78) (a := (wM n f x bl v)) (b := 0) rfl ?_
        refine wn_istore (i := 79) (ls' := [some (.ref o), some (.int (nI j)), some (.int (nI (g).toNat)), some (.int (nI bl)), some (.int (nI q)), some (.int (nI x)), some (.int (nI ((wM n f x bl v) + 0))), some (.int (nI v))]) rfl (Nat.le_of_ble_eq_true rfl) rfl ?_
        refine wn_iinc (i := 80) (x := v) (n := 1) (ls' := [some (.ref o), some (.int (nI j)), some (.int (nI (g).toNat)), some (.int (nI bl)), some (.int (nI q)), some (.int (nI x)), some (.int (nI ((wM n f x bl v) + 0))), some (.int (nI (v + 1)))]) rfl rfl rfl rfl ?_
        refine wn_goto (i := 81) (t' := 59) rfl rfl ?_
        exact ih (v + 1) _ (by omega) (by omega) (by show _ = wM n f x bl v + (mB n f (x ||| v * 2 ^ bl)).toNat; rw [c74]; rfl)
      · skip
        refine wn_const (i := 75) (n := 1) rfl rfl ?_
        refine wn_goto (i := 76) (t' := 78) rfl rfl ?_
        refine wn_iadd (i := 78) (a := (wM n f x bl v)) (b := 1) rfl ?_
        refine wn_istore (i := 79) (ls' := [some (.ref o), some (.int (nI j)), some (.int (nI (g).toNat)), some (.int (nI bl)), some (.int (nI q)), some (.int (nI x)), some (.int (nI ((wM n f x bl v) + 1))), some (.int (nI v))]) rfl (Nat.le_of_ble_eq_true rfl) rfl ?_
        refine wn_iinc (i := 80) (x := v) (n := 1) (ls' := [some (.ref o), some (.int (nI j)), some (.int (nI (g).toNat)), some (.int (nI bl)), some (.int (nI q)), some (.int (nI x)), some (.int (nI ((wM n f x bl v) + 1))), some (.int (nI (v + 1)))]) rfl rfl rfl rfl ?_
        refine wn_goto (i := 81) (t' := 59) rfl rfl ?_
        exact ih (v + 1) _ (by omega) (by omega) (by show _ = wM n f x bl v + (mB n f (x ||| v * 2 ^ bl)).toNat; rw [c74]; rfl)
theorem l_without2 (hX : MX o n f h0 h) (hb : MB n f) {j bl w : Nat} {g : Bool} (hj : j < n 0) (hw : f 1 j = w) (hw2 : bl + w ≤ 12) (hQ : Q (some (.int (nI (wN n f bl w g (2 ^ n 4))))) h) : ∀ (m : Nat) (x q : Nat) (z6 z7 : Option Value), x ≤ 2 ^ n 4 → 2 ^ n 4 < x + m → q = wN n f bl w g x → xm_wp sc (d + 2) 37 41 [some (.ref o), some (.int (nI j)), some (.int (nI (g).toNat)), some (.int (nI bl)), some (.int (nI q)), some (.int (nI x)), z6, z7] [] h Q := by
  intro m
  induction m with
  | zero => intro x q z6 z7 h1 h2; exact absurd h2 (by omega)
  | succ m ih =>
    intro x q z6 z7 h1 h2 eq
    obtain ⟨hT, hB, b5, b7, bc, ba, bll, bn⟩ := id hb
    have hN := xn_p12 hB
    have hp := xn_p12 (show w ≤ 12 by omega)
    have hp0 := Nat.two_pow_pos w
    have hql := wN_le n f bl w g x
    have hml := wM_le n f x bl (2 ^ w)
    have hand : x / 2 ^ bl &&& (2 ^ w - 1) ≤ 2 ^ w - 1 := Nat.and_le_right
    subst eq
    refine wn_iload (i := 41) rfl rfl ?_
    refine wn_aload (i := 42) rfl rfl ?_
    refine wn_callv (i := 43) (as := []) (b := o) (rest := [.int (nI x)]) (es := [some (.ref o)]) rfl rfl rfl rfl rfl (Nat.le_of_ble_eq_true rfl) rfl hX.1.1 rfl ?_
    refine m_all hX hB ?_
    show xm_wp sc (d + 2) 37 44 [some (.ref o), some (.int (nI j)), some (.int (nI (g).toNat)), some (.int (nI bl)), some (.int (nI (wN n f bl w g x))), some (.int (nI x)), z6, z7] [.int (nI (2 ^ n 4)), .int (nI x)] h Q
    refine wn_ic_ge (i := 44) (a := x) (b := (2 ^ n 4)) (t' := 107) rfl rfl (by omega) (by omega) (fun c44 => ?_) (fun c44 => ?_)
    · skip
      have ex : x = 2 ^ n 4 := by omega
      subst ex
      refine wn_iload (i := 107) rfl rfl ?_
      exact wn_ret (i := 108) rfl rfl hQ
    · skip
      refine wn_iload (i := 45) rfl rfl ?_
      refine wn_iload (i := 46) rfl rfl ?_
      refine wn_ishr (i := 47) (a := x) (b := bl) rfl (by omega) (by omega) ?_
      refine wn_aload (i := 48) rfl rfl ?_
      refine wp_get (i := 49) (n := 1) (a := o) (v := .ref (o + 1)) rfl hX.1.1 rfl ?_
      refine wn_iload (i := 50) rfl rfl ?_
      refine wm_iald (i := 51) (k := 1) (e := j) (len := 24) rfl hX (by decide) (by decide) rfl rfl rfl (by omega) (by decide) ?_
      rw [show f 1 j = w from hw]
      refine wn_calls (i := 52) (as := [.int (nI w)]) (rest := [.int (nI (x / 2 ^ bl))]) (es := [some (.int (nI w))]) rfl rfl (by decide) rfl rfl rfl (Nat.le_of_ble_eq_true rfl) rfl rfl ?_
      refine m_mask (by omega) ?_
      show xm_wp sc (d + 2) 37 53 [some (.ref o), some (.int (nI j)), some (.int (nI (g).toNat)), some (.int (nI bl)), some (.int (nI (wN n f bl w g x))), some (.int (nI x)), z6, z7] [.int (nI (2 ^ w - 1)), .int (nI (x / 2 ^ bl))] h Q
      refine wn_iand (i := 53) (a := (x / 2 ^ bl)) (b := (2 ^ w - 1)) rfl ?_
      refine wn_if_ne (i := 54) (a := ((x / 2 ^ bl) &&& (2 ^ w - 1))) (t' := 105) rfl rfl (by omega) (fun c54 => ?_) (fun c54 => ?_)
      · skip
        refine wn_iinc (i := 105) (x := x) (n := 1) (ls' := [some (.ref o), some (.int (nI j)), some (.int (nI (g).toNat)), some (.int (nI bl)), some (.int (nI (wN n f bl w g x))), some (.int (nI (x + 1))), z6, z7]) rfl rfl rfl rfl ?_
        refine wn_goto (i := 106) (t' := 41) rfl rfl ?_
        exact ih (x + 1) _ _ _ (by omega) (by omega) (by show _ = wN n f bl w g x + _; rw [if_neg c54]; rfl)
      · skip
        refine wn_const (i := 55) (n := 0) rfl rfl ?_
        refine wn_istore (i := 56) (ls' := [some (.ref o), some (.int (nI j)), some (.int (nI (g).toNat)), some (.int (nI bl)), some (.int (nI (wN n f bl w g x))), some (.int (nI x)), some (.int (nI 0)), z7]) rfl (Nat.le_of_ble_eq_true rfl) rfl ?_
        refine wn_const (i := 57) (n := 0) rfl rfl ?_
        refine wn_istore (i := 58) (ls' := [some (.ref o), some (.int (nI j)), some (.int (nI (g).toNat)), some (.int (nI bl)), some (.int (nI (wN n f bl w g x))), some (.int (nI x)), some (.int (nI 0)), some (.int (nI 0))]) rfl (Nat.le_of_ble_eq_true rfl) rfl ?_
        refine l_without3 hX hb hj hw hw2 (by omega) ?_ (2 ^ w + 1) 0 0 (Nat.zero_le _) (by omega) rfl
        refine wn_iload (i := 82) rfl rfl ?_
        refine wn_iload (i := 83) rfl rfl ?_
        refine wb_if_eq (i := 84) (b := g) (t' := 98) rfl rfl (fun c84 => ?_) (fun c84 => ?_)
        · skip
          refine wn_iload (i := 98) rfl rfl ?_
          refine wn_if_le (i := 99) (a := (wM n f x bl (2 ^ w))) (t' := 102) rfl rfl (by omega) (fun c99 => ?_) (fun c99 => ?_)
          · skip
            refine wn_const (i := 102) (n := 0) rfl rfl ?_
            refine wn_iadd (i := 103) (a := (wN n f bl w g x)) (b := 0) rfl ?_
            refine wn_istore (i := 104) (ls' := [some (.ref o), some (.int (nI j)), some (.int (nI (g).toNat)), some (.int (nI bl)), some (.int (nI ((wN n f bl w g x) + 0))), some (.int (nI x)), some (.int (nI (wM n f x bl (2 ^ w)))), some (.int (nI (2 ^ w)))]) rfl (Nat.le_of_ble_eq_true rfl) rfl ?_
            refine wn_iinc (i := 105) (x := x) (n := 1) (ls' := [some (.ref o), some (.int (nI j)), some (.int (nI (g).toNat)), some (.int (nI bl)), some (.int (nI ((wN n f bl w g x) + 0))), some (.int (nI (x + 1))), some (.int (nI (wM n f x bl (2 ^ w)))), some (.int (nI (2 ^ w)))]) rfl rfl rfl rfl ?_
            refine wn_goto (i := 106) (t' := 41) rfl rfl ?_
            exact ih (x + 1) _ _ _ (by omega) (by omega) (by show _ = wN n f bl w g x + _; rw [if_pos c54]; unfold wO; rw [if_neg (by rw [c84]; decide)]; first | rw [if_pos (by omega)] | rw [if_neg (by omega)])
          · skip
            refine wn_const (i := 100) (n := 1) rfl rfl ?_
            refine wn_goto (i := 101) (t' := 103) rfl rfl ?_
            refine wn_iadd (i := 103) (a := (wN n f bl w g x)) (b := 1) rfl ?_
            refine wn_istore (i := 104) (ls' := [some (.ref o), some (.int (nI j)), some (.int (nI (g).toNat)), some (.int (nI bl)), some (.int (nI ((wN n f bl w g x) + 1))), some (.int (nI x)), some (.int (nI (wM n f x bl (2 ^ w)))), some (.int (nI (2 ^ w)))]) rfl (Nat.le_of_ble_eq_true rfl) rfl ?_
            refine wn_iinc (i := 105) (x := x) (n := 1) (ls' := [some (.ref o), some (.int (nI j)), some (.int (nI (g).toNat)), some (.int (nI bl)), some (.int (nI ((wN n f bl w g x) + 1))), some (.int (nI (x + 1))), some (.int (nI (wM n f x bl (2 ^ w)))), some (.int (nI (2 ^ w)))]) rfl rfl rfl rfl ?_
            refine wn_goto (i := 106) (t' := 41) rfl rfl ?_
            exact ih (x + 1) _ _ _ (by omega) (by omega) (by show _ = wN n f bl w g x + _; rw [if_pos c54]; unfold wO; rw [if_neg (by rw [c84]; decide)]; first | rw [if_pos (by omega)] | rw [if_neg (by omega)])
        · skip
          refine wn_iload (i := 85) rfl rfl ?_
          refine wn_aload (i := 86) rfl rfl ?_
          refine wp_get (i := 87) (n := 1) (a := o) (v := .ref (o + 1)) rfl hX.1.1 rfl ?_
          refine wn_iload (i := 88) rfl rfl ?_
          refine wm_iald (i := 89) (k := 1) (e := j) (len := 24) rfl hX (by decide) (by decide) rfl rfl rfl (by omega) (by decide) ?_
          rw [show f 1 j = w from hw]
          refine wn_calls (i := 90) (as := [.int (nI w)]) (rest := [.int (nI (wM n f x bl (2 ^ w))), .int (nI (wN n f bl w g x))]) (es := [some (.int (nI w))]) rfl rfl (by decide) rfl rfl rfl (Nat.le_of_ble_eq_true rfl) rfl rfl ?_
          refine m_mask (by omega) ?_
          show xm_wp sc (d + 2) 37 91 [some (.ref o), some (.int (nI j)), some (.int (nI (g).toNat)), some (.int (nI bl)), some (.int (nI (wN n f bl w g x))), some (.int (nI x)), some (.int (nI (wM n f x bl (2 ^ w)))), some (.int (nI (2 ^ w)))] [.int (nI (2 ^ w - 1)), .int (nI (wM n f x bl (2 ^ w))), .int (nI (wN n f bl w g x))] h Q
          refine wn_const (i := 91) (n := 1) rfl rfl ?_
          refine wn_iadd (i := 92) (a := (2 ^ w - 1)) (b := 1) rfl ?_
          refine wn_ic_ne (i := 93) (a := (wM n f x bl (2 ^ w))) (b := ((2 ^ w - 1) + 1)) (t' := 96) rfl rfl (by omega) (by omega) (fun c93 => ?_) (fun c93 => ?_)
          · skip
            refine wn_const (i := 96) (n := 0) rfl rfl ?_
            refine wn_goto (i := 97) (t' := 103) rfl rfl ?_
            refine wn_iadd (i := 103) (a := (wN n f bl w g x)) (b := 0) rfl ?_
            refine wn_istore (i := 104) (ls' := [some (.ref o), some (.int (nI j)), some (.int (nI (g).toNat)), some (.int (nI bl)), some (.int (nI ((wN n f bl w g x) + 0))), some (.int (nI x)), some (.int (nI (wM n f x bl (2 ^ w)))), some (.int (nI (2 ^ w)))]) rfl (Nat.le_of_ble_eq_true rfl) rfl ?_
            refine wn_iinc (i := 105) (x := x) (n := 1) (ls' := [some (.ref o), some (.int (nI j)), some (.int (nI (g).toNat)), some (.int (nI bl)), some (.int (nI ((wN n f bl w g x) + 0))), some (.int (nI (x + 1))), some (.int (nI (wM n f x bl (2 ^ w)))), some (.int (nI (2 ^ w)))]) rfl rfl rfl rfl ?_
            refine wn_goto (i := 106) (t' := 41) rfl rfl ?_
            exact ih (x + 1) _ _ _ (by omega) (by omega) (by show _ = wN n f bl w g x + _; rw [if_pos c54]; unfold wO; rw [if_pos c84]; first | rw [if_pos (by omega)] | rw [if_neg (by omega)])
          · skip
            refine wn_const (i := 94) (n := 1) rfl rfl ?_
            refine wn_goto (i := 95) (t' := 103) rfl rfl ?_
            refine wn_iadd (i := 103) (a := (wN n f bl w g x)) (b := 1) rfl ?_
            refine wn_istore (i := 104) (ls' := [some (.ref o), some (.int (nI j)), some (.int (nI (g).toNat)), some (.int (nI bl)), some (.int (nI ((wN n f bl w g x) + 1))), some (.int (nI x)), some (.int (nI (wM n f x bl (2 ^ w)))), some (.int (nI (2 ^ w)))]) rfl (Nat.le_of_ble_eq_true rfl) rfl ?_
            refine wn_iinc (i := 105) (x := x) (n := 1) (ls' := [some (.ref o), some (.int (nI j)), some (.int (nI (g).toNat)), some (.int (nI bl)), some (.int (nI ((wN n f bl w g x) + 1))), some (.int (nI (x + 1))), some (.int (nI (wM n f x bl (2 ^ w)))), some (.int (nI (2 ^ w)))]) rfl rfl rfl rfl ?_
            refine wn_goto (i := 106) (t' := 41) rfl rfl ?_
            exact ih (x + 1) _ _ _ (by omega) (by omega) (by show _ = wN n f bl w g x + _; rw [if_pos c54]; unfold wO; rw [if_pos c84]; first | rw [if_pos (by omega)] | rw [if_neg (by omega)])
theorem l_without1 (hX : MX o n f h0 h) (hb : MB n f) {j : Nat} {g : Bool} (hj : j < n 0) (hs : ∀ t, t < n 0 → f 1 t ≤ 12 ∧ f 2 t ≤ 1) (hbl : bS f (j + 1) (n 0 - (j + 1)) + f 1 j ≤ 12) (hmono : ∀ a b, a ≤ b → bS f (j + 1) a ≤ bS f (j + 1) b) (hQ : Q (some (.int (nI (wN n f (bS f (j + 1) (n 0 - (j + 1))) (f 1 j) g (2 ^ n 4))))) h) : ∀ (m : Nat) (t b : Nat) (z5 z6 z7 : Option Value), j + 1 + t ≤ n 0 → n 0 < j + 1 + t + m → b = bS f (j + 1) t → xm_wp sc (d + 2) 37 17 [some (.ref o), some (.int (nI j)), some (.int (nI (g).toNat)), some (.int (nI b)), some (.int (nI (j + 1 + t))), z5, z6, z7] [] h Q := by
  intro m
  induction m with
  | zero => intro t b z5 z6 z7 h1 h2; exact absurd h2 (by omega)
  | succ m ih =>
    intro t b z5 z6 z7 h1 h2 eb
    obtain ⟨hT, hB, b5, b7, bc, ba, bll, bn⟩ := id hb
    have hmo := hmono t (n 0 - (j + 1)) (by omega)
    subst eb
    refine wn_iload (i := 17) rfl rfl ?_
    refine wn_aload (i := 18) rfl rfl ?_
    refine wp_get (i := 19) (n := 0) (a := o) (v := .int (nI (n 0))) rfl hX.1.1 rfl ?_
    refine wn_ic_ge (i := 20) (a := (j + 1 + t)) (b := (n 0)) (t' := 37) rfl rfl (by omega) (by omega) (fun c20 => ?_) (fun c20 => ?_)
    · skip
      have et : t = n 0 - (j + 1) := by omega
      rw [et]
      refine wn_const (i := 37) (n := 0) rfl rfl ?_
      refine wn_istore (i := 38) (ls' := [some (.ref o), some (.int (nI j)), some (.int (nI (g).toNat)), some (.int (nI (bS f (j + 1) (n 0 - (j + 1))))), some (.int (nI 0)), z5, z6, z7]) rfl (Nat.le_of_ble_eq_true rfl) rfl ?_
      refine wn_const (i := 39) (n := 0) rfl rfl ?_
      refine wn_istore (i := 40) (ls' := [some (.ref o), some (.int (nI j)), some (.int (nI (g).toNat)), some (.int (nI (bS f (j + 1) (n 0 - (j + 1))))), some (.int (nI 0)), some (.int (nI 0)), z6, z7]) rfl (Nat.le_of_ble_eq_true rfl) rfl ?_
      exact l_without2 hX hb hj rfl hbl hQ (2 ^ n 4 + 1) 0 0 _ _ (Nat.zero_le _) (by omega) rfl
    · skip
      have hst := hs (j + 1 + t) (by omega)
      refine wn_iload (i := 21) rfl rfl ?_
      refine wn_aload (i := 22) rfl rfl ?_
      refine wp_get (i := 23) (n := 2) (a := o) (v := .ref (o + 2)) rfl hX.1.1 rfl ?_
      refine wn_iload (i := 24) rfl rfl ?_
      refine wm_bald (i := 25) (k := 2) (e := (j + 1 + t)) (len := 24) rfl hX (by decide) (by decide) rfl rfl rfl (by omega) (by decide) ?_
      refine wn_if_eq (i := 26) (a := (f 2 (j + 1 + t))) (t' := 32) rfl rfl (by omega) (fun c26 => ?_) (fun c26 => ?_)
      · skip
        refine wn_const (i := 32) (n := 0) rfl rfl ?_
        refine wn_iadd (i := 33) (a := (bS f (j + 1) t)) (b := 0) rfl ?_
        refine wn_istore (i := 34) (ls' := [some (.ref o), some (.int (nI j)), some (.int (nI (g).toNat)), some (.int (nI ((bS f (j + 1) t) + 0))), some (.int (nI (j + 1 + t))), z5, z6, z7]) rfl (Nat.le_of_ble_eq_true rfl) rfl ?_
        refine wn_iinc (i := 35) (x := (j + 1 + t)) (n := 1) (ls' := [some (.ref o), some (.int (nI j)), some (.int (nI (g).toNat)), some (.int (nI ((bS f (j + 1) t) + 0))), some (.int (nI ((j + 1 + t) + 1))), z5, z6, z7]) rfl rfl rfl rfl ?_
        refine wn_goto (i := 36) (t' := 17) rfl rfl ?_
        exact ih (t + 1) _ _ _ _ (by omega) (by omega) (by show _ = bS f (j + 1) t + _; first | rw [if_pos c26] | rw [if_neg (by simpa using c26)])
      · skip
        refine wn_aload (i := 27) rfl rfl ?_
        refine wp_get (i := 28) (n := 1) (a := o) (v := .ref (o + 1)) rfl hX.1.1 rfl ?_
        refine wn_iload (i := 29) rfl rfl ?_
        refine wm_iald (i := 30) (k := 1) (e := (j + 1 + t)) (len := 24) rfl hX (by decide) (by decide) rfl rfl rfl (by omega) (by decide) ?_
        refine wn_goto (i := 31) (t' := 33) rfl rfl ?_
        refine wn_iadd (i := 33) (a := (bS f (j + 1) t)) (b := (f 1 (j + 1 + t))) rfl ?_
        refine wn_istore (i := 34) (ls' := [some (.ref o), some (.int (nI j)), some (.int (nI (g).toNat)), some (.int (nI ((bS f (j + 1) t) + (f 1 (j + 1 + t))))), some (.int (nI (j + 1 + t))), z5, z6, z7]) rfl (Nat.le_of_ble_eq_true rfl) rfl ?_
        refine wn_iinc (i := 35) (x := (j + 1 + t)) (n := 1) (ls' := [some (.ref o), some (.int (nI j)), some (.int (nI (g).toNat)), some (.int (nI ((bS f (j + 1) t) + (f 1 (j + 1 + t))))), some (.int (nI ((j + 1 + t) + 1))), z5, z6, z7]) rfl rfl rfl rfl ?_
        refine wn_goto (i := 36) (t' := 17) rfl rfl ?_
        exact ih (t + 1) _ _ _ _ (by omega) (by omega) (by show _ = bS f (j + 1) t + _; first | rw [if_pos c26] | rw [if_neg (by simpa using c26)])
theorem bS_mono (f : Nat → Nat → Nat) (t : Nat) : ∀ a b, a ≤ b → bS f t a ≤ bS f t b := by
  intro a b hab
  induction b with
  | zero => rw [show a = 0 by omega]; exact Nat.le_refl _
  | succ b ih =>
    by_cases q : a = b + 1
    · rw [q]; exact Nat.le_refl _
    · exact Nat.le_trans (ih (by omega)) (Nat.le_add_right _ _)
theorem m_without (hX : MX o n f h0 h) (hb : MB n f) (hs : ∀ t, t < n 0 → f 1 t ≤ 12 ∧ f 2 t ≤ 1) {a : Int32} {g : Bool} (hbl : ∀ j, j < n 0 → f 2 j ≠ 0 → bS f (j + 1) (n 0 - (j + 1)) + f 1 j ≤ 12) (hBad : (∀ j, j < n 0 → a = nI j → f 2 j = 0) → Q (some (.int (-2))) h) (hQ : ∀ j, j < n 0 → a = nI j → f 2 j ≠ 0 → Q (some (.int (nI (wN n f (bS f (j + 1) (n 0 - (j + 1))) (f 1 j) g (2 ^ n 4))))) h) : xm_wp sc (d + 2) 37 0 [some (.ref o), some (.int a), some (.int (nI (g).toNat)), none, none, none, none, none] [] h Q := by
  have hT := hb.1
  refine wn_aload (i := 0) rfl rfl ?_
  refine wn_iload (i := 1) rfl rfl ?_
  refine wn_callv (i := 2) (as := [.int a]) (b := o) (rest := []) (es := [some (.ref o), some (.int a)]) rfl rfl rfl rfl rfl (Nat.le_of_ble_eq_true rfl) rfl hX.1.1 rfl ?_
  refine m_has hX hT (fun j hj ej => ?_) (fun hno2 => ?_)
  · skip
    subst ej
    show xm_wp sc (d + 2) 37 3 [some (.ref o), some (.int (nI j)), some (.int (nI (g).toNat)), none, none, none, none, none] [.int (nI (true).toNat)] h Q
    refine wb_if_eq (i := 3) (b := true) (t' := 9) rfl rfl (fun c3 => ?_) (fun c3 => ?_)
    · cases c3
    · skip
      have hsj := hs j hj
      refine wn_aload (i := 4) rfl rfl ?_
      refine wp_get (i := 5) (n := 2) (a := o) (v := .ref (o + 2)) rfl hX.1.1 rfl ?_
      refine wn_iload (i := 6) rfl rfl ?_
      refine wm_bald (i := 7) (k := 2) (e := j) (len := 24) rfl hX (by decide) (by decide) rfl rfl rfl (by omega) (by decide) ?_
      refine wn_if_ne (i := 8) (a := (f 2 j)) (t' := 11) rfl rfl (by omega) (fun c8 => ?_) (fun c8 => ?_)
      · skip
        refine wn_const (i := 11) (n := 0) rfl rfl ?_
        refine wn_istore (i := 12) (ls' := [some (.ref o), some (.int (nI j)), some (.int (nI (g).toNat)), some (.int (nI 0)), none, none, none, none]) rfl (Nat.le_of_ble_eq_true rfl) rfl ?_
        refine wn_iload (i := 13) rfl rfl ?_
        refine wn_const (i := 14) (n := 1) rfl rfl ?_
        refine wn_iadd (i := 15) (a := j) (b := 1) rfl ?_
        refine wn_istore (i := 16) (ls' := [some (.ref o), some (.int (nI j)), some (.int (nI (g).toNat)), some (.int (nI 0)), some (.int (nI (j + 1))), none, none, none]) rfl (Nat.le_of_ble_eq_true rfl) rfl ?_
        exact l_without1 hX hb hj hs (hbl j hj c8) (bS_mono f (j + 1)) (hQ j hj rfl c8) (n 0 + 1) 0 0 _ _ _ (by omega) (by omega) rfl
      · skip
        refine wn_constI (i := 9) (n := -2) rfl rfl ?_
        exact wn_ret (i := 10) rfl rfl (hBad (fun j' h1 h2 => by first | exact absurd h2 (hno2 j' h1) | (rw [← (nI_eq (by omega) (by omega)).mp h2]; exact c8)))
  · skip
    show xm_wp sc (d + 2) 37 3 [some (.ref o), some (.int a), some (.int (nI (g).toNat)), none, none, none, none, none] [.int (nI (false).toNat)] h Q
    refine wb_if_eq (i := 3) (b := false) (t' := 9) rfl rfl (fun c3 => ?_) (fun c3 => ?_)
    · skip
      refine wn_constI (i := 9) (n := -2) rfl rfl ?_
      exact wn_ret (i := 10) rfl rfl (hBad (fun j' h1 h2 => by first | exact absurd h2 (hno2 j' h1) | (rw [← (nI_eq (by omega) (by omega)).mp h2]; exact c8)))
    · cases c3
end MM
section MC
variable {sc : Nat × Nat × (Nat → Int32)} {d y i o : Nat} {ls : xm_L} {r : List Value} {h h0 : xm_S} {Q : Option Value → xm_S → Prop}
theorem wp_newi {n : Nat} (hc : (xm_code y)[i]? = some (.newarray .int)) (hn : n < 134217728) (w : xm_wp sc d y (i + 1) ls (.ref h.2.1 :: r) (xm_push h (.inl (0, n, .inl (fun _ => 0))) n) Q) : xm_wp sc d y i ls (.int (nI n) :: r) h Q :=
  wp_step (by unfold xm_act; rw [hc]; simp only [xm_do, nI_clamp (show n < 2 ^ 31 by omega)]; rw [if_neg (by intro q; rcases q with q | q; exact nI_pos (show n < 2 ^ 31 by omega) q; omega)]) w
theorem wp_newz {n : Nat} (hc : (xm_code y)[i]? = some (.newarray .boolean)) (hn : n < 134217728) (w : xm_wp sc d y (i + 1) ls (.ref h.2.1 :: r) (xm_push h (.inl (1, n, .inl (fun _ => 0))) n) Q) : xm_wp sc d y i ls (.int (nI n) :: r) h Q :=
  wp_step (by unfold xm_act; rw [hc]; simp only [xm_do, nI_clamp (show n < 2 ^ 31 by omega)]; rw [if_neg (by intro q; rcases q with q | q; exact nI_pos (show n < 2 ^ 31 by omega) q; omega)]) w
theorem wp_obj {a : Nat} (hc : (xm_code y)[i]? = some (.invokespecial 1000)) (h8 : r.length ≤ 8) (hcat : r.all (fun v => v.category == 1) = true) (w : xm_wp sc d y (i + 1) ls r h Q) : xm_wp sc d y i ls (.ref a :: r) h Q :=
  wp_step (by unfold xm_act; rw [hc]; simp only [xm_do, if_true]; rw [if_pos ⟨h8, fun v hv => by simpa using List.all_eq_true.mp hcat v hv⟩]) w
/-- a new reference, j of its arrays made -/
def CW (o j m : Nat) (l : List Value) (h0 h : xm_S) : Prop := h.1 o = some (.inr (0, l)) ∧ h.2.1 = o + 1 + j ∧ h.2.2 = h0.2.2 + m ∧ (∀ k, 0 < k → k ≤ j → h.1 (o + k) = some (.inl (mo_ty k, mo_len k, .inl (fun _ => nI 0)))) ∧ ∀ q, q < o → h.1 q = h0.1 q
theorem CW.next {j m len k a : Nat} {l : List Value} (hC : CW o j m l h0 h) (hty : mo_ty (j + 1) = k) (hlen : mo_len (j + 1) = len) (l' : List Value) : CW o (j + 1) (m + len) l' h0 (xm_put (xm_push h (.inl (k, len, .inl (fun _ => 0))) len) o (.inr (0, l'))) := by
  obtain ⟨c1, c2, c3, c4, c5⟩ := hC
  refine ⟨by simp [xm_put], by simp [xm_put, xm_push, c2]; omega, by simp [xm_put, xm_push, c3]; omega, fun k' h1 h2 => ?_, fun q hq => ?_⟩
  · have e1 : ¬ o + k' = o := by omega
    simp only [xm_put, e1, if_false, xm_push]
    by_cases q : k' = j + 1
    · rw [if_pos (by rw [c2]; omega)]
      rw [q, hty, hlen]
      rfl
    · rw [if_neg (by rw [c2]; omega)]
      exact c4 k' h1 (by omega)
  · have e1 : ¬ q = o := by omega
    simp only [xm_put, e1, if_false, xm_push]
    rw [if_neg (by rw [c2]; omega)]
    exact c5 q hq
theorem wc_new {j m len k fk a : Nat} {l : List Value} {at_ : ArrayType} (hC : CW o j m l h0 h) (hc1 : (xm_code y)[i]? = some (.newarray at_)) (hc2 : (xm_code y)[i + 1]? = some (.putfield fk)) (hk : (at_ = .int ∧ k = 0) ∨ (at_ = .boolean ∧ k = 1)) (hty : mo_ty (j + 1) = k) (hlen : mo_len (j + 1) = len) (hl : len < 134217728) (hf : fk < 17) (hL : fk < l.length) (hn : narrow (xc_ty 0 fk) (.ref (o + 1 + j)) = .ref (o + 1 + j)) (hft : fits (xc_ty 0 fk) (.ref (o + 1 + j)) = true)
    (w : ∀ h' : xm_S, CW o (j + 1) (m + len) (l.set fk (.ref (o + 1 + j))) h0 h' → xm_wp sc d y (i + 1 + 1) ls r h' Q) : xm_wp sc d y i ls (.int (nI len) :: .ref o :: r) h Q := by
  have c2 := hC.2.1
  have e1 : fk / 32 = 0 := by omega
  have e2 : fk % 32 = fk := by omega
  have fin : xm_wp sc d y (i + 1) ls (.ref h.2.1 :: .ref o :: r) (xm_push h (.inl (k, len, .inl (fun _ => 0))) len) Q := by
    have ho : (xm_push h (.inl (k, len, .inl (fun _ => 0))) len).1 o = some (.inr (0, l)) := by
      simp only [xm_push]
      rw [if_neg (by rw [c2]; omega)]
      exact hC.1
    rw [c2]
    refine wp_putf (fs := l) hc2 (by rw [e1]; exact ho) (by rw [e2]; exact hL) (by rw [e1, e2]; exact hn) (by rw [e1, e2]; exact hft) ?_
    rw [e1, e2]
    exact w _ (hC.next (a := a) hty hlen _)
  rcases hk with ⟨rfl, rfl⟩ | ⟨rfl, rfl⟩
  · exact wp_newi hc1 hl fin
  · exact wp_newz hc1 hl fin
theorem m_init (ho : h.1 o = some (.inr (0, xc_def 0))) (ht : h.2.1 = o + 1) (hQ : ∀ h' : xm_S, MW o (fun _ => 0) (fun _ _ => 0) h' → h'.2.1 = o + 12 → h'.2.2 = h.2.2 + 114784 → (∀ q, q < o → h'.1 q = h.1 q) → Q none h') : xm_wp sc (d) 0 0 [some (.ref o)] [] h Q := by
  have hC0 : CW o 0 0 (xc_def 0) h h := ⟨ho, ht, rfl, fun k h1 h2 => absurd h1 (by omega), fun q _ => rfl⟩
  refine wn_aload (i := 0) rfl rfl ?_
  refine wp_obj (i := 1) rfl (Nat.le_of_ble_eq_true rfl) rfl ?_
  refine wn_aload (i := 2) rfl rfl ?_
  refine wn_const (i := 3) (n := 24) rfl rfl ?_
  refine wc_new (a := 0) (i := 4) (len := 24) (k := 0) (fk := 1) hC0 rfl rfl (Or.inl ⟨rfl, rfl⟩) rfl rfl (by decide) (by decide) (Nat.le_of_ble_eq_true rfl) rfl rfl (fun h1 hC1 => ?_)
  refine wn_aload (i := 6) rfl rfl ?_
  refine wn_const (i := 7) (n := 24) rfl rfl ?_
  refine wc_new (a := 0) (i := 8) (len := 24) (k := 1) (fk := 2) hC1 rfl rfl (Or.inr ⟨rfl, rfl⟩) rfl rfl (by decide) (by decide) (Nat.le_of_ble_eq_true rfl) rfl rfl (fun h2 hC2 => ?_)
  refine wn_aload (i := 10) rfl rfl ?_
  refine wn_const (i := 11) (n := 98304) rfl rfl ?_
  refine wc_new (a := 0) (i := 12) (len := 98304) (k := 0) (fk := 3) hC2 rfl rfl (Or.inl ⟨rfl, rfl⟩) rfl rfl (by decide) (by decide) (Nat.le_of_ble_eq_true rfl) rfl rfl (fun h3 hC3 => ?_)
  refine wn_aload (i := 14) rfl rfl ?_
  refine wn_const (i := 15) (n := 16) rfl rfl ?_
  refine wc_new (a := 0) (i := 16) (len := 16) (k := 0) (fk := 6) hC3 rfl rfl (Or.inl ⟨rfl, rfl⟩) rfl rfl (by decide) (by decide) (Nat.le_of_ble_eq_true rfl) rfl rfl (fun h4 hC4 => ?_)
  refine wn_aload (i := 18) rfl rfl ?_
  refine wn_const (i := 19) (n := 8) rfl rfl ?_
  refine wc_new (a := 0) (i := 20) (len := 8) (k := 0) (fk := 8) hC4 rfl rfl (Or.inl ⟨rfl, rfl⟩) rfl rfl (by decide) (by decide) (Nat.le_of_ble_eq_true rfl) rfl rfl (fun h5 hC5 => ?_)
  refine wn_aload (i := 22) rfl rfl ?_
  refine wn_const (i := 23) (n := 8) rfl rfl ?_
  refine wc_new (a := 0) (i := 24) (len := 8) (k := 0) (fk := 10) hC5 rfl rfl (Or.inl ⟨rfl, rfl⟩) rfl rfl (by decide) (by decide) (Nat.le_of_ble_eq_true rfl) rfl rfl (fun h6 hC6 => ?_)
  refine wn_aload (i := 26) rfl rfl ?_
  refine wn_const (i := 27) (n := 8) rfl rfl ?_
  refine wc_new (a := 0) (i := 28) (len := 8) (k := 1) (fk := 11) hC6 rfl rfl (Or.inr ⟨rfl, rfl⟩) rfl rfl (by decide) (by decide) (Nat.le_of_ble_eq_true rfl) rfl rfl (fun h7 hC7 => ?_)
  refine wn_aload (i := 30) rfl rfl ?_
  refine wn_const (i := 31) (n := 4096) rfl rfl ?_
  refine wc_new (a := 0) (i := 32) (len := 4096) (k := 1) (fk := 12) hC7 rfl rfl (Or.inr ⟨rfl, rfl⟩) rfl rfl (by decide) (by decide) (Nat.le_of_ble_eq_true rfl) rfl rfl (fun h8 hC8 => ?_)
  refine wn_aload (i := 34) rfl rfl ?_
  refine wn_const (i := 35) (n := 4096) rfl rfl ?_
  refine wc_new (a := 0) (i := 36) (len := 4096) (k := 0) (fk := 13) hC8 rfl rfl (Or.inl ⟨rfl, rfl⟩) rfl rfl (by decide) (by decide) (Nat.le_of_ble_eq_true rfl) rfl rfl (fun h9 hC9 => ?_)
  refine wn_aload (i := 38) rfl rfl ?_
  refine wn_const (i := 39) (n := 4100) rfl rfl ?_
  refine wc_new (a := 0) (i := 40) (len := 4100) (k := 0) (fk := 14) hC9 rfl rfl (Or.inl ⟨rfl, rfl⟩) rfl rfl (by decide) (by decide) (Nat.le_of_ble_eq_true rfl) rfl rfl (fun h10 hC10 => ?_)
  refine wn_aload (i := 42) rfl rfl ?_
  refine wn_const (i := 43) (n := 4100) rfl rfl ?_
  refine wc_new (a := 0) (i := 44) (len := 4100) (k := 0) (fk := 15) hC10 rfl rfl (Or.inl ⟨rfl, rfl⟩) rfl rfl (by decide) (by decide) (Nat.le_of_ble_eq_true rfl) rfl rfl (fun h11 hC11 => ?_)
  refine wn_retV (i := 46) rfl (hQ h11 ⟨hC11.1, fun k h1 h2 => hC11.2.2.2.1 k h1 (by omega)⟩ hC11.2.1 hC11.2.2.1 hC11.2.2.2.2)
end MC
end
section
/-! ===== the class: numbers and acts ===== -/
theorem mI_small {w z : Nat} (hz : z < 2 ^ w) (hw : w ≤ 30) : mI w (nI z) = z := by
  unfold mI
  have := xn_pow hw
  rw [pk_tn (by omega), Nat.mod_eq_of_lt hz]
def mI_chk (n : Nat) : Bool := decide (mI n (-1) = 2 ^ n - 1) && ((List.range (2 ^ n)).all (fun a => decide (mI n (sI a n) = a)) && (decide (n = 0) || (List.range (2 ^ n)).all (fun a => decide (sI a n >>> (nI n &&& 31) = sI a n >>> (nI 31 &&& 31)))))
theorem mI_all : (List.range 13).all (fun n => mI_chk n) = true := by decide +kernel
theorem mI_facts {n : Nat} (hn : n ≤ 12) : mI n (-1) = 2 ^ n - 1 ∧ (∀ a, a < 2 ^ n → mI n (sI a n) = a) ∧ (n ≠ 0 → ∀ a, a < 2 ^ n → sI a n >>> (nI n &&& 31) = sI a n >>> (nI 31 &&& 31)) := by
  have h1 := List.all_eq_true.mp mI_all n (List.mem_range.mpr (by omega))
  unfold mI_chk at h1
  simp only [Bool.and_eq_true, Bool.or_eq_true, List.all_eq_true, List.mem_range, decide_eq_true_eq] at h1
  exact ⟨h1.1, h1.2.1, fun h0 => h1.2.2.resolve_left h0⟩
theorem sI_0 {b n : Nat} (hn : n ≤ 12) (hb : b < 2 ^ n) : sI b n = 0 ↔ b = 0 := by
  constructor
  · intro q
    apply Decidable.not_not.mp
    intro h0
    exact sI_ne0 hn hb h0 q
  · intro q
    subst q
    unfold sI
    rcases (show n = 0 ∨ n = 1 ∨ n = 2 ∨ n = 3 ∨ n = 4 ∨ n = 5 ∨ n = 6 ∨ n = 7 ∨ n = 8 ∨ n = 9 ∨ n = 10 ∨ n = 11 ∨ n = 12 by omega) with e | e | e | e | e | e | e | e | e | e | e | e | e <;> subst e <;> decide
section WX
variable {sc : Nat × Nat × (Nat → Int32)} {d y i : Nat} {ls : xm_L} {r : List Value} {h : xm_S} {Q : Option Value → xm_S → Prop}
theorem wn_min {a b : Nat} (hc : (xm_code y)[i]? = some (.invokestatic 2002)) (ha : a < 2 ^ 31) (hb : b < 2 ^ 31) (h8 : r.length ≤ 8) (hcat : r.all (fun v => v.category == 1) = true) (w : xm_wp sc d y (i + 1) ls (.int (nI (min a b)) :: r) h Q) : xm_wp sc d y i ls (.int (nI b) :: .int (nI a) :: r) h Q := by
  refine wp_step ?_ w
  unfold xm_act
  rw [hc]
  dsimp only [xm_do]
  rw [if_neg (by decide), if_pos rfl, if_pos ⟨h8, fun v hv => by simpa using List.all_eq_true.mp hcat v hv⟩]
  by_cases q : b < a
  · rw [if_pos ((nI_ltI hb ha).mpr q), Nat.min_eq_right (by omega)]
  · rw [if_neg (fun e => q ((nI_ltI hb ha).mp e)), Nat.min_eq_left (by omega)]
theorem wn_max {a b : Nat} (hc : (xm_code y)[i]? = some (.invokestatic 2001)) (ha : a < 2 ^ 31) (hb : b < 2 ^ 31) (h8 : r.length ≤ 8) (hcat : r.all (fun v => v.category == 1) = true) (w : xm_wp sc d y (i + 1) ls (.int (nI (max a b)) :: r) h Q) : xm_wp sc d y i ls (.int (nI b) :: .int (nI a) :: r) h Q := by
  refine wp_step ?_ w
  unfold xm_act
  rw [hc]
  dsimp only [xm_do]
  rw [if_pos rfl, if_pos ⟨h8, fun v hv => by simpa using List.all_eq_true.mp hcat v hv⟩]
  by_cases q : a < b
  · rw [if_pos ((nI_ltI ha hb).mpr q), Nat.max_eq_right (by omega)]
  · rw [if_neg (fun e => q ((nI_ltI ha hb).mp e)), Nat.max_eq_left (by omega)]
end WX
section KK
variable {sc : Nat × Nat × (Nat → Int32)} {d o : Nat} {h h0 : xm_S} {Q : Option Value → xm_S → Prop} {n : Nat → Nat} {f : Nat → Nat → Nat}
theorem k_lowest {a : Nat} (ha : a < 31) (hQ : Q (some (.int (nI (2 ^ a - 1)))) h) : xm_wp sc (d) 84 0 [some (.int (nI a))] [] h Q := by
  refine wn_const (i := 0) (n := 1) rfl rfl ?_
  refine wn_iload (i := 1) rfl rfl ?_
  refine wn_ishl (i := 2) (a := 1) (b := a) rfl (by omega) (by rw [Nat.one_mul]; exact Nat.lt_trans (Nat.pow_lt_pow_right (by omega) ha) (by decide)) ?_
  rw [show 1 * 2 ^ a = 2 ^ a from Nat.one_mul _]
  refine wn_const (i := 3) (n := 1) rfl rfl ?_
  refine wn_isub (i := 4) (a := (2 ^ a)) (b := 1) rfl (Nat.two_pow_pos a) ?_
  exact wn_ret (i := 5) rfl rfl (hQ)
theorem k_isWidth {v : Int32} (hQ1 : ∀ u, 1 ≤ u → u ≤ 12 → v = nI u → Q (some (.int (nI true.toNat))) h) (hQ0 : (∀ u, 1 ≤ u → u ≤ 12 → v ≠ nI u) → Q (some (.int (nI false.toNat))) h) : xm_wp sc (d) 83 0 [some (.int v)] [] h Q := by
  refine wn_iload (i := 0) rfl rfl ?_
  refine wn_const (i := 1) (n := 1) rfl rfl ?_
  refine wi_ic_lt (i := 2) (a := v) (b := (nI 1)) (t' := 8) rfl rfl (fun c2 => ?_) (fun c2 => ?_)
  · skip
    refine wn_const (i := 8) (n := 0) rfl rfl ?_
    exact wn_retZ (n := false.toNat) (i := 9) rfl (by decide) (hQ0 (xn_notIn2 (lo := 1) (e := 12) (by decide) (by decide) (fun q => by first | exact absurd q.1 (Int32.not_le.mpr c2) | exact absurd q.2 (Int32.not_le.mpr c5))))
  · skip
    refine wn_iload (i := 3) rfl rfl ?_
    refine wn_const (i := 4) (n := 12) rfl rfl ?_
    refine wi_ic_gt (i := 5) (a := v) (b := (nI 12)) (t' := 8) rfl rfl (fun c5 => ?_) (fun c5 => ?_)
    · skip
      refine wn_const (i := 8) (n := 0) rfl rfl ?_
      exact wn_retZ (n := false.toNat) (i := 9) rfl (by decide) (hQ0 (xn_notIn2 (lo := 1) (e := 12) (by decide) (by decide) (fun q => by first | exact absurd q.1 (Int32.not_le.mpr c2) | exact absurd q.2 (Int32.not_le.mpr c5))))
    · skip
      refine wn_const (i := 6) (n := 1) rfl rfl ?_
      refine wn_goto (i := 7) (t' := 9) rfl rfl ?_
      obtain ⟨u, hu1, hu2, eu⟩ := xn_isIn2 (lo := 1) (e := 12) (by decide) (by decide) (Int32.not_lt.mp c2) (Int32.not_lt.mp c5)
      exact wn_retZ (n := true.toNat) (i := 9) rfl (by decide) (hQ1 u hu1 hu2 eu)
theorem k_fits {v : Int32} {w : Nat} (hw : w ≤ 12) (hQ1 : ∀ u, u < 2 ^ w → v = nI u → Q (some (.int (nI true.toNat))) h) (hQ0 : (∀ u, u < 2 ^ w → v ≠ nI u) → Q (some (.int (nI false.toNat))) h) : xm_wp sc (d + 1) 79 0 [some (.int v), some (.int (nI w))] [] h Q := by
  have hp := xn_p12 hw
  have hp0 := Nat.two_pow_pos w
  refine wn_iload (i := 0) rfl rfl ?_
  refine wi_if_lt (i := 1) (a := v) (t' := 8) rfl rfl (fun c1 => ?_) (fun c1 => ?_)
  · skip
    refine wn_const (i := 8) (n := 0) rfl rfl ?_
    exact wn_retZ (n := false.toNat) (i := 9) rfl (by decide) (hQ0 (fun u hu => xn_notIn2 (lo := 0) (e := 2 ^ w - 1) (by decide) (by omega) (fun q => by first | exact absurd q.1 (Int32.not_le.mpr c1) | exact absurd q.2 (Int32.not_le.mpr c5)) u (Nat.zero_le _) (by omega)))
  · skip
    refine wn_iload (i := 2) rfl rfl ?_
    refine wn_iload (i := 3) rfl rfl ?_
    refine wn_calls (i := 4) (as := [.int (nI w)]) (rest := [.int v]) (es := [some (.int (nI w))]) rfl rfl (by decide) rfl rfl rfl (Nat.le_of_ble_eq_true rfl) rfl rfl ?_
    refine k_lowest (by omega) ?_
    show xm_wp sc (d + 1) 79 5 [some (.int v), some (.int (nI w))] [.int (nI (2 ^ w - 1)), .int v] h Q
    refine wi_ic_gt (i := 5) (a := v) (b := (nI (2 ^ w - 1))) (t' := 8) rfl rfl (fun c5 => ?_) (fun c5 => ?_)
    · skip
      refine wn_const (i := 8) (n := 0) rfl rfl ?_
      exact wn_retZ (n := false.toNat) (i := 9) rfl (by decide) (hQ0 (fun u hu => xn_notIn2 (lo := 0) (e := 2 ^ w - 1) (by decide) (by omega) (fun q => by first | exact absurd q.1 (Int32.not_le.mpr c1) | exact absurd q.2 (Int32.not_le.mpr c5)) u (Nat.zero_le _) (by omega)))
    · skip
      refine wn_const (i := 6) (n := 1) rfl rfl ?_
      refine wn_goto (i := 7) (t' := 9) rfl rfl ?_
      obtain ⟨u, hu1, hu2, eu⟩ := xn_isIn2 (lo := 0) (e := 2 ^ w - 1) (by decide) (by omega) (Int32.not_lt.mp c1) (Int32.not_lt.mp c5)
      exact wn_retZ (n := true.toNat) (i := 9) rfl (by decide) (hQ1 u (by omega) eu)
theorem k_signed {a q : Nat} (hq : q ≤ 32) (hQ : Q (some (.int (sI a q))) h) : xm_wp sc (d) 46 0 [some (.int (nI a)), some (.int (nI q))] [] h Q := by
  refine wn_iload (i := 0) rfl rfl ?_
  refine wn_const (i := 1) (n := 32) rfl rfl ?_
  refine wn_iload (i := 2) rfl rfl ?_
  refine wn_isub (i := 3) (a := 32) (b := q) rfl (by omega) ?_
  refine wi_ishl (i := 4) (a := (nI a)) (b := (nI (32 - q))) rfl ?_
  refine wn_const (i := 5) (n := 32) rfl rfl ?_
  refine wn_iload (i := 6) rfl rfl ?_
  refine wn_isub (i := 7) (a := 32) (b := q) rfl (by omega) ?_
  refine wi_ishr (i := 8) (a := ((nI a) <<< ((nI (32 - q)) &&& 31))) (b := (nI (32 - q))) rfl ?_
  exact wn_ret (i := 9) rfl rfl (hQ)
theorem k_signedQuotient {x z : Int32} (hQ : Q (some (.int (if z = 0 then (if 0 ≤ x then -1 else nI 1) else x / z))) h) : xm_wp sc (d) 48 0 [some (.int x), some (.int z)] [] h Q := by
  refine wn_iload (i := 0) rfl rfl ?_
  refine wi_if_ne (i := 1) (a := z) (t' := 8) rfl rfl (fun c1 => ?_) (fun c1 => ?_)
  · skip
    refine wn_iload (i := 8) rfl rfl ?_
    refine wn_iload (i := 9) rfl rfl ?_
    refine wp_idiv (i := 10) (x := x) (z := z) rfl c1 ?_
    rw [if_neg c1] at hQ
    exact wn_ret (i := 11) rfl rfl hQ
  · skip
    refine wn_iload (i := 2) rfl rfl ?_
    refine wi_if_ge (i := 3) (a := x) (t' := 6) rfl rfl (fun c3 => ?_) (fun c3 => ?_)
    · skip
      refine wn_constI (i := 6) (n := -1) rfl rfl ?_
      rw [if_pos c1, if_pos c3] at hQ
      exact wn_ret (i := 7) rfl rfl hQ
    · skip
      refine wn_const (i := 4) (n := 1) rfl rfl ?_
      refine wn_goto (i := 5) (t' := 7) rfl rfl ?_
      rw [if_pos c1, if_neg c3] at hQ
      exact wn_ret (i := 7) rfl rfl hQ
theorem k_signedLeftOver {x z : Int32} (hQ : Q (some (.int (if z = 0 then x else x - x / z * z))) h) : xm_wp sc (d) 47 0 [some (.int x), some (.int z)] [] h Q := by
  refine wn_iload (i := 0) rfl rfl ?_
  refine wi_if_ne (i := 1) (a := z) (t' := 4) rfl rfl (fun c1 => ?_) (fun c1 => ?_)
  · skip
    refine wn_iload (i := 4) rfl rfl ?_
    refine wn_iload (i := 5) rfl rfl ?_
    refine wp_irem (i := 6) (x := x) (z := z) rfl c1 ?_
    rw [if_neg c1] at hQ
    exact wn_ret (i := 7) rfl rfl hQ
  · skip
    refine wn_iload (i := 2) rfl rfl ?_
    refine wn_goto (i := 3) (t' := 7) rfl rfl ?_
    rw [if_pos c1] at hQ
    exact wn_ret (i := 7) rfl rfl hQ
theorem k_around {a b q : Nat} (hq1 : 1 ≤ q) (hq : q ≤ 12) (hb : b < 4096) (hQ : Q (some (.int (nI (mI q (dI 19 a b q 0))))) h) : xm_wp sc (d + 1) 44 0 [some (.int (nI a)), some (.int (nI b)), some (.int (nI q)), none] [] h Q := by
  refine wn_iload (i := 0) rfl rfl ?_
  refine wn_const (i := 1) (n := 1) rfl rfl ?_
  refine wn_ic_ge (i := 2) (a := q) (b := 1) (t' := 5) rfl rfl (by omega) (by omega) (fun c2 => ?_) (fun c2 => ?_)
  · skip
    refine wn_iload (i := 5) rfl rfl ?_
    refine wn_iload (i := 6) rfl rfl ?_
    refine wn_irem (i := 7) (a := b) (b := q) rfl (by omega) (by omega) (by omega) ?_
    refine wn_istore (i := 8) (ls' := [some (.int (nI a)), some (.int (nI b)), some (.int (nI q)), some (.int (nI (b % q)))]) rfl (Nat.le_of_ble_eq_true rfl) rfl ?_
    refine wn_iload (i := 9) rfl rfl ?_
    refine wn_iload (i := 10) rfl rfl ?_
    refine wi_ishl (i := 11) (a := (nI a)) (b := (nI (b % q))) rfl ?_
    refine wn_iload (i := 12) rfl rfl ?_
    refine wn_iload (i := 13) rfl rfl ?_
    refine wn_iload (i := 14) rfl rfl ?_
    refine wn_isub (i := 15) (a := q) (b := (b % q)) rfl (by have := Nat.mod_lt b (show 0 < q by omega); omega) ?_
    refine wi_ishr (i := 16) (a := (nI a)) (b := (nI (q - (b % q)))) rfl ?_
    refine wi_ior (i := 17) (a := ((nI a) <<< ((nI (b % q)) &&& 31))) (b := ((nI a) >>> ((nI (q - (b % q))) &&& 31))) rfl ?_
    refine wn_iload (i := 18) rfl rfl ?_
    refine wn_calls (i := 19) (as := [.int (nI q)]) (rest := [.int (((nI a) <<< ((nI (b % q)) &&& 31)) ||| ((nI a) >>> ((nI (q - (b % q))) &&& 31)))]) (es := [some (.int (nI q))]) rfl rfl (by decide) rfl rfl rfl (Nat.le_of_ble_eq_true rfl) rfl rfl ?_
    refine k_lowest (by omega) ?_
    show xm_wp sc (d + 1) 44 20 [some (.int (nI a)), some (.int (nI b)), some (.int (nI q)), some (.int (nI (b % q)))] [.int (nI (2 ^ q - 1)), .int (((nI a) <<< ((nI (b % q)) &&& 31)) ||| ((nI a) >>> ((nI (q - (b % q))) &&& 31)))] h Q
    refine wi_iand (i := 20) (a := (((nI a) <<< ((nI (b % q)) &&& 31)) ||| ((nI a) >>> ((nI (q - (b % q))) &&& 31)))) (b := (nI (2 ^ q - 1))) rfl ?_
    rw [mI_and (by omega)]
    exact wn_ret (i := 21) rfl rfl hQ
  · exact absurd c2 (by omega)
theorem k_hasOne {v : Int32} (hQ1 : ∀ k, k < 2 → v = nI k → Q (some (.int (nI true.toNat))) h) (hQ0 : (∀ k, k < 2 → v ≠ nI k) → Q (some (.int (nI false.toNat))) h) : xm_wp sc (d) 45 0 [some (.int v)] [] h Q := by
  refine wn_iload (i := 0) rfl rfl ?_
  refine wi_if_eq (i := 1) (a := v) (t' := 5) rfl rfl (fun c1 => ?_) (fun c1 => ?_)
  · skip
    refine wn_const (i := 5) (n := 1) rfl rfl ?_
    refine wn_goto (i := 6) (t' := 8) rfl rfl ?_
    exact wn_retZ (n := true.toNat) (i := 8) rfl (by decide) (hQ1 0 (by decide) c1)
  · skip
    refine wn_iload (i := 2) rfl rfl ?_
    refine wn_const (i := 3) (n := 1) rfl rfl ?_
    refine wi_ic_ne (i := 4) (a := v) (b := (nI 1)) (t' := 7) rfl rfl (fun c4 => ?_) (fun c4 => ?_)
    · skip
      refine wn_const (i := 7) (n := 0) rfl rfl ?_
      exact wn_retZ (n := false.toNat) (i := 8) rfl (by decide) (hQ0 (fun k hk e => by rcases (show k = 0 ∨ k = 1 by omega) with q | q <;> subst q <;> first | exact c1 e | exact c4 e))
    · skip
      refine wn_const (i := 5) (n := 1) rfl rfl ?_
      refine wn_goto (i := 6) (t' := 8) rfl rfl ?_
      exact wn_retZ (n := true.toNat) (i := 8) rfl (by decide) (hQ1 1 (by decide) c4)
theorem k_answer {k a b q m : Nat} (hk : k < 20) (hq1 : 1 ≤ q) (hq : q ≤ 12) (hm : m ≤ 12) (ha : a < 2 ^ q) (hb8 : k = 18 → b < 2 ^ m ∧ q + m ≤ 12) (hbn : k ≠ 18 → b < 2 ^ q) (hQ : Q (some (.int (nI (mI (aW k q m) (dI k a b q m))))) h) : xm_wp sc (d + 2) 43 0 [some (.int (nI k)), some (.int (nI q)), some (.int (nI a)), some (.int (nI b)), some (.int (nI m)), none] [] h Q := by
  have hp := xn_p12 hq
  have hpm := xn_p12 hm
  have ha2 : a < 4096 := by omega
  have hb2 : b < 4096 := by
    by_cases e : k = 18
    · have := hb8 e; omega
    · have := hbn e; omega
  have F := mI_facts hq
  refine wn_iload (i := 0) rfl rfl ?_
  refine wn_calls (i := 1) (as := [.int (nI q)]) (rest := []) (es := [some (.int (nI q))]) rfl rfl (by decide) rfl rfl rfl (Nat.le_of_ble_eq_true rfl) rfl rfl ?_
  refine k_lowest (by omega) ?_
  show xm_wp sc (d + 2) 43 2 [some (.int (nI k)), some (.int (nI q)), some (.int (nI a)), some (.int (nI b)), some (.int (nI m)), none] [.int (nI (2 ^ q - 1))] h Q
  refine wn_istore (i := 2) (ls' := [some (.int (nI k)), some (.int (nI q)), some (.int (nI a)), some (.int (nI b)), some (.int (nI m)), some (.int (nI (2 ^ q - 1)))]) rfl (Nat.le_of_ble_eq_true rfl) rfl ?_
  refine wn_iload (i := 3) rfl rfl ?_
  rcases (show k = 0 ∨ k = 1 ∨ k = 2 ∨ k = 3 ∨ k = 4 ∨ k = 5 ∨ k = 6 ∨ k = 7 ∨ k = 8 ∨ k = 9 ∨ k = 10 ∨ k = 11 ∨ k = 12 ∨ k = 13 ∨ k = 14 ∨ k = 15 ∨ k = 16 ∨ k = 17 ∨ k = 18 ∨ k = 19 by omega) with e | e | e | e | e | e | e | e | e | e | e | e | e | e | e | e | e | e | e | e
  · subst e
    refine wn_swIn (i := 4) (t := 5) (t' := 5) rfl (by decide) (by decide) rfl ?_
    refine wn_iload (i := 5) rfl rfl ?_
    refine wn_constI (i := 6) (n := -1) rfl rfl ?_
    refine wi_ixor (i := 7) (a := (nI a)) (b := (-1)) rfl ?_
    refine wn_iload (i := 8) rfl rfl ?_
    refine wi_iand (i := 9) (a := ((nI a) ^^^ (-1))) (b := (nI (2 ^ q - 1))) rfl ?_
    rw [mI_and (by omega)]
    exact wn_ret (i := 10) rfl rfl hQ
  · subst e
    refine wn_swIn (i := 4) (t := 11) (t' := 11) rfl (by decide) (by decide) rfl ?_
    refine wn_iload (i := 11) rfl rfl ?_
    refine wi_ineg (i := 12) (a := (nI a)) rfl ?_
    refine wn_iload (i := 13) rfl rfl ?_
    refine wi_iand (i := 14) (a := (-(nI a))) (b := (nI (2 ^ q - 1))) rfl ?_
    rw [mI_and (by omega)]
    exact wn_ret (i := 15) rfl rfl hQ
  · subst e
    refine wn_swIn (i := 4) (t := 16) (t' := 16) rfl (by decide) (by decide) rfl ?_
    refine wn_iload (i := 16) rfl rfl ?_
    refine wn_iload (i := 17) rfl rfl ?_
    refine wn_iand (i := 18) (a := a) (b := b) rfl ?_
    rw [show mI (aW 2 q m) (dI 2 a b q m) = a &&& b from by exact mI_small (w := q) (Nat.lt_of_le_of_lt Nat.and_le_left ha) (by omega)] at hQ
    exact wn_ret (i := 19) rfl rfl hQ
  · subst e
    refine wn_swIn (i := 4) (t := 20) (t' := 20) rfl (by decide) (by decide) rfl ?_
    refine wn_iload (i := 20) rfl rfl ?_
    refine wn_iload (i := 21) rfl rfl ?_
    refine wn_ior (i := 22) (a := a) (b := b) rfl ?_
    rw [show mI (aW 3 q m) (dI 3 a b q m) = a ||| b from by exact mI_small (w := q) (Nat.or_lt_two_pow ha (hbn (by decide))) (by omega)] at hQ
    exact wn_ret (i := 23) rfl rfl hQ
  · subst e
    refine wn_swIn (i := 4) (t := 24) (t' := 24) rfl (by decide) (by decide) rfl ?_
    refine wn_iload (i := 24) rfl rfl ?_
    refine wn_iload (i := 25) rfl rfl ?_
    refine wn_ixor (i := 26) (a := a) (b := b) rfl ?_
    rw [show mI (aW 4 q m) (dI 4 a b q m) = a ^^^ b from by exact mI_small (w := q) (Nat.xor_lt_two_pow ha (hbn (by decide))) (by omega)] at hQ
    exact wn_ret (i := 27) rfl rfl hQ
  · subst e
    refine wn_swIn (i := 4) (t := 28) (t' := 28) rfl (by decide) (by decide) rfl ?_
    refine wn_iload (i := 28) rfl rfl ?_
    refine wn_iload (i := 29) rfl rfl ?_
    refine wn_iadd (i := 30) (a := a) (b := b) rfl ?_
    refine wn_iload (i := 31) rfl rfl ?_
    refine wi_iand (i := 32) (a := (nI (a + b))) (b := (nI (2 ^ q - 1))) rfl ?_
    rw [mI_and (by omega)]
    exact wn_ret (i := 33) rfl rfl hQ
  · subst e
    refine wn_swIn (i := 4) (t := 34) (t' := 34) rfl (by decide) (by decide) rfl ?_
    refine wn_iload (i := 34) rfl rfl ?_
    refine wn_iload (i := 35) rfl rfl ?_
    refine wi_isub (i := 36) (a := (nI a)) (b := (nI b)) rfl ?_
    refine wn_iload (i := 37) rfl rfl ?_
    refine wi_iand (i := 38) (a := ((nI a) - (nI b))) (b := (nI (2 ^ q - 1))) rfl ?_
    rw [mI_and (by omega)]
    exact wn_ret (i := 39) rfl rfl hQ
  · subst e
    refine wn_swIn (i := 4) (t := 40) (t' := 40) rfl (by decide) (by decide) rfl ?_
    refine wn_iload (i := 40) rfl rfl ?_
    refine wn_iload (i := 41) rfl rfl ?_
    refine wn_imul (i := 42) (a := a) (b := b) rfl ?_
    refine wn_iload (i := 43) rfl rfl ?_
    refine wi_iand (i := 44) (a := (nI (a * b))) (b := (nI (2 ^ q - 1))) rfl ?_
    rw [mI_and (by omega)]
    exact wn_ret (i := 45) rfl rfl hQ
  · subst e
    refine wn_swIn (i := 4) (t := 46) (t' := 46) rfl (by decide) (by decide) rfl ?_
    refine wn_iload (i := 46) rfl rfl ?_
    refine wn_if_ne (i := 47) (a := b) (t' := 50) rfl rfl (by omega) (fun c47 => ?_) (fun c47 => ?_)
    · skip
      refine wn_iload (i := 50) rfl rfl ?_
      refine wn_iload (i := 51) rfl rfl ?_
      refine wn_idiv (i := 52) (a := a) (b := b) rfl (by omega) (by omega) (by omega) ?_
      rw [show mI (aW 8 q m) (dI 8 a b q m) = a / b from by show mI q (if b = 0 then -1 else nI (a / b)) = _; rw [if_neg c47]; exact mI_small (Nat.lt_of_le_of_lt (Nat.div_le_self a b) ha) (by omega)] at hQ
      exact wn_ret (i := 53) rfl rfl hQ
    · skip
      refine wn_iload (i := 48) rfl rfl ?_
      refine wn_goto (i := 49) (t' := 53) rfl rfl ?_
      rw [show mI (aW 8 q m) (dI 8 a b q m) = 2 ^ q - 1 from by show mI q (if b = 0 then -1 else nI (a / b)) = _; rw [if_pos c47]; exact F.1] at hQ
      exact wn_ret (i := 53) rfl rfl hQ
  · subst e
    refine wn_swIn (i := 4) (t := 54) (t' := 54) rfl (by decide) (by decide) rfl ?_
    refine wn_iload (i := 54) rfl rfl ?_
    refine wn_if_ne (i := 55) (a := b) (t' := 58) rfl rfl (by omega) (fun c55 => ?_) (fun c55 => ?_)
    · skip
      refine wn_iload (i := 58) rfl rfl ?_
      refine wn_iload (i := 59) rfl rfl ?_
      refine wn_irem (i := 60) (a := a) (b := b) rfl (by omega) (by omega) (by omega) ?_
      rw [show mI (aW 9 q m) (dI 9 a b q m) = a % b from by show mI q (if b = 0 then nI a else nI (a % b)) = _; rw [if_neg c55]; exact mI_small (Nat.lt_of_le_of_lt (Nat.mod_le a b) ha) (by omega)] at hQ
      exact wn_ret (i := 61) rfl rfl hQ
    · skip
      refine wn_iload (i := 56) rfl rfl ?_
      refine wn_goto (i := 57) (t' := 61) rfl rfl ?_
      rw [show mI (aW 9 q m) (dI 9 a b q m) = a from by show mI q (if b = 0 then nI a else nI (a % b)) = _; rw [if_pos c55]; exact mI_small ha (by omega)] at hQ
      exact wn_ret (i := 61) rfl rfl hQ
  · subst e
    refine wn_swIn (i := 4) (t := 62) (t' := 62) rfl (by decide) (by decide) rfl ?_
    refine wn_iload (i := 62) rfl rfl ?_
    refine wn_iload (i := 63) rfl rfl ?_
    refine wn_calls (i := 64) (as := [.int (nI a), .int (nI q)]) (rest := []) (es := [some (.int (nI a)), some (.int (nI q))]) rfl rfl (by decide) rfl rfl rfl (Nat.le_of_ble_eq_true rfl) rfl rfl ?_
    refine k_signed (by omega) ?_
    show xm_wp sc (d + 2) 43 65 [some (.int (nI 10)), some (.int (nI q)), some (.int (nI a)), some (.int (nI b)), some (.int (nI m)), some (.int (nI (2 ^ q - 1)))] [.int (sI a q)] h Q
    refine wn_iload (i := 65) rfl rfl ?_
    refine wn_iload (i := 66) rfl rfl ?_
    refine wn_calls (i := 67) (as := [.int (nI b), .int (nI q)]) (rest := [.int (sI a q)]) (es := [some (.int (nI b)), some (.int (nI q))]) rfl rfl (by decide) rfl rfl rfl (Nat.le_of_ble_eq_true rfl) rfl rfl ?_
    refine k_signed (by omega) ?_
    show xm_wp sc (d + 2) 43 68 [some (.int (nI 10)), some (.int (nI q)), some (.int (nI a)), some (.int (nI b)), some (.int (nI m)), some (.int (nI (2 ^ q - 1)))] [.int (sI b q), .int (sI a q)] h Q
    refine wn_calls (i := 68) (as := [.int (sI a q), .int (sI b q)]) (rest := []) (es := [some (.int (sI a q)), some (.int (sI b q))]) rfl rfl (by decide) rfl rfl rfl (Nat.le_of_ble_eq_true rfl) rfl rfl ?_
    refine k_signedQuotient ?_
    show xm_wp sc (d + 2) 43 69 [some (.int (nI 10)), some (.int (nI q)), some (.int (nI a)), some (.int (nI b)), some (.int (nI m)), some (.int (nI (2 ^ q - 1)))] [.int (if sI b q = 0 then (if 0 ≤ sI a q then -1 else nI 1) else sI a q / sI b q)] h Q
    refine wn_iload (i := 69) rfl rfl ?_
    refine wi_iand (i := 70) (a := (if sI b q = 0 then (if 0 ≤ sI a q then -1 else nI 1) else sI a q / sI b q)) (b := (nI (2 ^ q - 1))) rfl ?_
    rw [mI_and (by omega)]
    rw [show mI (aW 10 q m) (dI 10 a b q m) = mI q (if sI b q = 0 then (if 0 ≤ sI a q then -1 else nI 1) else sI a q / sI b q) from by show mI q (if b = 0 then _ else _) = _; by_cases h0 : b = 0; rw [if_pos h0, if_pos ((sI_0 hq (hbn (by decide))).mpr h0)]; rw [if_neg h0, if_neg (fun e => h0 ((sI_0 hq (hbn (by decide))).mp e))]] at hQ
    exact wn_ret (i := 71) rfl rfl hQ
  · subst e
    refine wn_swIn (i := 4) (t := 72) (t' := 72) rfl (by decide) (by decide) rfl ?_
    refine wn_iload (i := 72) rfl rfl ?_
    refine wn_iload (i := 73) rfl rfl ?_
    refine wn_calls (i := 74) (as := [.int (nI a), .int (nI q)]) (rest := []) (es := [some (.int (nI a)), some (.int (nI q))]) rfl rfl (by decide) rfl rfl rfl (Nat.le_of_ble_eq_true rfl) rfl rfl ?_
    refine k_signed (by omega) ?_
    show xm_wp sc (d + 2) 43 75 [some (.int (nI 11)), some (.int (nI q)), some (.int (nI a)), some (.int (nI b)), some (.int (nI m)), some (.int (nI (2 ^ q - 1)))] [.int (sI a q)] h Q
    refine wn_iload (i := 75) rfl rfl ?_
    refine wn_iload (i := 76) rfl rfl ?_
    refine wn_calls (i := 77) (as := [.int (nI b), .int (nI q)]) (rest := [.int (sI a q)]) (es := [some (.int (nI b)), some (.int (nI q))]) rfl rfl (by decide) rfl rfl rfl (Nat.le_of_ble_eq_true rfl) rfl rfl ?_
    refine k_signed (by omega) ?_
    show xm_wp sc (d + 2) 43 78 [some (.int (nI 11)), some (.int (nI q)), some (.int (nI a)), some (.int (nI b)), some (.int (nI m)), some (.int (nI (2 ^ q - 1)))] [.int (sI b q), .int (sI a q)] h Q
    refine wn_calls (i := 78) (as := [.int (sI a q), .int (sI b q)]) (rest := []) (es := [some (.int (sI a q)), some (.int (sI b q))]) rfl rfl (by decide) rfl rfl rfl (Nat.le_of_ble_eq_true rfl) rfl rfl ?_
    refine k_signedLeftOver ?_
    show xm_wp sc (d + 2) 43 79 [some (.int (nI 11)), some (.int (nI q)), some (.int (nI a)), some (.int (nI b)), some (.int (nI m)), some (.int (nI (2 ^ q - 1)))] [.int (if sI b q = 0 then sI a q else sI a q - sI a q / sI b q * sI b q)] h Q
    refine wn_iload (i := 79) rfl rfl ?_
    refine wi_iand (i := 80) (a := (if sI b q = 0 then sI a q else sI a q - sI a q / sI b q * sI b q)) (b := (nI (2 ^ q - 1))) rfl ?_
    rw [mI_and (by omega)]
    rw [show mI (aW 11 q m) (dI 11 a b q m) = mI q (if sI b q = 0 then sI a q else sI a q - sI a q / sI b q * sI b q) from by show mI q (if b = 0 then _ else _) = _; by_cases h0 : b = 0; rw [if_pos h0, if_pos ((sI_0 hq (hbn (by decide))).mpr h0), F.2.1 a ha, mI_small ha (by omega)]; rw [if_neg h0, if_neg (fun e => h0 ((sI_0 hq (hbn (by decide))).mp e))]] at hQ
    exact wn_ret (i := 81) rfl rfl hQ
  · subst e
    refine wn_swIn (i := 4) (t := 82) (t' := 82) rfl (by decide) (by decide) rfl ?_
    refine wn_iload (i := 82) rfl rfl ?_
    refine wn_iload (i := 83) rfl rfl ?_
    refine wn_ic_lt (i := 84) (a := b) (b := q) (t' := 87) rfl rfl (by omega) (by omega) (fun c84 => ?_) (fun c84 => ?_)
    · skip
      refine wn_iload (i := 87) rfl rfl ?_
      refine wn_iload (i := 88) rfl rfl ?_
      refine wi_ishl (i := 89) (a := (nI a)) (b := (nI b)) rfl ?_
      refine wn_iload (i := 90) rfl rfl ?_
      refine wi_iand (i := 91) (a := ((nI a) <<< ((nI b) &&& 31))) (b := (nI (2 ^ q - 1))) rfl ?_
      rw [mI_and (by omega)]
      rw [show mI (aW 12 q m) (dI 12 a b q m) = mI q (nI a <<< (nI b &&& 31)) from by show mI q (if b < q then _ else nI 0) = _; rw [if_pos c84]] at hQ
      exact wn_ret (i := 92) rfl rfl hQ
    · skip
      refine wn_const (i := 85) (n := 0) rfl rfl ?_
      refine wn_goto (i := 86) (t' := 92) rfl rfl ?_
      rw [show mI (aW 12 q m) (dI 12 a b q m) = 0 from by show mI q (if b < q then _ else nI 0) = _; rw [if_neg (by omega)]; exact mI_small (Nat.two_pow_pos q) (by omega)] at hQ
      exact wn_ret (i := 92) rfl rfl hQ
  · subst e
    refine wn_swIn (i := 4) (t := 93) (t' := 93) rfl (by decide) (by decide) rfl ?_
    refine wn_iload (i := 93) rfl rfl ?_
    refine wn_iload (i := 94) rfl rfl ?_
    refine wn_ic_lt (i := 95) (a := b) (b := q) (t' := 98) rfl rfl (by omega) (by omega) (fun c95 => ?_) (fun c95 => ?_)
    · skip
      refine wn_iload (i := 98) rfl rfl ?_
      refine wn_iload (i := 99) rfl rfl ?_
      refine wn_ishr (i := 100) (a := a) (b := b) rfl (by omega) (by omega) ?_
      rw [show mI (aW 13 q m) (dI 13 a b q m) = a / 2 ^ b from by show mI q (if b < q then _ else nI 0) = _; rw [if_pos c95, xn_shr (by omega) (by omega)]; exact mI_small (Nat.lt_of_le_of_lt (Nat.div_le_self a _) ha) (by omega)] at hQ
      exact wn_ret (i := 101) rfl rfl hQ
    · skip
      refine wn_const (i := 96) (n := 0) rfl rfl ?_
      refine wn_goto (i := 97) (t' := 101) rfl rfl ?_
      rw [show mI (aW 13 q m) (dI 13 a b q m) = 0 from by show mI q (if b < q then _ else nI 0) = _; rw [if_neg (by omega)]; exact mI_small (Nat.two_pow_pos q) (by omega)] at hQ
      exact wn_ret (i := 101) rfl rfl hQ
  · subst e
    refine wn_swIn (i := 4) (t := 102) (t' := 102) rfl (by decide) (by decide) rfl ?_
    refine wn_iload (i := 102) rfl rfl ?_
    refine wn_iload (i := 103) rfl rfl ?_
    refine wn_calls (i := 104) (as := [.int (nI a), .int (nI q)]) (rest := []) (es := [some (.int (nI a)), some (.int (nI q))]) rfl rfl (by decide) rfl rfl rfl (Nat.le_of_ble_eq_true rfl) rfl rfl ?_
    refine k_signed (by omega) ?_
    show xm_wp sc (d + 2) 43 105 [some (.int (nI 14)), some (.int (nI q)), some (.int (nI a)), some (.int (nI b)), some (.int (nI m)), some (.int (nI (2 ^ q - 1)))] [.int (sI a q)] h Q
    refine wn_iload (i := 105) rfl rfl ?_
    refine wn_iload (i := 106) rfl rfl ?_
    refine wn_min (i := 107) (a := b) (b := q) rfl (by omega) (by omega) (Nat.le_of_ble_eq_true rfl) rfl ?_
    refine wi_ishr (i := 108) (a := (sI a q)) (b := (nI (min b q))) rfl ?_
    refine wn_iload (i := 109) rfl rfl ?_
    refine wi_iand (i := 110) (a := ((sI a q) >>> ((nI (min b q)) &&& 31))) (b := (nI (2 ^ q - 1))) rfl ?_
    rw [mI_and (by omega)]
    rw [show mI (aW 14 q m) (dI 14 a b q m) = mI q (sI a q >>> (nI (min b q) &&& 31)) from by show mI q (if b < q then _ else _) = _; by_cases h0 : b < q; rw [if_pos h0, Nat.min_eq_left (by omega)]; rw [if_neg h0, Nat.min_eq_right (by omega), F.2.2 (by omega) a ha]] at hQ
    exact wn_ret (i := 111) rfl rfl hQ
  · subst e
    refine wn_swIn (i := 4) (t := 112) (t' := 112) rfl (by decide) (by decide) rfl ?_
    refine wn_iload (i := 112) rfl rfl ?_
    refine wn_iload (i := 113) rfl rfl ?_
    refine wn_ic_ne (i := 114) (a := a) (b := b) (t' := 117) rfl rfl (by omega) (by omega) (fun c114 => ?_) (fun c114 => ?_)
    · skip
      refine wn_const (i := 117) (n := 0) rfl rfl ?_
      rw [show mI (aW 15 q m) (dI 15 a b q m) = 0 from by show mI 1 (nI (if a = b then 1 else 0)) = _; rw [if_neg c114]; exact mI_small (by decide) (by decide)] at hQ
      exact wn_ret (i := 118) rfl rfl hQ
    · skip
      refine wn_const (i := 115) (n := 1) rfl rfl ?_
      refine wn_goto (i := 116) (t' := 118) rfl rfl ?_
      rw [show mI (aW 15 q m) (dI 15 a b q m) = 1 from by show mI 1 (nI (if a = b then 1 else 0)) = _; rw [if_pos c114]; exact mI_small (by decide) (by decide)] at hQ
      exact wn_ret (i := 118) rfl rfl hQ
  · subst e
    refine wn_swIn (i := 4) (t := 119) (t' := 119) rfl (by decide) (by decide) rfl ?_
    refine wn_iload (i := 119) rfl rfl ?_
    refine wn_iload (i := 120) rfl rfl ?_
    refine wn_ic_ge (i := 121) (a := a) (b := b) (t' := 124) rfl rfl (by omega) (by omega) (fun c121 => ?_) (fun c121 => ?_)
    · skip
      refine wn_const (i := 124) (n := 0) rfl rfl ?_
      rw [show mI (aW 16 q m) (dI 16 a b q m) = 0 from by show mI 1 (nI (if a < b then 1 else 0)) = _; rw [if_neg (by omega)]; exact mI_small (by decide) (by decide)] at hQ
      exact wn_ret (i := 125) rfl rfl hQ
    · skip
      refine wn_const (i := 122) (n := 1) rfl rfl ?_
      refine wn_goto (i := 123) (t' := 125) rfl rfl ?_
      rw [show mI (aW 16 q m) (dI 16 a b q m) = 1 from by show mI 1 (nI (if a < b then 1 else 0)) = _; rw [if_pos (by omega)]; exact mI_small (by decide) (by decide)] at hQ
      exact wn_ret (i := 125) rfl rfl hQ
  · subst e
    refine wn_swIn (i := 4) (t := 126) (t' := 126) rfl (by decide) (by decide) rfl ?_
    refine wn_iload (i := 126) rfl rfl ?_
    refine wn_iload (i := 127) rfl rfl ?_
    refine wn_calls (i := 128) (as := [.int (nI a), .int (nI q)]) (rest := []) (es := [some (.int (nI a)), some (.int (nI q))]) rfl rfl (by decide) rfl rfl rfl (Nat.le_of_ble_eq_true rfl) rfl rfl ?_
    refine k_signed (by omega) ?_
    show xm_wp sc (d + 2) 43 129 [some (.int (nI 17)), some (.int (nI q)), some (.int (nI a)), some (.int (nI b)), some (.int (nI m)), some (.int (nI (2 ^ q - 1)))] [.int (sI a q)] h Q
    refine wn_iload (i := 129) rfl rfl ?_
    refine wn_iload (i := 130) rfl rfl ?_
    refine wn_calls (i := 131) (as := [.int (nI b), .int (nI q)]) (rest := [.int (sI a q)]) (es := [some (.int (nI b)), some (.int (nI q))]) rfl rfl (by decide) rfl rfl rfl (Nat.le_of_ble_eq_true rfl) rfl rfl ?_
    refine k_signed (by omega) ?_
    show xm_wp sc (d + 2) 43 132 [some (.int (nI 17)), some (.int (nI q)), some (.int (nI a)), some (.int (nI b)), some (.int (nI m)), some (.int (nI (2 ^ q - 1)))] [.int (sI b q), .int (sI a q)] h Q
    refine wi_ic_ge (i := 132) (a := (sI a q)) (b := (sI b q)) (t' := 135) rfl rfl (fun c132 => ?_) (fun c132 => ?_)
    · skip
      refine wn_const (i := 135) (n := 0) rfl rfl ?_
      rw [show mI (aW 17 q m) (dI 17 a b q m) = 0 from by show mI 1 (nI (if sI b q ≤ sI a q then 0 else 1)) = _; rw [if_pos c132]; exact mI_small (by decide) (by decide)] at hQ
      exact wn_ret (i := 136) rfl rfl hQ
    · skip
      refine wn_const (i := 133) (n := 1) rfl rfl ?_
      refine wn_goto (i := 134) (t' := 136) rfl rfl ?_
      rw [show mI (aW 17 q m) (dI 17 a b q m) = 1 from by show mI 1 (nI (if sI b q ≤ sI a q then 0 else 1)) = _; rw [if_neg c132]; exact mI_small (by decide) (by decide)] at hQ
      exact wn_ret (i := 136) rfl rfl hQ
  · subst e
    refine wn_swIn (i := 4) (t := 137) (t' := 137) rfl (by decide) (by decide) rfl ?_
    refine wn_iload (i := 137) rfl rfl ?_
    refine wn_iload (i := 138) rfl rfl ?_
    refine wn_ishl (i := 139) (a := a) (b := m) rfl (by omega) (by have := Nat.mul_lt_mul_of_pos_right ha (Nat.two_pow_pos m); rw [← Nat.pow_add] at this; exact Nat.lt_of_lt_of_le this (Nat.le_trans (xn_p12 (hb8 rfl).2) (by decide))) ?_
    refine wn_iload (i := 140) rfl rfl ?_
    refine wn_ior (i := 141) (a := (a * 2 ^ m)) (b := b) rfl ?_
    rw [show mI (aW 18 q m) (dI 18 a b q m) = a * 2 ^ m ||| b from by show mI (q + m) ((nI a <<< (nI m &&& 31)) ||| nI b) = _; rw [xn_shl (by omega) (by have := Nat.mul_lt_mul_of_pos_right ha (Nat.two_pow_pos m); rw [← Nat.pow_add] at this; exact Nat.lt_of_lt_of_le this (Nat.le_trans (xn_p12 (hb8 rfl).2) (by decide))), xn_or]; exact mI_small (Nat.or_lt_two_pow (by have := Nat.mul_lt_mul_of_pos_right ha (Nat.two_pow_pos m); rw [← Nat.pow_add] at this; exact this) (Nat.lt_of_lt_of_le (hb8 rfl).1 (xn_pow (by omega)))) (by have := (hb8 rfl).2; omega)] at hQ
    exact wn_ret (i := 142) rfl rfl hQ
  · subst e
    refine wn_swIn (i := 4) (t := 143) (t' := 143) rfl (by decide) (by decide) rfl ?_
    refine wn_iload (i := 143) rfl rfl ?_
    refine wn_iload (i := 144) rfl rfl ?_
    refine wn_iload (i := 145) rfl rfl ?_
    refine wn_calls (i := 146) (as := [.int (nI a), .int (nI b), .int (nI q)]) (rest := []) (es := [some (.int (nI a)), some (.int (nI b)), some (.int (nI q)), none]) rfl rfl (by decide) rfl rfl rfl (Nat.le_of_ble_eq_true rfl) rfl rfl ?_
    refine k_around hq1 hq hb2 ?_
    show xm_wp sc (d + 2) 43 147 [some (.int (nI 19)), some (.int (nI q)), some (.int (nI a)), some (.int (nI b)), some (.int (nI m)), some (.int (nI (2 ^ q - 1)))] [.int (nI (mI q (dI 19 a b q 0)))] h Q
    exact wn_ret (i := 147) rfl rfl hQ
theorem k_widthOf {v : Int32} {l r : Nat} (hl : l ≤ 12) (hr : r ≤ 12) (hBad : (∀ k, k < 20 → v = nI k → k ≠ 18 ∧ l ≠ r) → Q (some (.int (-2))) h) (hQ : ∀ k, k < 20 → v = nI k → (k ≠ 18 → l = r) → Q (some (.int (nI (aW k l r)))) h) : xm_wp sc (d) 49 0 [some (.int v), some (.int (nI l)), some (.int (nI r))] [] h Q := by
  refine wn_iload (i := 0) rfl rfl ?_
  refine wi_if_lt (i := 1) (a := v) (t' := 5) rfl rfl (fun c1 => ?_) (fun c1 => ?_)
  · skip
    refine wn_constI (i := 5) (n := -2) rfl rfl ?_
    exact wn_ret (i := 6) rfl rfl (hBad (fun k hk e => absurd e (xn_notIn2 (lo := 0) (e := 19) (by decide) (by decide) (fun q => by first | exact absurd q.1 (Int32.not_le.mpr c1) | exact absurd q.2 c4) k (Nat.zero_le _) (by omega))))
  · skip
    refine wn_iload (i := 2) rfl rfl ?_
    refine wn_const (i := 3) (n := 19) rfl rfl ?_
    refine wi_ic_le (i := 4) (a := v) (b := (nI 19)) (t' := 7) rfl rfl (fun c4 => ?_) (fun c4 => ?_)
    · skip
      obtain ⟨k, -, hk, rfl⟩ := xn_isIn2 (lo := 0) (e := 19) (by decide) (by decide) (Int32.not_lt.mp c1) c4
      refine wn_iload (i := 7) rfl rfl ?_
      refine wn_const (i := 8) (n := 18) rfl rfl ?_
      refine wn_ic_ne (i := 9) (a := k) (b := 18) (t' := 14) rfl rfl (by omega) (by omega) (fun c9 => ?_) (fun c9 => ?_)
      · skip
        refine wn_iload (i := 14) rfl rfl ?_
        refine wn_iload (i := 15) rfl rfl ?_
        refine wn_ic_eq (i := 16) (a := l) (b := r) (t' := 19) rfl rfl (by omega) (by omega) (fun c16 => ?_) (fun c16 => ?_)
        · skip
          refine wn_iload (i := 19) rfl rfl ?_
          refine wn_const (i := 20) (n := 15) rfl rfl ?_
          refine wn_ic_lt (i := 21) (a := k) (b := 15) (t' := 27) rfl rfl (by omega) (by omega) (fun c21 => ?_) (fun c21 => ?_)
          · skip
            refine wn_iload (i := 27) rfl rfl ?_
            have hq := hQ k (by omega) rfl (fun _ => c16)
            rw [show aW k l r = l by unfold aW; rw [if_neg c9, if_neg (by omega)]] at hq
            exact wn_ret (i := 28) rfl rfl hq
          · skip
            refine wn_iload (i := 22) rfl rfl ?_
            refine wn_const (i := 23) (n := 17) rfl rfl ?_
            refine wn_ic_gt (i := 24) (a := k) (b := 17) (t' := 27) rfl rfl (by omega) (by omega) (fun c24 => ?_) (fun c24 => ?_)
            · skip
              refine wn_iload (i := 27) rfl rfl ?_
              have hq := hQ k (by omega) rfl (fun _ => c16)
              rw [show aW k l r = l by unfold aW; rw [if_neg c9, if_neg (by omega)]] at hq
              exact wn_ret (i := 28) rfl rfl hq
            · skip
              refine wn_const (i := 25) (n := 1) rfl rfl ?_
              refine wn_goto (i := 26) (t' := 28) rfl rfl ?_
              have hq := hQ k (by omega) rfl (fun _ => c16)
              rw [show aW k l r = 1 by unfold aW; rw [if_neg c9, if_pos (by omega)]] at hq
              exact wn_ret (i := 28) rfl rfl hq
        · skip
          refine wn_constI (i := 17) (n := -2) rfl rfl ?_
          exact wn_ret (i := 18) rfl rfl (hBad (fun k' hk' e => by rw [← (nI_eq (by omega) (by omega)).mp e]; exact ⟨c9, c16⟩))
      · skip
        refine wn_iload (i := 10) rfl rfl ?_
        refine wn_iload (i := 11) rfl rfl ?_
        refine wn_iadd (i := 12) (a := l) (b := r) rfl ?_
        have hq := hQ k (by omega) rfl (fun e => absurd c9 e)
        rw [show aW k l r = l + r by unfold aW; rw [if_pos c9]] at hq
        exact wn_ret (i := 13) rfl rfl hq
    · skip
      refine wn_constI (i := 5) (n := -2) rfl rfl ?_
      exact wn_ret (i := 6) rfl rfl (hBad (fun k hk e => absurd e (xn_notIn2 (lo := 0) (e := 19) (by decide) (by decide) (fun q => by first | exact absurd q.1 (Int32.not_le.mpr c1) | exact absurd q.2 c4) k (Nat.zero_le _) (by omega))))
end KK
end
section
/-! ===== how many names a diagram takes (pure) ===== -/
theorem nodup_le : ∀ (M : Nat) (l : List Nat), l.Nodup → (∀ x ∈ l, x < M) → l.length ≤ M := by
  intro M
  induction M with
  | zero =>
    intro l _ h
    cases l with
    | nil => exact Nat.le_refl _
    | cons a l => exact absurd (h a List.mem_cons_self) (Nat.not_lt_zero _)
  | succ M ih =>
    intro l hn h
    by_cases hM : M ∈ l
    · have h1 := ih (l.erase M) (hn.erase M) (fun x hx => by
        have h2 := (List.Nodup.mem_erase_iff hn).mp hx
        have := h x h2.2
        omega)
      rw [List.length_erase_of_mem hM] at h1
      omega
    · have h1 := ih l hn (fun x hx => by
        have := h x hx
        have : x ≠ M := fun e => hM (by rw [← e]; exact hx)
        omega)
      omega
theorem nd_none {lo hi : Nat → Nat} {l h : Nat} : ∀ (m k : Nat), nd lo hi l h m k = k + m → ∀ j, k ≤ j → j < k + m → ¬ (lo j = l ∧ hi j = h)
  | 0, k, _, j, h1, h2 => by omega
  | m + 1, k, e, j, h1, h2 => by
    unfold nd at e
    split at e
    · omega
    · rename_i hne
      by_cases q : j = k
      · rw [q]; exact hne
      · exact nd_none m (k + 1) (by omega) j (by omega) (by omega)
theorem nd_some {lo hi : Nat → Nat} {l h : Nat} : ∀ (m k : Nat), nd lo hi l h m k ≠ k + m → lo (nd lo hi l h m k) = l ∧ hi (nd lo hi l h m k) = h
  | 0, k, e => absurd rfl e
  | m + 1, k, e => by
    unfold nd at e ⊢
    split
    · assumption
    · rename_i hne
      rw [if_neg hne] at e
      exact nd_some m (k + 1) (by omega)
/-- within a level: what is read is old, the new nodes are apart -/
def LV (F M : Nat) (s t : SH) (m : Nat) : Prop := (∀ j, m ≤ j → t.1 j = s.1 j) ∧ (∀ j, j < m → t.1 j < t.2.1) ∧ F ≤ t.2.1 ∧ t.2.1 ≤ F + m ∧ (∀ k, k < F → t.2.2.1 k = s.2.2.1 k ∧ t.2.2.2 k = s.2.2.2 k) ∧ (∀ k, F ≤ k → k < t.2.1 → t.2.2.1 k < F ∧ t.2.2.2 k < F ∧ t.2.2.1 k ≠ t.2.2.2 k) ∧ ∀ k k', F ≤ k → k < t.2.1 → F ≤ k' → k' < t.2.1 → t.2.2.1 k = t.2.2.1 k' → t.2.2.2 k = t.2.2.2 k' → k = k'
theorem LV_lvl {F M : Nat} {s : SH} (hF : F = s.2.1) (hP : ∀ j, j < M → s.1 j < F) : ∀ m, 2 * m ≤ M → LV F M s (lvl F s m) m
  | 0, _ => ⟨fun _ _ => rfl, fun j hj => absurd hj (Nat.not_lt_zero _), by rw [hF]; exact Nat.le_refl _, by rw [hF]; exact Nat.le_refl _, fun _ _ => ⟨rfl, rfl⟩, fun k h1 h2 => by
      rw [hF] at h1
      exact absurd (Nat.lt_of_lt_of_le h2 h1) (Nat.lt_irrefl _), fun k k' h1 h2 => by
      rw [hF] at h1
      exact absurd (Nat.lt_of_lt_of_le h2 h1) (Nat.lt_irrefl _)⟩
  | m + 1, hm => by
    have ih := LV_lvl hF hP m (by omega)
    show LV F M s (stp F (lvl F s m) m) (m + 1)

    generalize lvl F s m = t at ih ⊢
    obtain ⟨P, N, lo, hi⟩ := t
    obtain ⟨a1, a2, a3, a4, a5, a6, a7⟩ := ih
    dsimp only at a1 a2 a3 a4 a5 a6 a7
    have r1 : P (2 * m) = s.1 (2 * m) := a1 _ (by omega)
    have r2 : P (2 * m + 1) = s.1 (2 * m + 1) := a1 _ (by omega)
    have b1 := hP (2 * m) (by omega)
    have b2 := hP (2 * m + 1) (by omega)
    have hnl := nd_le lo hi (P (2 * m)) (P (2 * m + 1)) (N - F) F
    unfold stp
    dsimp only
    split
    · refine ⟨fun j hj => ?_, fun j hj => ?_, a3, by dsimp only; omega, a5, a6, a7⟩
      · dsimp only
        rw [nU_ne (by omega)]
        exact a1 j (by omega)
      · dsimp only
        by_cases q : j = m
        · rw [q, nU_same]; omega
        · rw [nU_ne q]; exact a2 j (by omega)
    · rename_i hlh
      split
      · rename_i hN
        unfold ndS at hN
        dsimp only at hN
        have hno := nd_none (lo := lo) (hi := hi) (l := P (2 * m)) (h := P (2 * m + 1)) (N - F) F (by omega)
        refine ⟨fun j hj => ?_, fun j hj => ?_, by dsimp only; omega, by dsimp only; omega, fun k hk => ?_, fun k h1 h2 => ?_, fun k k' h1 h2 h3 h4 e1 e2 => ?_⟩
        · dsimp only
          rw [nU_ne (by omega)]
          exact a1 j (by omega)
        · dsimp only
          by_cases q : j = m
          · rw [q, nU_same]; omega
          · rw [nU_ne q]
            have := a2 j (by omega)
            omega
        · dsimp only
          rw [nU_ne (by omega), nU_ne (by omega)]
          exact a5 k hk
        · dsimp only at h2 ⊢
          by_cases q : k = N
          · rw [q, nU_same, nU_same]
            omega
          · rw [nU_ne q, nU_ne q]
            exact a6 k h1 (by omega)
        · dsimp only at h2 h4 e1 e2
          by_cases q : k = N <;> by_cases q' : k' = N
          · omega
          · rw [q, nU_same, nU_ne q'] at e1 e2
            exact absurd ⟨e1.symm, e2.symm⟩ (hno k' h3 (by omega))
          · rw [q', nU_same, nU_ne q] at e1 e2
            exact absurd ⟨e1, e2⟩ (hno k h1 (by omega))
          · rw [nU_ne q, nU_ne q'] at e1 e2
            exact a7 k k' h1 (by omega) h3 (by omega) e1 e2
      · rename_i hN
        unfold ndS at hN
        dsimp only at hN
        refine ⟨fun j hj => ?_, fun j hj => ?_, a3, by dsimp only; omega, a5, a6, a7⟩
        · dsimp only
          rw [nU_ne (by omega)]
          exact a1 j (by omega)
        · dsimp only
          by_cases q : j = m
          · rw [q, nU_same]
            unfold ndS
            dsimp only
            omega
          · rw [nU_ne q]; exact a2 j (by omega)
/-- a level makes at most all pairs of different old names -/
theorem LV.sq {F M m : Nat} {s t : SH} (h : LV F M s t m) : t.2.1 ≤ F * F := by
  obtain ⟨a1, a2, a3, a4, a5, a6, a7⟩ := h
  by_cases hF0 : F = 0
  · by_cases hz : t.2.1 = 0
    · omega
    · have := a6 0 (by omega) (by omega)
      omega
  let c : Nat → Nat := fun k => if k < F then k * F + k else t.2.2.1 k * F + t.2.2.2 k
  have hc : ∀ k, k < t.2.1 → ∃ a b, a < F ∧ b < F ∧ c k = a * F + b ∧ (k < F → a = k ∧ b = k) ∧ (F ≤ k → a = t.2.2.1 k ∧ b = t.2.2.2 k ∧ a ≠ b) := by
    intro k hk
    by_cases q : k < F
    · exact ⟨k, k, q, q, by simp [c, q], fun _ => ⟨rfl, rfl⟩, fun e => by omega⟩
    · have h6 := a6 k (by omega) hk
      exact ⟨_, _, h6.1, h6.2.1, by simp [c, q], fun e => absurd e q, fun _ => ⟨rfl, rfl, h6.2.2⟩⟩
  have hinj : ∀ k k', k < t.2.1 → k' < t.2.1 → c k = c k' → k = k' := by
    intro k k' hk hk' e
    obtain ⟨a, b, h1, h2, h3, h4, h5⟩ := hc k hk
    obtain ⟨a', b', g1, g2, g3, g4, g5⟩ := hc k' hk'
    rw [h3, g3] at e
    have eb : b = b' := by
      have := congrArg (· % F) e
      simp only [Nat.mul_add_mod_self_right, Nat.mod_eq_of_lt h2, Nat.mod_eq_of_lt g2] at this
      exact this
    have ea : a = a' := by
      have := congrArg (· / F) e
      simp only [Nat.add_comm (_ * F), Nat.add_mul_div_right _ _ (show 0 < F by omega), Nat.div_eq_of_lt h2, Nat.div_eq_of_lt g2] at this
      omega
    by_cases q : k < F <;> by_cases q' : k' < F
    · have := h4 q; have := g4 q'; omega
    · have := h4 q; have := g5 (by omega); omega
    · have := h5 (by omega); have := g4 q'; omega
    · have u := h5 (by omega)
      have u' := g5 (by omega)
      exact a7 k k' (by omega) hk (by omega) hk' (by omega) (by omega)
  have hl := nodup_le (F * F) ((List.range t.2.1).map c) (by
    rw [List.nodup_iff_pairwise_ne, List.pairwise_map]
    have := List.nodup_range (n := t.2.1)
    rw [List.nodup_iff_pairwise_ne] at this
    refine List.Pairwise.imp_of_mem (fun {a b} ha hb hab => ?_) this
    intro e
    exact hab (hinj a b (List.mem_range.mp ha) (List.mem_range.mp hb) e)) (by
    intro x hx
    obtain ⟨k, hk, rfl⟩ := List.mem_map.mp hx
    obtain ⟨a, b, h1, h2, h3, -, -⟩ := hc k (List.mem_range.mp hk)
    rw [h3]
    calc a * F + b < a * F + F := by omega
      _ = (a + 1) * F := by rw [Nat.add_mul, Nat.one_mul]
      _ ≤ F * F := Nat.mul_le_mul_right F (by omega))
  rw [List.length_map, List.length_range] at hl
  exact hl
end
section
/-! ===== a table of names by keys, probed in a row (pure) ===== -/
def HT (K V : Nat → Nat) (N : Nat) (ky hm sl : Nat → Nat) : Prop :=
  (∀ k, 2 ≤ k → k < N → sl k < 2048 ∧ K (sl k) = ky k ∧ V (sl k) = k ∧ ky k ≠ 0 ∧ ∃ d, d < 2048 ∧ sl k = (hm (ky k) + d) % 2048 ∧ ∀ j, j < d → K ((hm (ky k) + j) % 2048) ≠ 0) ∧ ∀ s, s < 2048 → K s ≠ 0 → ∃ k, 2 ≤ k ∧ k < N ∧ sl k = s
theorem HT.start {V ky hm sl : Nat → Nat} : HT (fun _ => 0) V 2 ky hm sl := ⟨fun k h1 h2 => by omega, fun s _ h => absurd rfl h⟩
theorem HT.hit {K V ky hm sl : Nat → Nat} {N s key : Nat} (h : HT K V N ky hm sl) (hs : s < 2048) (hk : K s = key) (h0 : key ≠ 0) : ∃ k, 2 ≤ k ∧ k < N ∧ ky k = key ∧ V s = k := by
  obtain ⟨k, h1, h2, h3⟩ := h.2 s hs (by rw [hk]; exact h0)
  obtain ⟨g1, g2, g3, -⟩ := h.1 k h1 h2
  rw [h3] at g2 g3
  exact ⟨k, h1, h2, g2.symm.trans hk, g3⟩
theorem HT.miss {K V ky hm sl : Nat → Nat} {N t key : Nat} (h : HT K V N ky hm sl) (hp : ∀ j, j < t → K ((hm key + j) % 2048) ≠ key) (hz : K ((hm key + t) % 2048) = 0) : ∀ k, 2 ≤ k → k < N → ky k ≠ key := by
  intro k h1 h2 e
  obtain ⟨g1, g2, g3, g4, d, g5, g6, g7⟩ := h.1 k h1 h2
  rw [e] at g2 g4 g6 g7
  rcases Nat.lt_trichotomy d t with q | q | q
  · exact hp d q (by rw [← g6]; exact g2)
  · rw [q] at g6
    rw [g6, hz] at g2
    exact g4 g2.symm
  · exact g7 t q hz
theorem HT.room {K V ky hm sl : Nat → Nat} {N x : Nat} (h : HT K V N ky hm sl) (hN : N < 2048) : ¬ ∀ j, j < 2048 → K ((x + j) % 2048) ≠ 0 := by
  intro hall
  have hs : ∀ s, s < 2048 → K s ≠ 0 := by
    intro s hs
    have h1 := hall ((s + 2048 - x % 2048) % 2048) (Nat.mod_lt _ (by decide))
    rw [show (x + (s + 2048 - x % 2048) % 2048) % 2048 = s by omega] at h1
    exact h1
  have hch : ∀ s, ∃ k, s < 2048 → (k < N ∧ sl k = s) := by
    intro s
    by_cases q : s < 2048
    · obtain ⟨k, h1, h2, h3⟩ := h.2 s q (hs s q)
      exact ⟨k, fun _ => ⟨h2, h3⟩⟩
    · exact ⟨0, fun e => absurd e q⟩
  have hl := nodup_le N ((List.range 2048).map (fun s => Classical.choose (hch s))) (by
    rw [List.nodup_iff_pairwise_ne, List.pairwise_map]
    have := List.nodup_range (n := 2048)
    rw [List.nodup_iff_pairwise_ne] at this
    refine List.Pairwise.imp_of_mem (fun {a b} ha hb hab => ?_) this
    intro e
    have u := (Classical.choose_spec (hch a) (List.mem_range.mp ha)).2
    have u' := (Classical.choose_spec (hch b) (List.mem_range.mp hb)).2
    rw [e] at u
    exact hab (u.symm.trans u')) (by
    intro y hy
    obtain ⟨s, h1, rfl⟩ := List.mem_map.mp hy
    exact (Classical.choose_spec (hch s) (List.mem_range.mp h1)).1)
  rw [List.length_map, List.length_range] at hl
  omega
theorem HT.insert {K V ky hm sl : Nat → Nat} {N t key : Nat} (h : HT K V N ky hm sl) (ht : t < 2048) (h0 : key ≠ 0) (hN : 2 ≤ N) (hp : ∀ j, j < t → K ((hm key + j) % 2048) ≠ 0) (hz : K ((hm key + t) % 2048) = 0) :
    HT (nU K ((hm key + t) % 2048) key) (nU V ((hm key + t) % 2048) N) (N + 1) (nU ky N key) hm (nU sl N ((hm key + t) % 2048)) := by
  have hs : (hm key + t) % 2048 < 2048 := Nat.mod_lt _ (by decide)
  generalize hse : (hm key + t) % 2048 = s at hz hs ⊢
  have keep : ∀ z, K z ≠ 0 → nU K s key z ≠ 0 := by
    intro z hz2
    by_cases q : z = s
    · rw [q, nU_same]; exact h0
    · rw [nU_ne q]; exact hz2
  refine ⟨fun k h1 h2 => ?_, fun z hz1 hz2 => ?_⟩
  · by_cases q : k = N
    · subst q
      rw [nU_same, nU_same, nU_same, nU_same]
      exact ⟨hs, rfl, rfl, h0, t, ht, hse.symm, fun j hj => keep _ (hp j hj)⟩
    · obtain ⟨g1, g2, g3, g4, d, g5, g6, g7⟩ := h.1 k h1 (by omega)
      have hne : sl k ≠ s := fun e => g4 (by rw [← g2, e]; exact hz)
      rw [nU_ne q, nU_ne q, nU_ne hne, nU_ne hne]
      exact ⟨g1, g2, g3, g4, d, g5, g6, fun j hj => keep _ (g7 j hj)⟩
  · by_cases q : z = s
    · exact ⟨N, hN, by omega, by rw [nU_same, q]⟩
    · rw [nU_ne q] at hz2
      obtain ⟨k, h1, h2, h3⟩ := h.2 z hz1 hz2
      exact ⟨k, h1, by omega, by rw [nU_ne (by omega)]; exact h3⟩
/-- names stay below 768 -/
def Bd (l : Nat) : Nat := if 12 ≤ l then 2 else if l = 11 then 4 else if l = 10 then 16 else if l = 9 then 256 else 768 - 2 ^ l
theorem Bd_le (l : Nat) : Bd l ≤ 767 := by
  unfold Bd
  have := Nat.two_pow_pos l
  split
  · omega
  · split
    · omega
    · split
      · omega
      · split <;> omega
theorem Bd_step {l N N' : Nat} (hl : l ≤ 11) (hN : N ≤ Bd (l + 1)) (h1 : N' ≤ N + 2 ^ l) (h2 : N' ≤ N * N) : N' ≤ Bd l := by
  have hsq : ∀ c, N ≤ c → N' ≤ c * c := fun c hc => Nat.le_trans h2 (Nat.mul_le_mul hc hc)
  rcases (show l = 11 ∨ l = 10 ∨ l = 9 ∨ l = 8 ∨ l < 8 by omega) with e | e | e | e | e
  · subst e; exact hsq 2 hN
  · subst e; exact hsq 4 hN
  · subst e; exact hsq 16 hN
  · subst e
    have h3 : N ≤ 256 := hN
    show N' ≤ 512
    omega
  · have hb : Bd (l + 1) = 768 - 2 ^ (l + 1) := by unfold Bd; rw [if_neg (by omega), if_neg (by omega), if_neg (by omega), if_neg (by omega)]
    have hb2 : Bd l = 768 - 2 ^ l := by unfold Bd; rw [if_neg (by omega), if_neg (by omega), if_neg (by omega), if_neg (by omega)]
    have hp : 2 ^ (l + 1) = 2 ^ l * 2 := Nat.pow_succ 2 l
    have hp2 := xn_pow (show l + 1 ≤ 8 by omega)
    rw [hb] at hN
    rw [hb2]
    omega
end
section
/-! ===== the core, by sets of bits (pure) ===== -/
/-- the places of what is not left out, as bits -/
def sb (l : Nat → Nat) : Nat → Nat
  | 0 => 0
  | k + 1 => sb l k + (if l k = 0 then 2 ^ k else 0)
theorem sb_lt (l : Nat → Nat) : ∀ k, sb l k < 2 ^ k
  | 0 => by show 0 < 1; decide
  | k + 1 => by
    have := sb_lt l k
    have hp : 2 ^ (k + 1) = 2 ^ k * 2 := Nat.pow_succ 2 k
    unfold sb
    split <;> omega
theorem sb_bit (l : Nat → Nat) : ∀ k i, (sb l k).testBit i = decide (i < k ∧ l i = 0)
  | 0, i => by simp [sb]
  | k + 1, i => by
    have hlt := sb_lt l k
    have ih := sb_bit l k i
    unfold sb
    by_cases hk : l k = 0
    · rw [if_pos hk, Nat.add_comm]
      by_cases hi : i = k
      · subst hi
        rw [Nat.testBit_two_pow_add_eq, Nat.testBit_lt_two_pow hlt]
        simp [hk]
      · rcases Nat.lt_or_gt_of_ne hi with q | q
        · rw [Nat.testBit_two_pow_add_gt q, ih]
          simp [q, show i < k + 1 by omega]
        · rw [Nat.testBit_lt_two_pow (Nat.lt_of_lt_of_le (show 2 ^ k + sb l k < 2 ^ (k + 1) by rw [Nat.pow_succ]; omega) (xn_pow (by omega)))]
          simp [show ¬ i < k + 1 by omega]
    · rw [if_neg hk, Nat.add_zero, ih]
      by_cases hi : i = k
      · subst hi; simp [hk]
      · simp [show (i < k ↔ i < k + 1) by omega]
theorem cM_zero {n : Nat → Nat} {f : Nat → Nat → Nat} : ∀ N, cM n f N = 0 ↔ ∀ x, x < N → mB n f x = false
  | 0 => by simp [cM]
  | N + 1 => by
    have ih := cM_zero (n := n) (f := f) N
    constructor
    · intro h x hx
      have h1 : cM n f N + (mB n f N).toNat = 0 := h
      by_cases q : x = N
      · subst q
        cases hb : mB n f x with
        | false => rfl
        | true => rw [hb] at h1; simp at h1
      · exact ih.mp (by omega) x (by omega)
    · intro h
      show cM n f N + (mB n f N).toNat = 0
      rw [ih.mpr (fun x hx => h x (by omega)), h N (by omega)]
      rfl
theorem kA_iff {f : Nat → Nat → Nat} {x : Nat} : ∀ k, kA f x k = true ↔ ∀ i, i < k → f 7 i ≠ 0 ∨ f 3 (4096 * f 5 i + x) = 1
  | 0 => by simp [kA]
  | k + 1 => by
    have ih := kA_iff (f := f) (x := x) k
    simp only [kA, Bool.and_eq_true, Bool.or_eq_true, decide_eq_true_eq, ih]
    constructor
    · rintro ⟨h1, h2⟩ i hi
      by_cases q : i = k
      · subst q; exact h2
      · exact h1 i (by omega)
    · intro h
      exact ⟨fun i hi => h i (by omega), h k (by omega)⟩
theorem kC_iff {f : Nat → Nat → Nat} {x : Nat} : ∀ k, kC f x k = true ↔ ∀ i, i < k → f 3 (4096 * f 4 i + x) = 1
  | 0 => by simp [kC]
  | k + 1 => by
    have ih := kC_iff (f := f) (x := x) k
    simp only [kC, Bool.and_eq_true, decide_eq_true_eq, ih]
    constructor
    · rintro ⟨h1, h2⟩ i hi
      by_cases q : i = k
      · subst q; exact h2
      · exact h1 i (by omega)
    · intro h
      exact ⟨fun i hi => h i (by omega), h k (by omega)⟩
/-- what of the assumed an assignment fails -/
def fa (f : Nat → Nat → Nat) (x : Nat) (A : Nat) : Nat := sb (fun i => f 3 (4096 * f 5 i + x)) A
theorem fa_and {f : Nat → Nat → Nat} {x A : Nat} {l : Nat → Nat} : fa f x A &&& sb l A = 0 ↔ ∀ i, i < A → l i ≠ 0 ∨ f 3 (4096 * f 5 i + x) ≠ 0 := by
  constructor
  · intro h i hi
    have h1 : (fa f x A &&& sb l A).testBit i = false := by rw [h]; exact Nat.zero_testBit i
    rw [Nat.testBit_and, fa, sb_bit, sb_bit] at h1
    simp [hi] at h1
    by_cases q : l i = 0
    · exact Or.inr (fun e => h1 e q)
    · exact Or.inl q
  · intro h
    apply Nat.eq_of_testBit_eq
    intro i
    rw [Nat.testBit_and, fa, sb_bit, sb_bit, Nat.zero_testBit]
    by_cases q : i < A
    · rcases h i q with e | e <;> simp [e]
    · simp [q]
/-- a set refutes: every assignment of the claims fails something of it -/
theorem core_iff {n : Nat → Nat} {f : Nat → Nat → Nat} {l : Nat → Nat} {N : Nat} (hv : ∀ i x, i < n 7 → x < N → f 3 (4096 * f 5 i + x) ≤ 1) :
    cM n (fR f 7 l) N = 0 ↔ ∀ x, x < N → kC f x (n 5) = true → fa f x (n 7) &&& sb l (n 7) ≠ 0 := by
  rw [cM_zero]
  have e1 : ∀ x, kC (fR f 7 l) x (n 5) = kC f x (n 5) := fun x => kC_congr (fR_ne (by decide)) (fR_ne (by decide)) x _
  have e2 : ∀ x, x < N → (kA (fR f 7 l) x (n 7) = true ↔ fa f x (n 7) &&& sb l (n 7) = 0) := by
    intro x hx
    rw [kA_iff, fa_and]
    constructor
    · intro h i hi
      have h1 := h i hi
      rw [fR_same, fR_ne (by decide), fR_ne (by decide)] at h1
      rcases h1 with q | q
      · exact Or.inl q
      · exact Or.inr (by omega)
    · intro h i hi
      rw [fR_same, fR_ne (by decide), fR_ne (by decide)]
      rcases h i hi with q | q
      · exact Or.inl q
      · have := hv i x hi hx
        exact Or.inr (by omega)
  constructor
  · intro h x hx hc e
    have h1 := h x hx
    unfold mB at h1
    rw [e1, hc, (e2 x hx).mpr e] at h1
    cases h1
  · intro h x hx
    unfold mB
    rw [e1]
    cases hc : kC f x (n 5) with
    | false => rfl
    | true =>
      cases ha : kA (fR f 7 l) x (n 7) with
      | false => rfl
      | true => exact absurd ((e2 x hx).mp ha) (h x hx hc)
theorem sb_cK (l : Nat → Nat) : ∀ k, cK l k ≤ k := cK_le l
theorem sb_up {l : Nat → Nat} {A i : Nat} (hi : i < A) (h0 : l i = 0) : sb l A = sb (nU l i 1) A + 2 ^ i := by
  induction A with
  | zero => omega
  | succ A ih =>
    unfold sb
    by_cases q : i = A
    · subst q
      have e : ∀ k, k ≤ i → sb (nU l i 1) k = sb l k := by
        intro k hk
        induction k with
        | zero => rfl
        | succ k ihk =>
          unfold sb
          rw [ihk (by omega), nU_ne (by omega)]
      rw [e i (Nat.le_refl _), if_pos h0, nU_same, if_neg (by decide)]
      omega
    · rw [ih (by omega), nU_ne (show A ≠ i by omega)]
      omega
end
section
/-! ===== sums, and what is without a word (pure) ===== -/
def sm (g : Nat → Nat) : Nat → Nat
  | 0 => 0
  | m + 1 => sm g m + g m
theorem sm_congr {g g' : Nat → Nat} : ∀ {m : Nat}, (∀ i, i < m → g i = g' i) → sm g m = sm g' m
  | 0, _ => rfl
  | m + 1, h => by
    show sm g m + g m = sm g' m + g' m
    rw [sm_congr (fun i hi => h i (by omega)), h m (by omega)]
theorem sm_add (g : Nat → Nat) (a : Nat) : ∀ m, sm g (a + m) = sm g a + sm (fun i => g (a + i)) m
  | 0 => rfl
  | m + 1 => by
    show sm g (a + m) + g (a + m) = sm g a + (sm (fun i => g (a + i)) m + g (a + m))
    rw [sm_add g a m]
    omega
theorem sm_mul (g : Nat → Nat) (C : Nat) : ∀ A, sm g (A * C) = sm (fun a => sm (fun c => g (a * C + c)) C) A
  | 0 => by rw [Nat.zero_mul]; rfl
  | A + 1 => by
    show sm g ((A + 1) * C) = sm (fun a => sm (fun c => g (a * C + c)) C) A + sm (fun c => g (A * C + c)) C
    rw [Nat.add_mul, Nat.one_mul, sm_add, sm_mul g C A]
theorem sm_zero {g : Nat → Nat} {m : Nat} (h : ∀ i, i < m → g i = 0) : sm g m = 0 := by
  rw [sm_congr (g' := fun _ => 0) h]
  clear h
  induction m with
  | zero => rfl
  | succ m ih => show sm (fun _ => 0) m + 0 = 0; rw [ih]
theorem sm_one {g : Nat → Nat} {m k : Nat} (hk : k < m) (h : ∀ i, i < m → i ≠ k → g i = 0) : sm g m = g k := by
  induction m with
  | zero => omega
  | succ m ih =>
    show sm g m + g m = g k
    by_cases q : k = m
    · subst q
      rw [sm_zero (fun i hi => h i (by omega) (by omega))]
      omega
    · rw [ih (by omega) (fun i hi => h i (by omega)), h m (by omega) (Ne.symm q)]
      omega
theorem wN_sm (n : Nat → Nat) (f : Nat → Nat → Nat) (bl w : Nat) (any : Bool) : ∀ x, wN n f bl w any x = sm (fun x => if x / 2 ^ bl &&& (2 ^ w - 1) = 0 then wO n f bl w any x else 0) x
  | 0 => rfl
  | x + 1 => by
    show wN n f bl w any x + _ = sm _ x + _
    rw [wN_sm n f bl w any x]
theorem wM_sm (n : Nat → Nat) (f : Nat → Nat → Nat) (x bl : Nat) : ∀ v, wM n f x bl v = sm (fun v => (mB n f (x ||| v * 2 ^ bl)).toNat) v
  | 0 => rfl
  | v + 1 => by
    show wM n f x bl v + _ = sm _ v + _
    rw [wM_sm n f x bl v]
/-- an assignment without the bits of one word -/
def rs (bl w x : Nat) : Nat := x / 2 ^ (bl + w) * 2 ^ bl + x % 2 ^ bl
theorem xn_split {hi v lo bl w : Nat} (hv : v < 2 ^ w) (hl : lo < 2 ^ bl) : (hi * (2 ^ w * 2 ^ bl) + (v * 2 ^ bl + lo)) / 2 ^ bl % 2 ^ w = v ∧ rs bl w (hi * (2 ^ w * 2 ^ bl) + (v * 2 ^ bl + lo)) = hi * 2 ^ bl + lo := by
  have hp := Nat.two_pow_pos bl
  have hp2 := Nat.two_pow_pos w
  have e1 : hi * (2 ^ w * 2 ^ bl) + (v * 2 ^ bl + lo) = lo + (hi * 2 ^ w + v) * 2 ^ bl := by
    rw [Nat.add_mul, Nat.mul_assoc]
    omega
  constructor
  · rw [e1, Nat.add_mul_div_right _ _ hp, Nat.div_eq_of_lt hl, Nat.zero_add, Nat.add_comm, Nat.add_mul_mod_self_right, Nat.mod_eq_of_lt hv]
  · unfold rs
    have e2 : 2 ^ (bl + w) = 2 ^ w * 2 ^ bl := by rw [Nat.pow_add, Nat.mul_comm]
    have hlt : v * 2 ^ bl + lo < 2 ^ w * 2 ^ bl := by
      calc v * 2 ^ bl + lo < v * 2 ^ bl + 2 ^ bl := by omega
        _ = (v + 1) * 2 ^ bl := by rw [Nat.add_mul, Nat.one_mul]
        _ ≤ 2 ^ w * 2 ^ bl := Nat.mul_le_mul_right _ (by omega)
    rw [e2, Nat.add_comm (hi * (2 ^ w * 2 ^ bl)), Nat.add_mul_div_right _ _ (Nat.mul_pos hp2 hp), Nat.div_eq_of_lt hlt, Nat.zero_add]
    rw [show v * 2 ^ bl + lo + hi * (2 ^ w * 2 ^ bl) = lo + (v + hi * 2 ^ w) * 2 ^ bl by rw [Nat.add_mul, Nat.mul_assoc]; omega, Nat.add_mul_mod_self_right, Nat.mod_eq_of_lt hl]
theorem xn_or3 {hi v lo bl w : Nat} (hv : v < 2 ^ w) (hl : lo < 2 ^ bl) : (hi * (2 ^ w * 2 ^ bl) + (0 * 2 ^ bl + lo)) ||| v * 2 ^ bl = hi * (2 ^ w * 2 ^ bl) + (v * 2 ^ bl + lo) := by
  have hlt : v * 2 ^ bl + lo < 2 ^ (w + bl) := by
    rw [Nat.pow_add]
    calc v * 2 ^ bl + lo < v * 2 ^ bl + 2 ^ bl := by omega
      _ = (v + 1) * 2 ^ bl := by rw [Nat.add_mul, Nat.one_mul]
      _ ≤ 2 ^ w * 2 ^ bl := Nat.mul_le_mul_right _ (by omega)
  have hlo : lo < 2 ^ (w + bl) := by omega
  have a1 : hi * (2 ^ w * 2 ^ bl) + (v * 2 ^ bl + lo) = 2 ^ (w + bl) * hi ||| (2 ^ bl * v ||| lo) := by
    rw [← Nat.two_pow_add_eq_or_of_lt hl, Nat.mul_comm (2 ^ bl) v, ← Nat.two_pow_add_eq_or_of_lt hlt, ← Nat.pow_add, Nat.mul_comm hi]
  have a2 : hi * (2 ^ w * 2 ^ bl) + (0 * 2 ^ bl + lo) = 2 ^ (w + bl) * hi ||| lo := by
    rw [Nat.zero_mul, Nat.zero_add, ← Nat.two_pow_add_eq_or_of_lt hlo, ← Nat.pow_add, Nat.mul_comm hi]
  rw [a1, a2, Nat.or_assoc, Nat.or_comm lo, Nat.mul_comm v]
/-- counted by the rest, or by the least of its assignments: the same -/
theorem without_eq {n : Nat → Nat} {f : Nat → Nat → Nat} {bl w hb : Nat} {any : Bool} (hB : n 4 = hb + (w + bl)) :
    sm (fun r => if (if any = true then 2 ^ w else 1) ≤ sm (fun x => if mB n f x = true ∧ rs bl w x = r then 1 else 0) (2 ^ n 4) then 1 else 0) (2 ^ (hb + bl)) = wN n f bl w any (2 ^ n 4) := by
  have hp := Nat.two_pow_pos bl
  have hp2 := Nat.two_pow_pos w
  have hN : 2 ^ n 4 = 2 ^ hb * (2 ^ w * 2 ^ bl) := by rw [hB, Nat.pow_add, Nat.pow_add]
  -- the marks of a rest
  have marks : ∀ a c, a < 2 ^ hb → c < 2 ^ bl → sm (fun x => if mB n f x = true ∧ rs bl w x = a * 2 ^ bl + c then 1 else 0) (2 ^ n 4) = wM n f (a * (2 ^ w * 2 ^ bl) + (0 * 2 ^ bl + c)) bl (2 ^ w) := by
    intro a c ha hc
    rw [hN, sm_mul, sm_one (k := a) ha ?_]
    · rw [sm_mul, wM_sm]
      refine sm_congr (fun v hv => ?_)
      rw [sm_one (k := c) hc ?_]
      · rw [xn_or3 hv hc, (xn_split hv hc).2]
        cases hm : mB n f (a * (2 ^ w * 2 ^ bl) + (v * 2 ^ bl + c)) <;> simp
      · intro i hi hne
        rw [if_neg]
        rintro ⟨-, q⟩
        rw [(xn_split hv hi).2] at q
        omega
    · intro i hi hne
      rw [sm_mul]
      refine sm_zero (fun v hv => sm_zero (fun l hl => ?_))
      rw [if_neg]
      rintro ⟨-, q⟩
      rw [(xn_split hv hl).2] at q
      have hd := congrArg (· / 2 ^ bl) q
      simp only [Nat.add_comm (_ * 2 ^ bl), Nat.add_mul_div_right _ _ hp, Nat.div_eq_of_lt hl, Nat.div_eq_of_lt hc] at hd
      omega
  rw [Nat.pow_add, sm_mul, wN_sm, hN, sm_mul]
  refine sm_congr (fun a ha => ?_)
  rw [sm_mul, sm_one (k := 0) hp2 ?_]
  · refine sm_congr (fun c hc => ?_)
    rw [← hN, marks a c ha hc, Nat.and_two_pow_sub_one_eq_mod, (xn_split hp2 hc).1, if_pos rfl]
    unfold wO
    have hle := wM_le n f (a * (2 ^ w * 2 ^ bl) + (0 * 2 ^ bl + c)) bl (2 ^ w)
    cases any with
    | true =>
      simp only [if_true]
      by_cases q : wM n f (a * (2 ^ w * 2 ^ bl) + (0 * 2 ^ bl + c)) bl (2 ^ w) = 2 ^ w
      · rw [if_pos q, if_pos (by omega)]
      · rw [if_neg q, if_neg (by omega)]
    | false =>
      simp only [Bool.false_eq_true, if_false]
      by_cases q : 0 < wM n f (a * (2 ^ w * 2 ^ bl) + (0 * 2 ^ bl + c)) bl (2 ^ w)
      · rw [if_pos q, if_pos (by omega)]
      · rw [if_neg q, if_neg (by omega)]
  · intro v hv hne
    refine sm_zero (fun l hl => ?_)
    rw [Nat.and_two_pow_sub_one_eq_mod, (xn_split hv hl).1, if_neg hne]
end
section
/-! ===== the class's cells ===== -/
def rk (k : Nat) : Nat := if k < 6 then 2 + 2 * k else if k < 9 then 3 + 2 * k else 3 * k - 5
def ra (c k : Nat) : Nat := c + rk k
def ta (c t : Nat) : Nat := c + (21 + 3 * t)
def rl (k : Nat) : Nat := if k = 0 then 16 else if k < 3 then 8 else if k = 7 ∨ k = 8 then 2048 else 4096
theorem rl_le (k : Nat) : rl k ≤ 4096 := by unfold rl; split; omega; split; omega; split <;> omega
theorem rl_t (t : Nat) : rl (9 + t) = 4096 := by unfold rl; rw [if_neg (by omega), if_neg (by omega), if_neg (by omega)]
theorem rk_a {k : Nat} (hk : k < 33) : 2 ≤ rk k ∧ rk k + 1 < 93 ∧ rk k ≠ 14 ∧ rk k + 1 ≠ 14 := by unfold rk; split; omega; split <;> omega
theorem rk_t {k t : Nat} (hk : k < 33) : rk k ≠ 21 + 3 * t ∧ rk k + 1 ≠ 21 + 3 * t := by unfold rk; split; omega; split <;> omega
theorem rk_n {k k' : Nat} (hk : k < 33) (hk' : k' < 33) (h : k ≠ k') : rk k ≠ rk k' ∧ rk k ≠ rk k' + 1 ∧ rk k + 1 ≠ rk k' := by
  unfold rk
  split
  · split
    · omega
    · split <;> omega
  · split
    · split
      · omega
      · split <;> omega
    · split
      · omega
      · split <;> omega
theorem rk_9 {c : Nat} (t : Nat) : ra c (9 + t) = c + (22 + 3 * t) := by unfold ra rk; rw [if_neg (by omega), if_neg (by omega)]; omega
def bo_list (c : Nat) (s : Nat → Nat) : List Value := [.ref (c + 1), .int (nI (s 0)), .int (nI (s 1)), .ref (ra c 0), .ref (ra c 1), .ref (ra c 2), .ref (ra c 3), .ref (ra c 4), .int (nI (s 2)), .ref (ra c 5), .ref (c + 14)]
def do_list (c : Nat) (s : Nat → Nat) : List Value := [.ref (ra c 6), .ref (ra c 7), .ref (ra c 8), .int (nI (s 3))]
def to_list (c t : Nat) (T : Nat → Nat) : List Value := [.int (nI (T 0)), .int (nI (T 1)), .int (nI (T 2)), .ref (ra c (9 + t))]
def ro_list (c k u : Nat) : List Value := [.ref (ra c k + 1), .int (nI u)]
def KW (c : Nat) (s : Nat → Nat) (T : Nat → Nat → Nat) (u : Nat → Nat) (g : Nat → Nat → Nat) (h : xm_S) : Prop :=
  h.1 c = some (.inr (1, bo_list c s)) ∧ (∃ F : Nat → Option Nat, h.1 (c + 1) = some (.inl (2, 24, .inr (.inr (.inr (.inr F))))) ∧ ∀ j, j < 24 → F j = some (ta c j)) ∧ h.1 (c + 14) = some (.inr (2, do_list c s)) ∧ (∀ k, k < 33 → h.1 (ra c k) = some (.inr (3, ro_list c k (u k))) ∧ h.1 (ra c k + 1) = some (.inl (0, rl k, .inl (fun j => nI (g k j))))) ∧ (∀ t, t < 24 → h.1 (ta c t) = some (.inr (4, to_list c t (T t)))) ∧ ∀ k, k < 33 → u k ≤ rl k
def KF (c : Nat) (h h' : xm_S) : Prop := h'.2 = h.2 ∧ ∀ q : Nat, q < c ∨ c + 93 ≤ q → h'.1 q = h.1 q
def KX (c : Nat) (s : Nat → Nat) (T : Nat → Nat → Nat) (u : Nat → Nat) (g : Nat → Nat → Nat) (h0 h : xm_S) : Prop := KW c s T u g h ∧ KF c h0 h
theorem pu_same {h : xm_S} {a : Nat} {x : xm_O} : (xm_put h a x).1 a = some x := by simp [xm_put]
theorem pu_ne {h : xm_S} {a b : Nat} {x : xm_O} (hne : b ≠ a) : (xm_put h a x).1 b = h.1 b := by simp [xm_put, hne]
theorem KF.rf {c : Nat} (h : xm_S) : KF c h h := ⟨rfl, fun _ _ => rfl⟩
theorem KF.put {c a : Nat} {h0 h : xm_S} {x : xm_O} (hF : KF c h0 h) (h1 : c ≤ a) (h2 : a < c + 93) : KF c h0 (xm_put h a x) := by
  refine ⟨hF.1, fun q hq => ?_⟩
  rw [pu_ne (by omega)]
  exact hF.2 q hq
section KS
variable {c : Nat} {s : Nat → Nat} {T : Nat → Nat → Nat} {u : Nat → Nat} {g : Nat → Nat → Nat} {h0 h : xm_S}
theorem KX.o (hX : KX c s T u g h0 h) : h.1 c = some (.inr (1, bo_list c s)) := hX.1.1
theorem KX.dg (hX : KX c s T u g h0 h) : h.1 (c + 14) = some (.inr (2, do_list c s)) := hX.1.2.2.1
theorem KX.ro {k : Nat} (hX : KX c s T u g h0 h) (hk : k < 33) : h.1 (ra c k) = some (.inr (3, ro_list c k (u k))) := (hX.1.2.2.2.1 k hk).1
theorem KX.ce {k : Nat} (hX : KX c s T u g h0 h) (hk : k < 33) : h.1 (ra c k + 1) = some (.inl (0, rl k, .inl (fun j => nI (g k j)))) := (hX.1.2.2.2.1 k hk).2
theorem KX.te {t : Nat} (hX : KX c s T u g h0 h) (ht : t < 24) : h.1 (ta c t) = some (.inr (4, to_list c t (T t))) := hX.1.2.2.2.2.1 t ht
theorem KX.ul {k : Nat} (hX : KX c s T u g h0 h) (hk : k < 33) : u k ≤ rl k := hX.1.2.2.2.2.2 k hk
theorem KX.u4 {k : Nat} (hX : KX c s T u g h0 h) (hk : k < 33) : u k ≤ 4096 := Nat.le_trans (hX.ul hk) (rl_le k)
theorem KX.putB (hX : KX c s T u g h0 h) {s' : Nat → Nat} (h3 : s' 3 = s 3) : KX c s' T u g h0 (xm_put h c (.inr (1, bo_list c s'))) := by
  obtain ⟨⟨x1, ⟨F, x2, x2'⟩, x3, x4, x5, x6⟩, hF⟩ := hX
  refine ⟨⟨pu_same, ⟨F, by rw [pu_ne (by omega)]; exact x2, x2'⟩, ?_, fun k hk => ?_, fun t ht => ?_, x6⟩, hF.put (Nat.le_refl _) (by omega)⟩
  · rw [pu_ne (by omega), x3]; unfold do_list; rw [h3]
  · have a := rk_a hk
    rw [pu_ne (by unfold ra; omega), pu_ne (by unfold ra; omega)]
    exact x4 k hk
  · rw [pu_ne (by unfold ta; omega)]
    exact x5 t ht
theorem KX.putD (hX : KX c s T u g h0 h) {x : Nat} : KX c (nU s 3 x) T u g h0 (xm_put h (c + 14) (.inr (2, do_list c (nU s 3 x)))) := by
  obtain ⟨⟨x1, ⟨F, x2, x2'⟩, x3, x4, x5, x6⟩, hF⟩ := hX
  refine ⟨⟨?_, ⟨F, by rw [pu_ne (by omega)]; exact x2, x2'⟩, pu_same, fun k hk => ?_, fun t ht => ?_, x6⟩, hF.put (by omega) (by omega)⟩
  · rw [pu_ne (by omega), x1]; rfl
  · have a := rk_a hk
    rw [pu_ne (by unfold ra; omega), pu_ne (by unfold ra; omega)]
    exact x4 k hk
  · rw [pu_ne (by unfold ta; omega)]
    exact x5 t ht
theorem KX.putU (hX : KX c s T u g h0 h) {k x : Nat} (hk : k < 33) (hx : x ≤ rl k) : KX c s T (nU u k x) g h0 (xm_put h (ra c k) (.inr (3, ro_list c k x))) := by
  obtain ⟨⟨x1, ⟨F, x2, x2'⟩, x3, x4, x5, x6⟩, hF⟩ := hX
  have a := rk_a hk
  refine ⟨⟨?_, ⟨F, by rw [pu_ne (by unfold ra; omega)]; exact x2, x2'⟩, ?_, fun k' hk' => ?_, fun t ht => ?_, fun k' hk' => ?_⟩, hF.put (by unfold ra; omega) (by unfold ra; omega)⟩
  · rw [pu_ne (by unfold ra; omega), x1]
  · rw [pu_ne (by unfold ra; omega), x3]
  · by_cases e : k' = k
    · subst e
      refine ⟨by rw [nU_same]; exact pu_same, ?_⟩
      rw [pu_ne (by unfold ra; omega)]
      exact (x4 _ hk).2
    · have b := rk_n hk' hk e
      rw [nU_ne e, pu_ne (by unfold ra; omega), pu_ne (by unfold ra; omega)]
      exact x4 k' hk'
  · have b := rk_t (t := t) hk
    rw [pu_ne (by unfold ta ra; omega)]
    exact x5 t ht
  · by_cases e : k' = k
    · subst e; rw [nU_same]; exact hx
    · rw [nU_ne e]; exact x6 k' hk'
theorem KX.putC (hX : KX c s T u g h0 h) {k : Nat} {F' : Nat → Int32} {G : Nat → Nat} (hk : k < 33) (hg : ∀ j, F' j = nI (G j)) : KX c s T u (fR g k G) h0 (xm_put h (ra c k + 1) (.inl (0, rl k, .inl F'))) := by
  obtain ⟨⟨x1, ⟨F, x2, x2'⟩, x3, x4, x5, x6⟩, hF⟩ := hX
  have a := rk_a hk
  refine ⟨⟨?_, ⟨F, by rw [pu_ne (by unfold ra; omega)]; exact x2, x2'⟩, ?_, fun k' hk' => ?_, fun t ht => ?_, x6⟩, hF.put (by unfold ra; omega) (by unfold ra; omega)⟩
  · rw [pu_ne (by unfold ra; omega), x1]
  · rw [pu_ne (by unfold ra; omega), x3]
  · by_cases e : k' = k
    · subst e
      refine ⟨?_, ?_⟩
      · rw [pu_ne (by unfold ra; omega)]
        exact (x4 _ hk).1
      · rw [pu_same, fR_same, show F' = (fun j => nI (G j)) from funext hg]
    · have b := rk_n hk' hk e
      rw [fR_ne e, pu_ne (by unfold ra; omega), pu_ne (by unfold ra; omega)]
      exact x4 k' hk'
  · have b := rk_t (t := t) hk
    rw [pu_ne (by unfold ta ra; omega)]
    exact x5 t ht
theorem fU_R (g : Nat → Nat → Nat) (k e x : Nat) : fU g k e x = fR g k (nU (g k) e x) := by
  funext k' j
  simp only [fU, fR, nU]
  by_cases h1 : k' = k
  · by_cases h2 : j = e <;> simp [h1, h2]
  · simp [h1]
theorem KX.putG (hX : KX c s T u g h0 h) {k e x : Nat} (hk : k < 33) : KX c s T u (fU g k e x) h0 (xm_put h (ra c k + 1) (.inl (0, rl k, .inl (upd (fun j => nI (g k j)) e (nI x))))) := by
  rw [fU_R]
  refine hX.putC hk (fun j => ?_)
  by_cases hj : j = e
  · subst hj
    simp [upd, nU]
  · simp [upd, nU, hj]
theorem KX.putT (hX : KX c s T u g h0 h) {t j x : Nat} (ht : t < 24) : KX c s (fU T t j x) u g h0 (xm_put h (ta c t) (.inr (4, to_list c t (nU (T t) j x)))) := by
  obtain ⟨⟨x1, ⟨F, x2, x2'⟩, x3, x4, x5, x6⟩, hF⟩ := hX
  refine ⟨⟨?_, ⟨F, by rw [pu_ne (by unfold ta; omega)]; exact x2, x2'⟩, ?_, fun k' hk' => ?_, fun t' ht' => ?_, x6⟩, hF.put (by unfold ta; omega) (by unfold ta; omega)⟩
  · rw [pu_ne (by unfold ta; omega), x1]
  · rw [pu_ne (by unfold ta; omega), x3]
  · have b := rk_t (t := t) hk'
    rw [pu_ne (by unfold ta ra; omega), pu_ne (by unfold ta ra; omega)]
    exact x4 k' hk'
  · rw [fU_R]
    by_cases e : t' = t
    · subst e
      rw [fR_same]
      exact pu_same
    · rw [fR_ne e, pu_ne (by unfold ta; omega)]
      exact x5 t' ht'
end KS
section KR
variable {sc : Nat × Nat × (Nat → Int32)} {d y i c : Nat} {ls : xm_L} {r : List Value} {h h0 : xm_S} {Q : Option Value → xm_S → Prop} {s : Nat → Nat} {T : Nat → Nat → Nat} {u : Nat → Nat} {g : Nat → Nat → Nat}
theorem kw_iald {k e : Nat} (hc : (xm_code y)[i]? = some .iaload) (hX : KX c s T u g h0 h) (hk : k < 33) (he : e < rl k) (w : xm_wp sc d y (i + 1) ls (.int (nI (g k e)) :: r) h Q) : xm_wp sc d y i ls (.int (nI e) :: .ref (ra c k + 1) :: r) h Q := by
  have := rl_le k
  refine wp_iald hc (hX.ce hk) (vp_in_nI he (by omega)) ?_
  rw [nI_clamp (by omega)]
  exact w
theorem kw_iast {k e x : Nat} (hc : (xm_code y)[i]? = some .iastore) (hX : KX c s T u g h0 h) (hk : k < 33) (he : e < rl k) (w : ∀ h' : xm_S, KX c s T u (fU g k e x) h0 h' → xm_wp sc d y (i + 1) ls r h' Q) : xm_wp sc d y i ls (.int (nI x) :: .int (nI e) :: .ref (ra c k + 1) :: r) h Q := by
  have := rl_le k
  refine wp_iast hc (hX.ce hk) (vp_in_nI he (by omega)) ?_
  rw [nI_clamp (by omega)]
  exact w _ (hX.putG hk)
theorem kw_aald {j : Nat} (hc : (xm_code y)[i]? = some .aaload) (hX : KX c s T u g h0 h) (hj : j < 24) (w : xm_wp sc d y (i + 1) ls (.ref (ta c j) :: r) h Q) : xm_wp sc d y i ls (.int (nI j) :: .ref (c + 1) :: r) h Q := by
  obtain ⟨F, hF, hF2⟩ := hX.1.2.1
  refine wp_step ?_ w
  unfold xm_act
  rw [hc]
  simp only [xm_do, hF]
  have hin : vp_in (nI j) 24 := vp_in_nI hj (by decide)
  unfold vp_in at hin
  have hlen : xc_arr.length = 3 := rfl
  rw [if_neg (by rw [hlen, ← or_assoc]; rintro (q | q); exact hin q; omega), nI_clamp (by omega), hF2 j hj]
  rfl
theorem kw_alenT (hc : (xm_code y)[i]? = some .arraylength) (hX : KX c s T u g h0 h) (w : xm_wp sc d y (i + 1) ls (.int (nI 24) :: r) h Q) : xm_wp sc d y i ls (.ref (c + 1) :: r) h Q := by
  obtain ⟨F, hF, hF2⟩ := hX.1.2.1
  exact wp_alen hc hF (by decide) w
theorem kw_alen {k : Nat} (hc : (xm_code y)[i]? = some .arraylength) (hX : KX c s T u g h0 h) (hk : k < 33) (w : xm_wp sc d y (i + 1) ls (.int (nI (rl k)) :: r) h Q) : xm_wp sc d y i ls (.ref (ra c k + 1) :: r) h Q := wp_alen hc (hX.ce hk) (by decide) w
theorem kw_putB {n k j x : Nat} (hc : (xm_code y)[i]? = some (.putfield n)) (hX : KX c s T u g h0 h) (h1 : n / 32 = 1) (h2 : n % 32 = k) (hk : k < 11) (hn : narrow (xc_ty 1 k) (.int (nI x)) = .int (nI x)) (hf : fits (xc_ty 1 k) (.int (nI x)) = true) (he : (bo_list c s).set k (.int (nI x)) = bo_list c (nU s j x)) (hj : 3 ≠ j) (w : ∀ h' : xm_S, KX c (nU s j x) T u g h0 h' → xm_wp sc d y (i + 1) ls r h' Q) : xm_wp sc d y i ls (.int (nI x) :: .ref c :: r) h Q := by
  refine wp_putf (fs := bo_list c s) hc (by rw [h1]; exact hX.o) (by rw [h2]; exact hk) (by rw [h1, h2]; exact hn) (by rw [h1, h2]; exact hf) ?_
  rw [h1, h2, he]
  exact w _ (hX.putB (nU_ne hj))
theorem kw_putD {n x : Nat} (hc : (xm_code y)[i]? = some (.putfield n)) (hX : KX c s T u g h0 h) (h1 : n / 32 = 2) (h2 : n % 32 = 3) (w : ∀ h' : xm_S, KX c (nU s 3 x) T u g h0 h' → xm_wp sc d y (i + 1) ls r h' Q) : xm_wp sc d y i ls (.int (nI x) :: .ref (c + 14) :: r) h Q := by
  refine wp_putf (fs := do_list c s) hc (by rw [h1]; exact hX.dg) (by rw [h2]; exact (by decide : 3 < 4)) (by rw [h1, h2]; rfl) (by rw [h1, h2]; rfl) ?_
  rw [h1, h2]
  exact w _ hX.putD
theorem kw_putU {n k x : Nat} (hc : (xm_code y)[i]? = some (.putfield n)) (hX : KX c s T u g h0 h) (hk : k < 33) (hx : x ≤ rl k) (h1 : n / 32 = 3) (h2 : n % 32 = 1) (w : ∀ h' : xm_S, KX c s T (nU u k x) g h0 h' → xm_wp sc d y (i + 1) ls r h' Q) : xm_wp sc d y i ls (.int (nI x) :: .ref (ra c k) :: r) h Q := by
  refine wp_putf (fs := ro_list c k (u k)) hc (by rw [h1]; exact hX.ro hk) (by rw [h2]; exact (by decide : 1 < 2)) (by rw [h1, h2]; rfl) (by rw [h1, h2]; rfl) ?_
  rw [h1, h2]
  exact w _ (hX.putU hk hx)
theorem kw_putT {n t j x : Nat} (hc : (xm_code y)[i]? = some (.putfield n)) (hX : KX c s T u g h0 h) (ht : t < 24) (h1 : n / 32 = 4) (h2 : n % 32 = j) (hj : j < 4) (hn : narrow (xc_ty 4 j) (.int (nI x)) = .int (nI x)) (hf : fits (xc_ty 4 j) (.int (nI x)) = true) (he : (to_list c t (T t)).set j (.int (nI x)) = to_list c t (nU (T t) j x)) (w : ∀ h' : xm_S, KX c s (fU T t j x) u g h0 h' → xm_wp sc d y (i + 1) ls r h' Q) : xm_wp sc d y i ls (.int (nI x) :: .ref (ta c t) :: r) h Q := by
  refine wp_putf (fs := to_list c t (T t)) hc (by rw [h1]; exact hX.te ht) (by rw [h2]; exact hj) (by rw [h1, h2]; exact hn) (by rw [h1, h2]; exact hf) ?_
  rw [h1, h2, he]
  exact w _ (hX.putT ht)
theorem kw_copy {k k' m : Nat} (hc : (xm_code y)[i]? = some (.invokestatic 2003)) (hX : KX c s T u g h0 h) (hk : k < 33) (hk' : k' < 33) (hm : m ≤ rl k) (hm' : m ≤ rl k') (h8 : r.length ≤ 8) (hcat : r.all (fun v => v.category == 1) = true) (w : ∀ h' : xm_S, KX c s T u (fR g k' (fun j => if j < m then g k j else g k' j)) h0 h' → xm_wp sc d y (i + 1) ls r h' Q) : xm_wp sc d y i ls (.int (nI m) :: .int (nI 0) :: .ref (ra c k' + 1) :: .int (nI 0) :: .ref (ra c k + 1) :: r) h Q := by
  have a1 := rl_le k
  have a2 := rl_le k'
  refine wp_step ?_ (w (xm_put h (ra c k' + 1) (.inl (0, rl k', .inl (va_cpy (fun j => nI (g k j)) (fun j => nI (g k' j)) 0 0 m)))) (hX.putC hk' (fun j => ?_)))
  · unfold xm_act
    rw [hc]
    dsimp only [xm_do]
    rw [if_neg (by decide), if_neg (by decide), if_pos rfl]
    simp only [hX.ce hk, hX.ce hk']
    have p0 : ¬ nI 0 < 0 := by decide
    have pm : ¬ nI m < 0 := nI_pos (by omega)
    have z0 : (nI 0).toNatClampNeg = 0 := by decide
    have zm : (nI m).toNatClampNeg = m := nI_clamp (by omega)
    rw [z0, zm]
    rw [if_neg]
    rintro (q | q | q | q | q | q | q)
    · exact p0 q
    · exact p0 q
    · exact pm q
    · omega
    · omega
    · omega
    · exact q (fun v hv => by simpa using List.all_eq_true.mp hcat v hv)
  · unfold va_cpy
    by_cases q : j < m
    · rw [if_pos (by omega), if_pos q]; simp
    · rw [if_neg (by omega), if_neg q]
end KR
end
section
/-! ===== the class: rows ===== -/
theorem nU_id {u : Nat → Nat} {k x : Nat} (h : x = u k) : nU u k x = u := by funext j; unfold nU; split <;> simp_all
theorem fR_fR (g : Nat → Nat → Nat) (k : Nat) (a b : Nat → Nat) : fR (fR g k a) k b = fR g k b := by funext k' j; simp only [fR]; split <;> rfl
section KM
variable {sc : Nat × Nat × (Nat → Int32)} {d c : Nat} {h h0 : xm_S} {Q : Option Value → xm_S → Prop} {s : Nat → Nat} {T : Nat → Nat → Nat} {u : Nat → Nat} {g : Nat → Nat → Nat}
theorem r_at {k e : Nat} (hX : KX c s T u g h0 h) (hk : k < 33) (he : e < u k) (hQ : Q (some (.int (nI (g k e)))) h) : xm_wp sc (d) 56 0 [some (.ref (ra c k)), some (.int (nI e))] [] h Q := by
  have hu := hX.u4 hk
  have hl := hX.ul hk
  have hr := rl_le k
  refine wn_iload (i := 0) rfl rfl ?_
  refine wn_if_lt (i := 1) (a := e) rfl (by omega) ?_
  refine wn_iload (i := 2) rfl rfl ?_
  refine wn_aload (i := 3) rfl rfl ?_
  refine wp_get (i := 4) (n := 97) (a := (ra c k)) (v := .int (nI (u k))) rfl (hX.ro (by omega)) rfl ?_
  refine wn_ic_ge (i := 5) (a := e) (b := (u k)) (t' := 11) rfl rfl (by omega) (by omega) (fun c5 => ?_) (fun c5 => ?_)
  · exact absurd c5 (by omega)
  · skip
    refine wn_aload (i := 6) rfl rfl ?_
    refine wp_get (i := 7) (n := 96) (a := (ra c k)) (v := .ref (ra c k + 1)) rfl (hX.ro (by omega)) rfl ?_
    refine wn_iload (i := 8) rfl rfl ?_
    refine kw_iald (i := 9) (k := k) (e := e) rfl hX (by omega) (by omega) ?_
    refine wn_goto (i := 10) (t' := 12) rfl rfl ?_
    exact wn_ret (i := 12) rfl rfl (hQ)
theorem r_put {k e x : Nat} (hX : KX c s T u g h0 h) (hk : k < 33) (he : e < u k) (hQ : ∀ h' : xm_S, KX c s T u (fU g k e x) h0 h' → Q none h') : xm_wp sc (d) 57 0 [some (.ref (ra c k)), some (.int (nI e)), some (.int (nI x))] [] h Q := by
  have hu := hX.u4 hk
  have hl := hX.ul hk
  have hr := rl_le k
  refine wn_iload (i := 0) rfl rfl ?_
  refine wn_if_lt (i := 1) (a := e) rfl (by omega) ?_
  refine wn_iload (i := 2) rfl rfl ?_
  refine wn_aload (i := 3) rfl rfl ?_
  refine wp_get (i := 4) (n := 97) (a := (ra c k)) (v := .int (nI (u k))) rfl (hX.ro (by omega)) rfl ?_
  refine wn_ic_ge (i := 5) (a := e) (b := (u k)) (t' := 11) rfl rfl (by omega) (by omega) (fun c5 => ?_) (fun c5 => ?_)
  · exact absurd c5 (by omega)
  · skip
    refine wn_aload (i := 6) rfl rfl ?_
    refine wp_get (i := 7) (n := 96) (a := (ra c k)) (v := .ref (ra c k + 1)) rfl (hX.ro (by omega)) rfl ?_
    refine wn_iload (i := 8) rfl rfl ?_
    refine wn_iload (i := 9) rfl rfl ?_
    refine kw_iast (i := 10) (k := k) (e := e) (x := x) rfl hX (by omega) (by omega) (fun h_10 hX_10 => ?_)
    exact wn_retV (i := 11) rfl (hQ _ hX_10)
theorem r_add {k x : Nat} (hX : KX c s T u g h0 h) (hk : k < 33) (he : u k < rl k) (hQ : ∀ h' : xm_S, KX c s T (nU u k (u k + 1)) (fU g k (u k) x) h0 h' → Q none h') : xm_wp sc (d) 55 0 [some (.ref (ra c k)), some (.int (nI x))] [] h Q := by
  have hu := hX.u4 hk
  have hl := hX.ul hk
  have hr := rl_le k
  refine wn_aload (i := 0) rfl rfl ?_
  refine wp_get (i := 1) (n := 97) (a := (ra c k)) (v := .int (nI (u k))) rfl (hX.ro (by omega)) rfl ?_
  refine wn_aload (i := 2) rfl rfl ?_
  refine wp_get (i := 3) (n := 96) (a := (ra c k)) (v := .ref (ra c k + 1)) rfl (hX.ro (by omega)) rfl ?_
  refine kw_alen (i := 4) (k := k) rfl hX (by omega) ?_
  refine wn_ic_ge (i := 5) (a := (u k)) (b := (rl k)) (t' := 18) rfl rfl (by omega) (by omega) (fun c5 => ?_) (fun c5 => ?_)
  · exact absurd c5 (by omega)
  · skip
    refine wn_aload (i := 6) rfl rfl ?_
    refine wp_get (i := 7) (n := 96) (a := (ra c k)) (v := .ref (ra c k + 1)) rfl (hX.ro (by omega)) rfl ?_
    refine wn_aload (i := 8) rfl rfl ?_
    refine wp_get (i := 9) (n := 97) (a := (ra c k)) (v := .int (nI (u k))) rfl (hX.ro (by omega)) rfl ?_
    refine wn_iload (i := 10) rfl rfl ?_
    refine kw_iast (i := 11) (k := k) (e := (u k)) (x := x) rfl hX (by omega) (by omega) (fun h_11 hX_11 => ?_)
    refine wn_aload (i := 12) rfl rfl ?_
    refine wn_dup (i := 13) rfl ?_
    refine wp_get (i := 14) (n := 97) (a := (ra c k)) (v := .int (nI (u k))) rfl (hX_11.ro (by omega)) rfl ?_
    refine wn_const (i := 15) (n := 1) rfl rfl ?_
    refine wn_iadd (i := 16) (a := (u k)) (b := 1) rfl ?_
    refine kw_putU (i := 17) (n := 97) (k := k) (x := ((u k) + 1)) rfl hX_11 (by omega) (by omega) rfl rfl (fun h_17 hX_17 => ?_)
    exact wn_retV (i := 18) rfl (hQ _ hX_17)
theorem r_sh {k m : Nat} (hX : KX c s T u g h0 h) (hk : k < 33) (hm : m ≤ 4096) (hQ : ∀ h' : xm_S, KX c s T (nU u k (min m (u k))) g h0 h' → Q none h') : xm_wp sc (d) 58 0 [some (.ref (ra c k)), some (.int (nI m))] [] h Q := by
  have hu := hX.u4 hk
  have hl := hX.ul hk
  have hr := rl_le k
  refine wn_iload (i := 0) rfl rfl ?_
  refine wn_if_lt (i := 1) (a := m) rfl (by omega) ?_
  refine wn_iload (i := 2) rfl rfl ?_
  refine wn_aload (i := 3) rfl rfl ?_
  refine wp_get (i := 4) (n := 97) (a := (ra c k)) (v := .int (nI (u k))) rfl (hX.ro (by omega)) rfl ?_
  refine wn_ic_ge (i := 5) (a := m) (b := (u k)) (t' := 9) rfl rfl (by omega) (by omega) (fun c5 => ?_) (fun c5 => ?_)
  · skip
    rw [nU_id (by omega)] at hQ
    exact wn_retV (i := 9) rfl (hQ _ hX)
  · skip
    refine wn_aload (i := 6) rfl rfl ?_
    refine wn_iload (i := 7) rfl rfl ?_
    refine kw_putU (i := 8) (n := 97) (k := k) (x := m) rfl hX (by omega) (by omega) rfl rfl (fun h_8 hX_8 => ?_)
    rw [show min m (u k) = m by omega] at hQ
    exact wn_retV (i := 9) rfl (hQ _ hX_8)
theorem r_sh0 {k : Nat} (hX : KX c s T u g h0 h) (hk : k < 33) (hQ : ∀ h' : xm_S, KX c s T (nU u k 0) g h0 h' → Q none h') : xm_wp sc (d) 58 0 [some (.ref (ra c k)), some (.int (nI 0))] [] h Q := r_sh (m := 0) hX hk (by omega) (by rw [Nat.zero_min]; exact hQ)
theorem j_range {a b e : Nat} (h1 : b ≤ e) (h2 : e ≤ a) (h3 : a ≤ 4096) (hQ : Q none h) : xm_wp sc (d) 42 0 [some (.int (nI a)), some (.int (nI b)), some (.int (nI e))] [] h Q := by
  refine wn_iload (i := 0) rfl rfl ?_
  refine wn_iload (i := 1) rfl rfl ?_
  refine wn_ic_le (i := 2) (a := b) (b := e) (t' := 21) rfl rfl (by omega) (by omega) (fun c2 => ?_) (fun c2 => ?_)
  · skip
    refine wn_iload (i := 21) rfl rfl ?_
    refine wn_if_ge (i := 22) (a := b) (t' := 28) rfl rfl (by omega) ?_
    refine wn_iload (i := 28) rfl rfl ?_
    refine wn_iload (i := 29) rfl rfl ?_
    refine wn_ic_le (i := 30) (a := e) (b := a) (t' := 36) rfl rfl (by omega) (by omega) (fun c30 => ?_) (fun c30 => ?_)
    · skip
      exact wn_retV (i := 36) rfl (hQ)
    · exact absurd c30 (by omega)
  · exact absurd c2 (by omega)
theorem j_fillL {k M : Nat} (hk : k < 33) (hM : M ≤ rl k) (hQ : ∀ h' : xm_S, KX c s T u (fR g k (fun j => if j < M then 0 else g k j)) h0 h' → Q none h') : ∀ (m : Nat) (x : Nat) (h : xm_S), x ≤ M → M < x + m → KX c s T u (fR g k (fun j => if j < x then 0 else g k j)) h0 h → xm_wp sc (d) 41 7 [some (.ref (ra c k + 1)), some (.int (nI 0)), some (.int (nI M)), some (.int (nI 0)), some (.int (nI x))] [] h Q := by
  intro m
  induction m with
  | zero => intro x h h1 h2; exact absurd h2 (by omega)
  | succ m ih =>
    intro x h h1 h2 hX
    have hr := rl_le k
    refine wn_iload (i := 7) rfl rfl ?_
    refine wn_iload (i := 8) rfl rfl ?_
    refine wn_ic_ge (i := 9) (a := x) (b := M) (t' := 16) rfl rfl (by omega) (by omega) (fun c9 => ?_) (fun c9 => ?_)
    · skip
      have ex : x = M := by omega
      subst ex
      exact wn_retV (i := 16) rfl (hQ _ hX)
    · skip
      refine wn_aload (i := 10) rfl rfl ?_
      refine wn_iload (i := 11) rfl rfl ?_
      refine wn_iload (i := 12) rfl rfl ?_
      refine kw_iast (i := 13) (k := k) (e := x) (x := 0) rfl hX (by omega) (by omega) (fun h_13 hX_13 => ?_)
      refine wn_iinc (i := 14) (x := x) (n := 1) (ls' := [some (.ref (ra c k + 1)), some (.int (nI 0)), some (.int (nI M)), some (.int (nI 0)), some (.int (nI (x + 1)))]) rfl rfl rfl rfl ?_
      refine wn_goto (i := 15) (t' := 7) rfl rfl ?_
      refine ih (x + 1) _ (by omega) (by omega) ?_
      rw [fR_up] at hX_13
      have ef : nU (fun j => if j < x then 0 else g k j) x 0 = (fun j => if j < x + 1 then 0 else g k j) := by funext j; simp only [nU]; by_cases q1 : j = x; simp [q1]; by_cases q2 : j < x; simp [q1, q2, show j < x + 1 by omega]; simp [q1, q2, show ¬ j < x + 1 by omega]
      rw [ef] at hX_13
      exact hX_13
theorem j_fill {k M : Nat} (hX : KX c s T u g h0 h) (hk : k < 33) (hM : M ≤ rl k) (hQ : ∀ h' : xm_S, KX c s T u (fR g k (fun j => if j < M then 0 else g k j)) h0 h' → Q none h') : xm_wp sc (d + 1) 41 0 [some (.ref (ra c k + 1)), some (.int (nI 0)), some (.int (nI M)), some (.int (nI 0)), none] [] h Q := by
  have hr := rl_le k
  refine wn_aload (i := 0) rfl rfl ?_
  refine kw_alen (i := 1) (k := k) rfl hX (by omega) ?_
  refine wn_iload (i := 2) rfl rfl ?_
  refine wn_iload (i := 3) rfl rfl ?_
  refine wn_calls (i := 4) (as := [.int (nI (rl k)), .int (nI 0), .int (nI M)]) (rest := []) (es := [some (.int (nI (rl k))), some (.int (nI 0)), some (.int (nI M))]) rfl rfl (by decide) rfl rfl rfl (Nat.le_of_ble_eq_true rfl) rfl rfl ?_
  refine j_range (by omega) (by omega) (by omega) ?_
  show xm_wp sc (d + 1) 41 5 [some (.ref (ra c k + 1)), some (.int (nI 0)), some (.int (nI M)), some (.int (nI 0)), none] [] h Q
  refine wn_iload (i := 5) rfl rfl ?_
  refine wn_istore (i := 6) (ls' := [some (.ref (ra c k + 1)), some (.int (nI 0)), some (.int (nI M)), some (.int (nI 0)), some (.int (nI 0))]) rfl (Nat.le_of_ble_eq_true rfl) rfl ?_
  exact j_fillL hk hM hQ (M + 1) 0 _ (Nat.zero_le _) (by omega) (by rw [fR_id (fun j => by simp)]; exact hX)
theorem r_zeros {k m : Nat} (hX : KX c s T u g h0 h) (hk : k < 33) (hm : m ≤ rl k) (hQ : ∀ h' : xm_S, KX c s T (nU u k m) (fR g k (fun j => if j < m then 0 else g k j)) h0 h' → Q none h') : xm_wp sc (d + 2) 60 0 [some (.ref (ra c k)), some (.int (nI m))] [] h Q := by
  have hu := hX.u4 hk
  have hl := hX.ul hk
  have hr := rl_le k
  refine wn_aload (i := 0) rfl rfl ?_
  refine wn_const (i := 1) (n := 0) rfl rfl ?_
  refine wn_iload (i := 2) rfl rfl ?_
  refine wn_aload (i := 3) rfl rfl ?_
  refine wp_get (i := 4) (n := 96) (a := (ra c k)) (v := .ref (ra c k + 1)) rfl (hX.ro (by omega)) rfl ?_
  refine kw_alen (i := 5) (k := k) rfl hX (by omega) ?_
  refine wn_min (i := 6) (a := m) (b := (rl k)) rfl (by omega) (by omega) (Nat.le_of_ble_eq_true rfl) rfl ?_
  refine wn_max (i := 7) (a := 0) (b := (min m (rl k))) rfl (by omega) (by omega) (Nat.le_of_ble_eq_true rfl) rfl ?_
  rw [show max 0 (min m (rl k)) = m by omega]
  refine kw_putU (i := 8) (n := 97) (k := k) (x := m) rfl hX (by omega) (by omega) rfl rfl (fun h_8 hX_8 => ?_)
  refine wn_aload (i := 9) rfl rfl ?_
  refine wp_get (i := 10) (n := 96) (a := (ra c k)) (v := .ref (ra c k + 1)) rfl (hX_8.ro (by omega)) rfl ?_
  refine wn_const (i := 11) (n := 0) rfl rfl ?_
  refine wn_aload (i := 12) rfl rfl ?_
  refine wp_get (i := 13) (n := 97) (a := (ra c k)) (v := .int (nI m)) rfl (hX_8.ro (by omega)) (congrArg (fun z => some (Value.int (nI z))) nU_same) ?_
  refine wn_const (i := 14) (n := 0) rfl rfl ?_
  refine wn_calls (i := 15) (as := [.ref (ra c k + 1), .int (nI 0), .int (nI m), .int (nI 0)]) (rest := []) (es := [some (.ref (ra c k + 1)), some (.int (nI 0)), some (.int (nI m)), some (.int (nI 0)), none]) rfl rfl (by decide) rfl rfl rfl (Nat.le_of_ble_eq_true rfl) rfl rfl ?_
  refine j_fill (k := k) (M := m) hX_8 hk hm (fun h_15 hX_15 => ?_)
  show xm_wp sc (d + 2) 60 16 [some (.ref (ra c k)), some (.int (nI m))] [] h_15 Q
  exact wn_retV (i := 16) rfl (hQ _ hX_15)
theorem r_take {k k' : Nat} (hX : KX c s T u g h0 h) (hk : k < 33) (hk' : k' < 33) (hm : u k' ≤ rl k) (hQ : ∀ h' : xm_S, KX c s T (nU u k (u k')) (fR g k (fun j => if j < u k' then g k' j else g k j)) h0 h' → Q none h') : xm_wp sc (d) 59 0 [some (.ref (ra c k)), some (.ref (ra c k'))] [] h Q := by
  have hu := hX.u4 hk
  have hl := hX.ul hk
  have hr := rl_le k
  have hu2 := hX.u4 hk'
  have hl2 := hX.ul hk'
  refine wn_aload (i := 0) rfl rfl ?_
  refine wn_aload (i := 1) rfl rfl ?_
  refine wp_get (i := 2) (n := 97) (a := (ra c k')) (v := .int (nI (u k'))) rfl (hX.ro (by omega)) rfl ?_
  refine wn_aload (i := 3) rfl rfl ?_
  refine wp_get (i := 4) (n := 96) (a := (ra c k)) (v := .ref (ra c k + 1)) rfl (hX.ro (by omega)) rfl ?_
  refine kw_alen (i := 5) (k := k) rfl hX (by omega) ?_
  refine wn_min (i := 6) (a := (u k')) (b := (rl k)) rfl (by omega) (by omega) (Nat.le_of_ble_eq_true rfl) rfl ?_
  rw [show min (u k') (rl k) = u k' by omega]
  refine kw_putU (i := 7) (n := 97) (k := k) (x := (u k')) rfl hX (by omega) (by omega) rfl rfl (fun h_7 hX_7 => ?_)
  refine wn_aload (i := 8) rfl rfl ?_
  refine wp_get (i := 9) (n := 96) (a := (ra c k')) (v := .ref (ra c k' + 1)) rfl (hX_7.ro (by omega)) rfl ?_
  refine wn_const (i := 10) (n := 0) rfl rfl ?_
  refine wn_aload (i := 11) rfl rfl ?_
  refine wp_get (i := 12) (n := 96) (a := (ra c k)) (v := .ref (ra c k + 1)) rfl (hX_7.ro (by omega)) rfl ?_
  refine wn_const (i := 13) (n := 0) rfl rfl ?_
  refine wn_aload (i := 14) rfl rfl ?_
  refine wp_get (i := 15) (n := 97) (a := (ra c k)) (v := .int (nI (u k'))) rfl (hX_7.ro (by omega)) (congrArg (fun z => some (Value.int (nI z))) nU_same) ?_
  refine kw_copy (i := 16) (k := k') (k' := k) (m := u k') rfl hX_7 hk' hk hl2 hm (Nat.le_of_ble_eq_true rfl) rfl (fun h_16 hX_16 => ?_)
  exact wn_retV (i := 17) rfl (hQ _ hX_16)
theorem t_by {t x m : Nat} (hX : KX c s T u g h0 h) (ht : t < 24) (hr : T t 1 ≤ m) (hm : m ≤ 12) (hx : x < 4096) (hi : x / 2 ^ (m - T t 1) < u (9 + t)) (hQ : Q (some (.int (nI (g (9 + t) (x / 2 ^ (m - T t 1)))))) h) : xm_wp sc (d + 1) 62 0 [some (.ref (ta c t)), some (.int (nI x)), some (.int (nI m))] [] h Q := by
  refine wn_aload (i := 0) rfl rfl ?_
  refine wp_get (i := 1) (n := 131) (a := (ta c t)) (v := .ref (ra c (9 + t))) rfl (hX.te (by omega)) rfl ?_
  refine wn_iload (i := 2) rfl rfl ?_
  refine wn_iload (i := 3) rfl rfl ?_
  refine wn_aload (i := 4) rfl rfl ?_
  refine wp_get (i := 5) (n := 129) (a := (ta c t)) (v := .int (nI (T t 1))) rfl (hX.te (by omega)) rfl ?_
  refine wn_isub (i := 6) (a := m) (b := (T t 1)) rfl (by omega) ?_
  refine wn_ishr (i := 7) (a := x) (b := (m - (T t 1))) rfl (by omega) (by omega) ?_
  refine wn_callv (i := 8) (as := [.int (nI (x / 2 ^ (m - (T t 1))))]) (b := (ra c (9 + t))) (rest := []) (es := [some (.ref (ra c (9 + t))), some (.int (nI (x / 2 ^ (m - (T t 1)))))]) rfl rfl rfl rfl rfl (Nat.le_of_ble_eq_true rfl) rfl (hX.ro (by omega)) rfl ?_
  refine r_at (k := (9 + t)) (e := (x / 2 ^ (m - (T t 1)))) hX (by omega) (by omega) ?_
  show xm_wp sc (d + 1) 62 9 [some (.ref (ta c t)), some (.int (nI x)), some (.int (nI m))] [.int (nI (g (9 + t) (x / 2 ^ (m - (T t 1)))))] h Q
  exact wn_ret (i := 9) rfl rfl (hQ)
theorem b_termOf {a : Int32} (hX : KX c s T u g h0 h) (hT : s 0 ≤ 24) (hQ1 : ∀ j, j < s 0 → a = nI j → Q (some (.ref (ta c j))) h) (hQ0 : (∀ j, j < s 0 → a ≠ nI j) → Q (some .null) h) : xm_wp sc (d) 95 0 [some (.ref c), some (.int a)] [] h Q := by
  refine wn_iload (i := 0) rfl rfl ?_
  refine wi_if_lt (i := 1) (a := a) (t' := 16) rfl rfl (fun c1 => ?_) (fun c1 => ?_)
  · skip
    refine wn_null (i := 16) rfl ?_
    exact wn_retN (i := 17) rfl (hQ0 (fun j hj e => by subst e; exact nI_pos (by omega) c1))
  · skip
    obtain ⟨j, hj, rfl⟩ := nI_of c1
    refine wn_iload (i := 2) rfl rfl ?_
    refine wn_aload (i := 3) rfl rfl ?_
    refine wp_get (i := 4) (n := 33) (a := c) (v := .int (nI (s 0))) rfl hX.o rfl ?_
    refine wn_ic_ge (i := 5) (a := j) (b := (s 0)) (t' := 16) rfl rfl (by omega) (by omega) (fun c5 => ?_) (fun c5 => ?_)
    · skip
      refine wn_null (i := 16) rfl ?_
      exact wn_retN (i := 17) rfl (hQ0 (fun j' hj' e => by have := (nI_eq (by omega) (by omega)).mp e; omega))
    · skip
      refine wn_iload (i := 6) rfl rfl ?_
      refine wn_aload (i := 7) rfl rfl ?_
      refine wp_get (i := 8) (n := 32) (a := c) (v := .ref (c + 1)) rfl hX.o rfl ?_
      refine kw_alenT (i := 9) rfl hX ?_
      refine wn_ic_ge (i := 10) (a := j) (b := 24) (t' := 16) rfl rfl (by omega) (by omega) (fun c10 => ?_) (fun c10 => ?_)
      · exact absurd c10 (by omega)
      · skip
        refine wn_aload (i := 11) rfl rfl ?_
        refine wp_get (i := 12) (n := 32) (a := c) (v := .ref (c + 1)) rfl hX.o rfl ?_
        refine wn_iload (i := 13) rfl rfl ?_
        refine kw_aald (i := 14) (j := j) rfl hX (by omega) ?_
        refine wn_goto (i := 15) (t' := 17) rfl rfl ?_
        exact wn_retA (i := 17) rfl (hQ1 j c5 rfl)
theorem b_one {a : Int32} (hX : KX c s T u g h0 h) (hT : s 0 ≤ 24) (hs : ∀ t, t < s 0 → T t 0 ≤ 12) (hQ1 : ∀ j, j < s 0 → a = nI j → T j 0 = 1 → Q (some (.int (nI true.toNat))) h) (hQ0 : (∀ j, j < s 0 → a = nI j → T j 0 ≠ 1) → Q (some (.int (nI false.toNat))) h) : xm_wp sc (d + 1) 82 0 [some (.ref c), some (.int a), none] [] h Q := by
  refine wn_aload (i := 0) rfl rfl ?_
  refine wn_iload (i := 1) rfl rfl ?_
  refine wn_callv (i := 2) (as := [.int a]) (b := c) (rest := []) (es := [some (.ref c), some (.int a)]) rfl rfl rfl rfl rfl (Nat.le_of_ble_eq_true rfl) rfl hX.o rfl ?_
  refine b_termOf hX hT (fun j hj ej => ?_) (fun hno2 => ?_)
  · skip
    subst ej
    show xm_wp sc (d + 1) 82 3 [some (.ref c), some (.int (nI j)), none] [.ref (ta c j)] h Q
    refine wn_astore (i := 3) (ls' := [some (.ref c), some (.int (nI j)), some (.ref (ta c j))]) rfl (Nat.le_of_ble_eq_true rfl) rfl ?_
    refine wn_aload (i := 4) rfl rfl ?_
    refine wn_ifnull (i := 5) rfl ?_
    have hsj := hs j hj
    refine wn_aload (i := 6) rfl rfl ?_
    refine wp_get (i := 7) (n := 128) (a := (ta c j)) (v := .int (nI (T j 0))) rfl (hX.te (by omega)) rfl ?_
    refine wn_const (i := 8) (n := 1) rfl rfl ?_
    refine wn_ic_ne (i := 9) (a := (T j 0)) (b := 1) (t' := 12) rfl rfl (by omega) (by omega) (fun c9 => ?_) (fun c9 => ?_)
    · skip
      refine wn_const (i := 12) (n := 0) rfl rfl ?_
      exact wn_retZ (n := false.toNat) (i := 13) rfl (by decide) (hQ0 (fun j' hj' e => by first | exact absurd e (hno2 j' hj') | (rw [← (nI_eq (by omega) (by omega)).mp e]; exact c9)))
    · skip
      refine wn_const (i := 10) (n := 1) rfl rfl ?_
      refine wn_goto (i := 11) (t' := 13) rfl rfl ?_
      exact wn_retZ (n := true.toNat) (i := 13) rfl (by decide) (hQ1 j hj rfl c9)
  · skip
    show xm_wp sc (d + 1) 82 3 [some (.ref c), some (.int a), none] [.null] h Q
    refine wn_astoreN (i := 3) (ls' := [some (.ref c), some (.int a), some (.null)]) rfl (Nat.le_of_ble_eq_true rfl) rfl ?_
    refine wn_aloadN (i := 4) rfl rfl ?_
    refine wn_ifnullN (i := 5) (t' := 12) rfl rfl ?_
    refine wn_const (i := 12) (n := 0) rfl rfl ?_
    exact wn_retZ (n := false.toNat) (i := 13) rfl (by decide) (hQ0 (fun j' hj' e => by first | exact absurd e (hno2 j' hj') | (rw [← (nI_eq (by omega) (by omega)).mp e]; exact c9)))
theorem b_next {wd r : Nat} (hX : KX c s T u g h0 h) (hT : s 0 ≤ 24) (hF : s 0 = 24 → Q (some .null) h) (hQ : s 0 < 24 → ∀ h' : xm_S, KX c (nU s 0 (s 0 + 1)) (fU (fU (fU T (s 0) 0 wd) (s 0) 1 r) (s 0) 2 0) (nU u (9 + s 0) 0) g h0 h' → Q (some (.ref (ta c (s 0)))) h') : xm_wp sc (d + 1) 87 0 [some (.ref c), some (.int (nI wd)), some (.int (nI r)), none] [] h Q := by
  refine wn_aload (i := 0) rfl rfl ?_
  refine wp_get (i := 1) (n := 33) (a := c) (v := .int (nI (s 0))) rfl hX.o rfl ?_
  refine wn_aload (i := 2) rfl rfl ?_
  refine wp_get (i := 3) (n := 32) (a := c) (v := .ref (c + 1)) rfl hX.o rfl ?_
  refine kw_alenT (i := 4) rfl hX ?_
  refine wn_ic_lt (i := 5) (a := (s 0)) (b := 24) (t' := 8) rfl rfl (by omega) (by omega) (fun c5 => ?_) (fun c5 => ?_)
  · skip
    refine wn_aload (i := 8) rfl rfl ?_
    refine wp_get (i := 9) (n := 32) (a := c) (v := .ref (c + 1)) rfl hX.o rfl ?_
    refine wn_aload (i := 10) rfl rfl ?_
    refine wp_get (i := 11) (n := 33) (a := c) (v := .int (nI (s 0))) rfl hX.o rfl ?_
    refine kw_aald (i := 12) (j := (s 0)) rfl hX (by omega) ?_
    refine wn_astore (i := 13) (ls' := [some (.ref c), some (.int (nI wd)), some (.int (nI r)), some (.ref (ta c (s 0)))]) rfl (Nat.le_of_ble_eq_true rfl) rfl ?_
    refine wn_aload (i := 14) rfl rfl ?_
    refine wn_ifnonnull (i := 15) (t' := 18) rfl rfl ?_
    refine wn_aload (i := 18) rfl rfl ?_
    refine wn_dup (i := 19) rfl ?_
    refine wp_get (i := 20) (n := 33) (a := c) (v := .int (nI (s 0))) rfl hX.o rfl ?_
    refine wn_const (i := 21) (n := 1) rfl rfl ?_
    refine wn_iadd (i := 22) (a := (s 0)) (b := 1) rfl ?_
    refine kw_putB (i := 23) (n := 33) (k := 1) (j := 0) (x := ((s 0) + 1)) rfl hX rfl rfl (by decide) (by first | rfl | decide) rfl rfl (by decide) (fun h_23 hX_23 => ?_)
    refine wn_aload (i := 24) rfl rfl ?_
    refine wn_iload (i := 25) rfl rfl ?_
    refine kw_putT (i := 26) (n := 128) (t := (s 0)) (j := 0) (x := wd) rfl hX_23 (by omega) rfl rfl (by decide) (by first | rfl | decide) rfl rfl (fun h_26 hX_26 => ?_)
    refine wn_aload (i := 27) rfl rfl ?_
    refine wn_iload (i := 28) rfl rfl ?_
    refine kw_putT (i := 29) (n := 129) (t := (s 0)) (j := 1) (x := r) rfl hX_26 (by omega) rfl rfl (by decide) (by first | rfl | decide) rfl rfl (fun h_29 hX_29 => ?_)
    refine wn_aload (i := 30) rfl rfl ?_
    refine wn_const (i := 31) (n := 0) rfl rfl ?_
    refine kw_putT (i := 32) (n := 130) (t := (s 0)) (j := 2) (x := 0) rfl hX_29 (by omega) rfl rfl (by decide) (by first | rfl | decide) rfl rfl (fun h_32 hX_32 => ?_)
    refine wn_aload (i := 33) rfl rfl ?_
    refine wp_get (i := 34) (n := 131) (a := (ta c (s 0))) (v := .ref (ra c (9 + (s 0)))) rfl (hX_32.te (by omega)) rfl ?_
    refine wn_const (i := 35) (n := 0) rfl rfl ?_
    refine wn_callv (i := 36) (as := [.int (nI 0)]) (b := (ra c (9 + (s 0)))) (rest := []) (es := [some (.ref (ra c (9 + (s 0)))), some (.int (nI 0))]) rfl rfl rfl rfl rfl (Nat.le_of_ble_eq_true rfl) rfl (hX_32.ro (by omega)) rfl ?_
    refine r_sh0 (k := (9 + (s 0))) hX_32 (by omega) (fun h_36 hX_36 => ?_)
    show xm_wp sc (d + 1) 87 37 [some (.ref c), some (.int (nI wd)), some (.int (nI r)), some (.ref (ta c (s 0)))] [] h_36 Q
    refine wn_aload (i := 37) rfl rfl ?_
    exact wn_retA (i := 38) rfl (hQ (by omega) _ hX_36)
  · skip
    refine wn_null (i := 6) rfl ?_
    exact wn_retN (i := 7) rfl (hF (by omega))
end KM
end
section
/-! ===== the class beside the reference: what they have in common ===== -/
def cp (p : Nat → Bool) : Nat → Nat
  | 0 => 0
  | x + 1 => cp p x + (p x).toNat
theorem cp_le (p : Nat → Bool) : ∀ x, cp p x ≤ x
  | 0 => Nat.le_refl _
  | x + 1 => by
    have := cp_le p x
    have h2 := xn_tn (p x)
    show cp p x + _ ≤ x + 1
    omega
theorem cp_mono {p : Nat → Bool} {a : Nat} : ∀ {b : Nat}, a ≤ b → cp p a ≤ cp p b
  | 0, h => by have : a = 0 := by omega
               subst this; exact Nat.le_refl _
  | b + 1, h => by
    by_cases e : a = b + 1
    · rw [e]; exact Nat.le_refl _
    · have := cp_mono (p := p) (show a ≤ b by omega)
      show _ ≤ cp p b + _
      omega
theorem cp_lt {p : Nat → Bool} {x N : Nat} (hp : p x = true) (hx : x < N) : cp p x < cp p N := by
  have h1 := cp_mono (p := p) (show x + 1 ≤ N by omega)
  have h2 : cp p (x + 1) = cp p x + 1 := by show cp p x + (p x).toNat = _; rw [hp]; rfl
  omega
theorem cp_s1 {p : Nat → Bool} {x : Nat} (hp : p x = true) : cp p (x + 1) = cp p x + 1 := by show cp p x + (p x).toNat = _; rw [hp]; rfl
theorem cp_s0 {p : Nat → Bool} {x : Nat} (hp : p x = false) : cp p (x + 1) = cp p x := by show cp p x + (p x).toNat = _; rw [hp]; rfl
theorem cp_inv {p : Nat → Bool} : ∀ (N i : Nat), i < cp p N → ∃ x, x < N ∧ p x = true ∧ cp p x = i
  | 0, i, h => absurd h (Nat.not_lt_zero _)
  | N + 1, i, h => by
    by_cases hi : i < cp p N
    · obtain ⟨x, h1, h2⟩ := cp_inv N i hi
      exact ⟨x, by omega, h2⟩
    · cases hp : p N with
      | false => rw [cp_s0 hp] at h; exact absurd h hi
      | true => rw [cp_s1 hp] at h; exact ⟨N, by omega, hp, by omega⟩
theorem cp_fold1 {α : Type} {F : Nat → α} {p : Nat → Bool} {a : Nat} : ∀ {b : Nat}, (∀ x, a ≤ x → x < b → p x = false → F (x + 1) = F x) → a ≤ b → cp p a = cp p b → F a = F b
  | 0, _, h, _ => by have : a = 0 := by omega
                     subst this; rfl
  | b + 1, hF, h, e => by
    by_cases ea : a = b + 1
    · rw [ea]
    · have h1 := cp_mono (p := p) (show a ≤ b by omega)
      cases hp : p b with
      | true => rw [cp_s1 hp] at e; omega
      | false =>
        rw [cp_s0 hp] at e
        rw [cp_fold1 (b := b) (fun x h1 h2 => hF x h1 (by omega)) (by omega) e, hF b (by omega) (by omega) hp]
theorem cp_fold {α : Type} {F : Nat → α} {p : Nat → Bool} (hF : ∀ x, p x = false → F (x + 1) = F x) {a b : Nat} (e : cp p a = cp p b) : F a = F b := by
  by_cases h : a ≤ b
  · exact cp_fold1 (fun x _ _ => hF x) h e
  · exact (cp_fold1 (fun x _ _ => hF x) (show b ≤ a by omega) e.symm).symm
theorem cp_congr {p q : Nat → Bool} : ∀ {N : Nat}, (∀ x, x < N → p x = q x) → cp p N = cp q N
  | 0, _ => rfl
  | N + 1, h => by
    show cp p N + _ = cp q N + _
    rw [cp_congr (fun x hx => h x (by omega)), h N (by omega)]
theorem cM_cp (n : Nat → Nat) (f : Nat → Nat → Nat) : ∀ x, cM n f x = cp (mB n f) x
  | 0 => rfl
  | x + 1 => by
    show cM n f x + _ = cp (mB n f) x + _
    rw [cM_cp n f x]
theorem cp_all : ∀ N, cp (fun _ => true) N = N
  | 0 => rfl
  | N + 1 => by
    show cp (fun _ => true) N + 1 = N + 1
    rw [cp_all N]
/-- a row's numbers are those, in order, that p holds of -/
def SL (u : Nat → Nat) (g : Nat → Nat → Nat) (k : Nat) (p : Nat → Bool) (N : Nat) : Prop := u k = cp p N ∧ ∀ x, x < N → p x = true → g k (cp p x) = x
theorem SL.nth {u : Nat → Nat} {g : Nat → Nat → Nat} {k N i : Nat} {p : Nat → Bool} (h : SL u g k p N) (hi : i < u k) : ∃ x, x < N ∧ p x = true ∧ cp p x = i ∧ g k i = x := by
  obtain ⟨x, h1, h2, h3⟩ := cp_inv N i (by rw [← h.1]; exact hi)
  exact ⟨x, h1, h2, h3, by rw [← h3]; exact h.2 x h1 h2⟩
theorem SL.cg {u u' : Nat → Nat} {g g' : Nat → Nat → Nat} {k N : Nat} {p q : Nat → Bool} (h : SL u g k p N) (hu : u' k = u k) (hg : ∀ j, j < u k → g' k j = g k j) (hp : ∀ x, x < N → p x = q x) : SL u' g' k q N := by
  refine ⟨by rw [hu, h.1]; exact cp_congr hp, fun x hx hq => ?_⟩
  have e := hp x hx
  have e2 : cp q x = cp p x := (cp_congr (fun z hz => hp z (by omega))).symm
  rw [e2, hg _ (by rw [h.1]; exact cp_lt (by rw [e]; exact hq) hx)]
  exact h.2 x hx (by rw [e]; exact hq)
/-- a term's row -/
def TR (n : Nat → Nat) (f : Nat → Nat → Nat) (T : Nat → Nat → Nat) (u : Nat → Nat) (g : Nat → Nat → Nat) (t : Nat) : Prop := T t 0 = f 1 t ∧ T t 2 = f 2 t ∧ T t 1 ≤ n 4 ∧ u (9 + t) = 2 ^ T t 1 ∧ ∀ x, x < 2 ^ n 4 → g (9 + t) (x / 2 ^ (n 4 - T t 1)) = f 3 (4096 * t + x)
/-- the class's state says what the reference's says -/
def KQ (n : Nat → Nat) (f : Nat → Nat → Nat) (s : Nat → Nat) (T : Nat → Nat → Nat) (u : Nat → Nat) (g : Nat → Nat → Nat) : Prop :=
  s 0 = n 0 ∧ s 1 = n 4 ∧ s 2 ≤ 1 ∧ (∀ t, t < n 0 → TR n f T u g t) ∧ (∀ t, t < n 0 → f 2 t ≠ 0 → n 4 - T t 1 = bS f (t + 1) (n 0 - (t + 1))) ∧ (u 0 = n 5 ∧ ∀ k, k < n 5 → g 0 k = f 4 k) ∧ (u 1 = n 7 ∧ ∀ k, k < n 7 → g 1 k = f 5 k) ∧ (u 2 = n 9 ∧ ∀ k, k < n 9 → g 2 k = f 6 k) ∧ (s 2 = 0 → SL u g 3 (fun x => kC f x (n 5)) (2 ^ n 4) ∧ SL u g 4 (mB n f) (2 ^ n 4))
section KQ
variable {n : Nat → Nat} {f : Nat → Nat → Nat} {s : Nat → Nat} {T : Nat → Nat → Nat} {u : Nat → Nat} {g : Nat → Nat → Nat}
theorem KQ.s0 (q : KQ n f s T u g) : s 0 = n 0 := q.1
theorem KQ.s1 (q : KQ n f s T u g) : s 1 = n 4 := q.2.1
theorem KQ.s2 (q : KQ n f s T u g) : s 2 ≤ 1 := q.2.2.1
theorem KQ.tr (q : KQ n f s T u g) {t : Nat} (ht : t < n 0) : TR n f T u g t := q.2.2.2.1 t ht
theorem KQ.wd (q : KQ n f s T u g) {t : Nat} (ht : t < n 0) : T t 0 = f 1 t := (q.tr ht).1
theorem KQ.vr (q : KQ n f s T u g) {t : Nat} (ht : t < n 0) : T t 2 = f 2 t := (q.tr ht).2.1
theorem KQ.rc (q : KQ n f s T u g) {t : Nat} (ht : t < n 0) : T t 1 ≤ n 4 := (q.tr ht).2.2.1
theorem KQ.ru (q : KQ n f s T u g) {t : Nat} (ht : t < n 0) : u (9 + t) = 2 ^ T t 1 := (q.tr ht).2.2.2.1
theorem KQ.bl (q : KQ n f s T u g) {t : Nat} (ht : t < n 0) (hv : f 2 t ≠ 0) : n 4 - T t 1 = bS f (t + 1) (n 0 - (t + 1)) := q.2.2.2.2.1 t ht hv
theorem KQ.c0 (q : KQ n f s T u g) : u 0 = n 5 := q.2.2.2.2.2.1.1
theorem KQ.c1 (q : KQ n f s T u g) {k : Nat} (hk : k < n 5) : g 0 k = f 4 k := q.2.2.2.2.2.1.2 k hk
theorem KQ.a0 (q : KQ n f s T u g) : u 1 = n 7 := q.2.2.2.2.2.2.1.1
theorem KQ.a1 (q : KQ n f s T u g) {k : Nat} (hk : k < n 7) : g 1 k = f 5 k := q.2.2.2.2.2.2.1.2 k hk
theorem KQ.l0 (q : KQ n f s T u g) : u 2 = n 9 := q.2.2.2.2.2.2.2.1.1
theorem KQ.l1 (q : KQ n f s T u g) {k : Nat} (hk : k < n 9) : g 2 k = f 6 k := q.2.2.2.2.2.2.2.1.2 k hk
theorem KQ.fr (q : KQ n f s T u g) (h : s 2 = 0) : SL u g 3 (fun x => kC f x (n 5)) (2 ^ n 4) ∧ SL u g 4 (mB n f) (2 ^ n 4) := q.2.2.2.2.2.2.2.2 h
/-- rows behind the first five and the terms' don't matter; nor does named -/
theorem KQ.mv {s' : Nat → Nat} {u' : Nat → Nat} {g' : Nat → Nat → Nat} (q : KQ n f s T u g) (hs : ∀ k, k < 3 → s' k = s k) (hu : ∀ k, k < 5 ∨ 9 ≤ k → u' k = u k) (hg : ∀ k, k < 5 ∨ 9 ≤ k → g' k = g k) : KQ n f s' T u' g' := by
  obtain ⟨q0, q1, q2, q3, q4, q5, q6, q7, q8⟩ := q
  refine ⟨by rw [hs 0 (by decide)]; exact q0, by rw [hs 1 (by decide)]; exact q1, by rw [hs 2 (by decide)]; exact q2, fun t ht => ?_, q4, ?_, ?_, ?_, fun h0 => ?_⟩
  · obtain ⟨a1, a2, a3, a4, a5⟩ := q3 t ht
    exact ⟨a1, a2, a3, by rw [hu _ (by omega)]; exact a4, by rw [hg _ (by omega)]; exact a5⟩
  · rw [hu 0 (by decide), hg 0 (by decide)]; exact q5
  · rw [hu 1 (by decide), hg 1 (by decide)]; exact q6
  · rw [hu 2 (by decide), hg 2 (by decide)]; exact q7
  · rw [hs 2 (by decide)] at h0
    obtain ⟨a, b⟩ := q8 h0
    exact ⟨a.cg (hu 3 (by decide)) (fun j _ => by rw [hg 3 (by decide)]) (fun _ _ => rfl), b.cg (hu 4 (by decide)) (fun j _ => by rw [hg 4 (by decide)]) (fun _ _ => rfl)⟩
end KQ
def KR (c : Nat) (n : Nat → Nat) (f : Nat → Nat → Nat) (h0 h : xm_S) : Prop := ∃ (s : Nat → Nat) (T : Nat → Nat → Nat) (u : Nat → Nat) (g : Nat → Nat → Nat), KX c s T u g h0 h ∧ KQ n f s T u g
/-- what the reference's state keeps to -/
def MI (n : Nat → Nat) (f : Nat → Nat → Nat) : Prop := MB n f ∧ n 9 ≤ 8 ∧ (∀ t, t < n 0 → 1 ≤ f 1 t ∧ f 1 t ≤ 12 ∧ f 2 t ≤ 1) ∧ (∀ t x, t < n 0 → x < 2 ^ n 4 → f 3 (4096 * t + x) < 2 ^ f 1 t) ∧ (∀ k, k < n 5 → f 4 k < n 0 ∧ f 1 (f 4 k) = 1) ∧ (∀ k, k < n 7 → f 5 k < n 0 ∧ f 1 (f 5 k) = 1) ∧ ((∀ k, k < n 9 → f 6 k ≤ n 5) ∧ ∀ k k', k ≤ k' → k' < n 9 → f 6 k ≤ f 6 k') ∧ (∀ k, k < 8 → f 7 k = 0) ∧ ∀ j, j < n 0 → f 2 j ≠ 0 → bS f (j + 1) (n 0 - (j + 1)) + f 1 j ≤ n 4
section MI
variable {n : Nat → Nat} {f : Nat → Nat → Nat}
theorem MI.mb (i : MI n f) : MB n f := i.1
theorem MI.t24 (i : MI n f) : n 0 ≤ 24 := i.1.1
theorem MI.b12 (i : MI n f) : n 4 ≤ 12 := i.1.2.1
theorem MI.c16 (i : MI n f) : n 5 ≤ 16 := i.1.2.2.1
theorem MI.a8 (i : MI n f) : n 7 ≤ 8 := i.1.2.2.2.1
theorem MI.l8 (i : MI n f) : n 9 ≤ 8 := i.2.1
theorem MI.wd (i : MI n f) {t : Nat} (ht : t < n 0) : 1 ≤ f 1 t ∧ f 1 t ≤ 12 ∧ f 2 t ≤ 1 := i.2.2.1 t ht
theorem MI.va (i : MI n f) {t x : Nat} (ht : t < n 0) (hx : x < 2 ^ n 4) : f 3 (4096 * t + x) < 2 ^ f 1 t := i.2.2.2.1 t x ht hx
theorem MI.cl (i : MI n f) {k : Nat} (hk : k < n 5) : f 4 k < n 0 ∧ f 1 (f 4 k) = 1 := i.2.2.2.2.1 k hk
theorem MI.as (i : MI n f) {k : Nat} (hk : k < n 7) : f 5 k < n 0 ∧ f 1 (f 5 k) = 1 := i.2.2.2.2.2.1 k hk
theorem MI.lv (i : MI n f) {k : Nat} (hk : k < n 9) : f 6 k ≤ n 5 := i.2.2.2.2.2.2.1.1 k hk
theorem MI.lg (i : MI n f) {k k' : Nat} (h : k ≤ k') (hk : k' < n 9) : f 6 k ≤ f 6 k' := i.2.2.2.2.2.2.1.2 k k' h hk
theorem MI.lf (i : MI n f) {k : Nat} (hk : k < 8) : f 7 k = 0 := i.2.2.2.2.2.2.2.1 k hk
theorem MI.bs (i : MI n f) {j : Nat} (hj : j < n 0) (hv : f 2 j ≠ 0) : bS f (j + 1) (n 0 - (j + 1)) + f 1 j ≤ n 4 := i.2.2.2.2.2.2.2.2 j hj hv
theorem MI.v4 (i : MI n f) {t x : Nat} (ht : t < n 0) (hx : x < 2 ^ n 4) : f 3 (4096 * t + x) < 4096 := by
  have h1 := i.va ht hx
  have h2 := xn_p12 (i.wd ht).2.1
  omega
theorem MI.p4 (i : MI n f) : 2 ^ n 4 ≤ 4096 := xn_p12 i.b12
end MI
theorem dv_dv {x a b cc : Nat} (h1 : a ≤ b) (h2 : b ≤ cc) : x / 2 ^ (cc - b) / 2 ^ (b - a) = x / 2 ^ (cc - a) := by
  rw [Nat.div_div_eq_div_mul, ← Nat.pow_add, show cc - b + (b - a) = cc - a by omega]
theorem dv_lt {x a b : Nat} (h1 : a ≤ b) (hx : x < 2 ^ b) : x / 2 ^ (b - a) < 2 ^ a := by
  apply Nat.div_lt_of_lt_mul
  rw [← Nat.pow_add, show b - a + a = b by omega]
  exact hx
section KN
variable {sc : Nat × Nat × (Nat → Int32)} {d c : Nat} {h h0 : xm_S} {Q : Option Value → xm_S → Prop} {s : Nat → Nat} {T : Nat → Nat → Nat} {u : Nat → Nat} {g : Nat → Nat → Nat} {n : Nat → Nat} {f : Nat → Nat → Nat}
theorem q_by {j x m : Nat} (hX : KX c s T u g h0 h) (ht : TR n f T u g j) (hB : n 4 ≤ 12) (hj : j < 24) (hx : x < 2 ^ n 4) (hm : m = n 4) (hQ : Q (some (.int (nI (f 3 (4096 * j + x))))) h) : xm_wp sc (d + 1) 62 0 [some (.ref (ta c j)), some (.int (nI x)), some (.int (nI m))] [] h Q := by
  subst hm
  have hp := xn_p12 hB
  refine t_by hX hj ht.2.2.1 hB (by omega) (by rw [ht.2.2.2.1]; exact dv_lt ht.2.2.1 hx) ?_
  rw [ht.2.2.2.2 x hx]
  exact hQ
end KN
end
section
/-! ===== the class: what is met ===== -/
theorem xn_of {a b : Nat} (h : ¬ (a : Nat) ≤ b) : b < a := Nat.lt_of_not_le h
theorem KQ.of {n : Nat → Nat} {f : Nat → Nat → Nat} {s : Nat → Nat} {T : Nat → Nat → Nat} {u u' : Nat → Nat} {g g' : Nat → Nat → Nat} (q : KQ n f s T u g) (hs : s 2 ≠ 0) (ho : ∀ k, k ≠ 3 → k ≠ 4 → u' k = u k ∧ g' k = g k) : KQ n f s T u' g' := by
  obtain ⟨q0, q1, q2, q3, q4, q5, q6, q7, q8⟩ := q
  refine ⟨q0, q1, q2, fun t ht => ?_, q4, ?_, ?_, ?_, fun h0 => absurd h0 hs⟩
  · obtain ⟨a1, a2, a3, a4, a5⟩ := q3 t ht
    have o := ho (9 + t) (by omega) (by omega)
    exact ⟨a1, a2, a3, by rw [o.1]; exact a4, by rw [o.2]; exact a5⟩
  · rw [(ho 0 (by decide) (by decide)).1, (ho 0 (by decide) (by decide)).2]; exact q5
  · rw [(ho 1 (by decide) (by decide)).1, (ho 1 (by decide) (by decide)).2]; exact q6
  · rw [(ho 2 (by decide) (by decide)).1, (ho 2 (by decide) (by decide)).2]; exact q7
theorem KQ.fresh {n : Nat → Nat} {f : Nat → Nat → Nat} {s : Nat → Nat} {T : Nat → Nat → Nat} {u : Nat → Nat} {g : Nat → Nat → Nat} (q : KQ n f s T u g) (h3 : SL u g 3 (fun x => kC f x (n 5)) (2 ^ n 4)) (h4 : SL u g 4 (mB n f) (2 ^ n 4)) : KQ n f (nU s 2 0) T u g := by
  obtain ⟨q0, q1, q2, q3, q4, q5, q6, q7, q8⟩ := q
  exact ⟨q0, q1, by rw [nU_same]; omega, q3, q4, q5, q6, q7, fun _ => ⟨h3, h4⟩⟩
theorem TR.mv {n : Nat → Nat} {f : Nat → Nat → Nat} {T : Nat → Nat → Nat} {u u' : Nat → Nat} {g g' : Nat → Nat → Nat} {t : Nat} (q : TR n f T u g t) (hu : u' (9 + t) = u (9 + t)) (hg : g' (9 + t) = g (9 + t)) : TR n f T u' g' t := by
  obtain ⟨a1, a2, a3, a4, a5⟩ := q
  exact ⟨a1, a2, a3, by rw [hu]; exact a4, by rw [hg]; exact a5⟩
section KN
variable {sc : Nat × Nat × (Nat → Int32)} {d c : Nat} {h h0 : xm_S} {Q : Option Value → xm_S → Prop} {s : Nat → Nat} {T : Nat → Nat → Nat} {u : Nat → Nat} {g : Nat → Nat → Nat} {n : Nat → Nat} {f : Nat → Nat → Nat}
theorem l_sift {j k : Nat} {p P : Nat → Bool} (hT : s 0 ≤ 24) (hj : j < s 0) (htr : TR n f T u g j) (hs1 : s 1 = n 4) (hB : n 4 ≤ 12) (hk : k = 3 ∨ k = 4) (hS : SL u g k p (2 ^ n 4)) (hP : ∀ x, P x = (p x && decide (f 3 (4096 * j + x) = 1))) (hv : ∀ x, x < 2 ^ n 4 → f 3 (4096 * j + x) < 4096) (hQ : ∀ (h' : xm_S) (u' : Nat → Nat) (g' : Nat → Nat → Nat), KX c s T u' g' h0 h' → (∀ k', k' ≠ k → u' k' = u k' ∧ g' k' = g k') → SL u' g' k P (2 ^ n 4) → Q none h') : ∀ (m : Nat) (X kp i : Nat) (gl : Nat → Nat → Nat) (z : Option Value) (h : xm_S), X ≤ 2 ^ n 4 → cp p (2 ^ n 4) < i + m → kp = cp P X → i = cp p X → KX c s T u gl h0 h → (∀ k', k' ≠ k → gl k' = g k') → (∀ y, y < X → P y = true → gl k (cp P y) = y) → (∀ e, i ≤ e → gl k e = g k e) → xm_wp sc (d + 2) 93 11 [some (.ref c), some (.ref (ra c k)), some (.int (nI j)), some (.ref (ta c j)), some (.int (nI kp)), some (.int (nI i)), z] [] h Q := by
  intro m
  induction m with
  | zero =>
    intro X kp i gl z h h1 h2 ek ei
    have := cp_mono (p := p) h1
    exact absurd h2 (by omega)
  | succ m ih =>
    intro X kp i gl z h h1 h2 ek ei hX ho hpre hsuf
    have hN := xn_p12 hB
    have hk33 : k < 33 := by omega
    have hu := hX.u4 hk33
    have hcl := cp_le p (2 ^ n 4)
    have hpP : ∀ x, p x = false → P x = false := by intro x hx; rw [hP, hx]; rfl
    have hkp : ∀ x, cp P x ≤ cp p x := by
      intro x
      induction x with
      | zero => exact Nat.le_refl _
      | succ x ihx =>
        cases hpx : p x with
        | false => rw [cp_s0 hpx, cp_s0 (hpP x hpx)]; exact ihx
        | true =>
          rw [cp_s1 hpx]
          have := xn_tn (P x)
          show cp P x + _ ≤ _
          omega
    have hk1 := hkp X
    have hl := hX.ul hk33
    refine wn_iload (i := 11) rfl rfl ?_
    refine wn_aload (i := 12) rfl rfl ?_
    refine wp_get (i := 13) (n := 97) (a := (ra c k)) (v := .int (nI (u k))) rfl (hX.ro (by omega)) rfl ?_
    refine wn_ic_ge (i := 14) (a := i) (b := (u k)) (t' := 33) rfl rfl (by omega) (by omega) (fun c14 => ?_) (fun c14 => ?_)
    · skip
      refine wn_aload (i := 33) rfl rfl ?_
      refine wn_iload (i := 34) rfl rfl ?_
      refine wn_callv (i := 35) (as := [.int (nI kp)]) (b := (ra c k)) (rest := []) (es := [some (.ref (ra c k)), some (.int (nI kp))]) rfl rfl rfl rfl rfl (Nat.le_of_ble_eq_true rfl) rfl (hX.ro (by omega)) rfl ?_
      have eX : cp p X = cp p (2 ^ n 4) := by have := cp_mono (p := p) h1; have := hS.1; omega
      have ePX : cp P X = cp P (2 ^ n 4) := cp_fold (F := fun x => cp P x) (fun x hx => cp_s0 (hpP x hx)) eX
      refine r_sh (k := k) (m := kp) hX hk33 (by omega) (fun h_35 hX_35 => ?_)
      rw [show min kp (u k) = kp by omega] at hX_35
      show xm_wp sc (d + 2) 93 36 [some (.ref c), some (.ref (ra c k)), some (.int (nI j)), some (.ref (ta c j)), some (.int (nI kp)), some (.int (nI i)), z] [] h_35 Q
      refine wn_retV (i := 36) rfl (hQ _ _ _ hX_35 (fun k' hk' => ⟨nU_ne hk', ho k' hk'⟩) ⟨by rw [nU_same]; omega, fun y hy hPy => ?_⟩)
      by_cases q : y < X
      · exact hpre y q hPy
      · have hpy : p y = true := (by rw [hP] at hPy; exact (Bool.and_eq_true _ _ ▸ hPy).1)
        have := cp_lt hpy hy
        have := cp_mono (p := p) (show X ≤ y by omega)
        omega
    · skip
      obtain ⟨x, hx, hpx, hcx, hgx⟩ := hS.nth c14
      have hPx : cp P X = cp P x := cp_fold (F := fun x => cp P x) (fun x hx => cp_s0 (hpP x hx)) (by omega)
      have hXx : X ≤ x := by
        apply Nat.le_of_not_lt
        intro q
        have := cp_lt hpx q
        omega
      have hbx := hv x hx
      have htr2 : TR n f T u gl j := htr.mv rfl (by rw [ho _ (by omega)])
      have hpre2 : ∀ y, y < x → P y = true → gl k (cp P y) = y := by intro y hy hPy; by_cases q : y < X; exact hpre y q hPy; have hpy : p y = true := (by rw [hP] at hPy; exact (Bool.and_eq_true _ _ ▸ hPy).1); have := cp_lt hpy hy; have := cp_mono (p := p) (show X ≤ y by omega); omega
      refine wn_aload (i := 15) rfl rfl ?_
      refine wn_iload (i := 16) rfl rfl ?_
      refine wn_callv (i := 17) (as := [.int (nI i)]) (b := (ra c k)) (rest := []) (es := [some (.ref (ra c k)), some (.int (nI i))]) rfl rfl rfl rfl rfl (Nat.le_of_ble_eq_true rfl) rfl (hX.ro (by omega)) rfl ?_
      refine r_at (k := k) (e := i) hX hk33 (by omega) ?_
      rw [show gl k i = x by rw [hsuf i (Nat.le_refl _)]; exact hgx]
      show xm_wp sc (d + 2) 93 18 [some (.ref c), some (.ref (ra c k)), some (.int (nI j)), some (.ref (ta c j)), some (.int (nI kp)), some (.int (nI i)), z] [.int (nI x)] h Q
      refine wn_istore (i := 18) (ls' := [some (.ref c), some (.ref (ra c k)), some (.int (nI j)), some (.ref (ta c j)), some (.int (nI kp)), some (.int (nI i)), some (.int (nI x))]) rfl (Nat.le_of_ble_eq_true rfl) rfl ?_
      refine wn_aload (i := 19) rfl rfl ?_
      refine wn_iload (i := 20) rfl rfl ?_
      refine wn_aload (i := 21) rfl rfl ?_
      refine wp_get (i := 22) (n := 34) (a := c) (v := .int (nI (s 1))) rfl hX.o rfl ?_
      refine wn_callv (i := 23) (as := [.int (nI x), .int (nI (s 1))]) (b := (ta c j)) (rest := []) (es := [some (.ref (ta c j)), some (.int (nI x)), some (.int (nI (s 1)))]) rfl rfl rfl rfl rfl (Nat.le_of_ble_eq_true rfl) rfl (hX.te (by omega)) rfl ?_
      refine q_by (n := n) (f := f) (j := j) (x := x) hX htr2 hB (by omega) (by omega) hs1 ?_
      show xm_wp sc (d + 2) 93 24 [some (.ref c), some (.ref (ra c k)), some (.int (nI j)), some (.ref (ta c j)), some (.int (nI kp)), some (.int (nI i)), some (.int (nI x))] [.int (nI (f 3 (4096 * j + x)))] h Q
      refine wn_const (i := 24) (n := 1) rfl rfl ?_
      refine wn_ic_ne (i := 25) (a := (f 3 (4096 * j + x))) (b := 1) (t' := 31) rfl rfl (by omega) (by omega) (fun c25 => ?_) (fun c25 => ?_)
      · skip
        refine wn_iinc (i := 31) (x := i) (n := 1) (ls' := [some (.ref c), some (.ref (ra c k)), some (.int (nI j)), some (.ref (ta c j)), some (.int (nI kp)), some (.int (nI (i + 1))), some (.int (nI x))]) rfl rfl rfl rfl ?_
        refine wn_goto (i := 32) (t' := 11) rfl rfl ?_
        have hPf : P x = false := by rw [hP, hpx, Bool.true_and]; exact decide_eq_false c25
        refine ih (x + 1) _ _ _ _ _ (by omega) (by omega) (by rw [cp_s0 hPf]; omega) (by rw [cp_s1 hpx]; omega) hX ho (fun y hy hPy => ?_) (fun e he => hsuf e (by omega))
        by_cases q : y = x
        · subst q; rw [hPf] at hPy; cases hPy
        · exact hpre2 y (by omega) hPy
      · skip
        refine wn_aload (i := 26) rfl rfl ?_
        refine wn_iload (i := 27) rfl rfl ?_
        refine wn_iload (i := 28) rfl rfl ?_
        refine wn_callv (i := 29) (as := [.int (nI kp), .int (nI x)]) (b := (ra c k)) (rest := []) (es := [some (.ref (ra c k)), some (.int (nI kp)), some (.int (nI x))]) rfl rfl rfl rfl rfl (Nat.le_of_ble_eq_true rfl) rfl (hX.ro (by omega)) rfl ?_
        refine r_put (k := k) (e := kp) (x := x) hX (by omega) (by omega) (fun h_29 hX_29 => ?_)
        show xm_wp sc (d + 2) 93 30 [some (.ref c), some (.ref (ra c k)), some (.int (nI j)), some (.ref (ta c j)), some (.int (nI kp)), some (.int (nI i)), some (.int (nI x))] [] h_29 Q
        refine wn_iinc (i := 30) (x := kp) (n := 1) (ls' := [some (.ref c), some (.ref (ra c k)), some (.int (nI j)), some (.ref (ta c j)), some (.int (nI (kp + 1))), some (.int (nI i)), some (.int (nI x))]) rfl rfl rfl rfl ?_
        refine wn_iinc (i := 31) (x := i) (n := 1) (ls' := [some (.ref c), some (.ref (ra c k)), some (.int (nI j)), some (.ref (ta c j)), some (.int (nI (kp + 1))), some (.int (nI (i + 1))), some (.int (nI x))]) rfl rfl rfl rfl ?_
        refine wn_goto (i := 32) (t' := 11) rfl rfl ?_
        have hPt : P x = true := by rw [hP, hpx, c25]; rfl
        refine ih (x + 1) _ _ _ _ _ (by omega) (by omega) (by rw [cp_s1 hPt]; omega) (by rw [cp_s1 hpx]; omega) hX_29 (fun k' hk' => by rw [fU_R, fR_ne hk']; exact ho k' hk') (fun y hy hPy => ?_) (fun e he => ?_)
        · by_cases q : y = x
          · subst q; rw [show kp = cp P y by omega]; exact fU_same
          · have := cp_lt hPy (show y < x by omega)
            rw [fU_ne (by omega)]; exact hpre2 y (by omega) hPy
        · rw [fU_ne (by omega)]; exact hsuf e (by omega)
theorem b_sift {j k : Nat} {p P : Nat → Bool} (hX : KX c s T u g h0 h) (hT : s 0 ≤ 24) (hj : j < s 0) (htr : TR n f T u g j) (hs1 : s 1 = n 4) (hB : n 4 ≤ 12) (hk : k = 3 ∨ k = 4) (hS : SL u g k p (2 ^ n 4)) (hP : ∀ x, P x = (p x && decide (f 3 (4096 * j + x) = 1))) (hv : ∀ x, x < 2 ^ n 4 → f 3 (4096 * j + x) < 4096) (hQ : ∀ (h' : xm_S) (u' : Nat → Nat) (g' : Nat → Nat → Nat), KX c s T u' g' h0 h' → (∀ k', k' ≠ k → u' k' = u k' ∧ g' k' = g k') → SL u' g' k P (2 ^ n 4) → Q none h') : xm_wp sc (d + 2) 93 0 [some (.ref c), some (.ref (ra c k)), some (.int (nI j)), none, none, none, none] [] h Q := by
  refine wn_aload (i := 0) rfl rfl ?_
  refine wn_iload (i := 1) rfl rfl ?_
  refine wn_callv (i := 2) (as := [.int (nI j)]) (b := c) (rest := []) (es := [some (.ref c), some (.int (nI j))]) rfl rfl rfl rfl rfl (Nat.le_of_ble_eq_true rfl) rfl hX.o rfl ?_
  refine b_termOf hX hT (fun j' hj' e => ?_) (fun hno => absurd rfl (hno j hj))
  have ej := (nI_eq (by omega) (by omega)).mp e
  subst ej
  show xm_wp sc (d + 2) 93 3 [some (.ref c), some (.ref (ra c k)), some (.int (nI j)), none, none, none, none] [.ref (ta c j)] h Q
  refine wn_astore (i := 3) (ls' := [some (.ref c), some (.ref (ra c k)), some (.int (nI j)), some (.ref (ta c j)), none, none, none]) rfl (Nat.le_of_ble_eq_true rfl) rfl ?_
  refine wn_aload (i := 4) rfl rfl ?_
  refine wn_ifnonnull (i := 5) (t' := 7) rfl rfl ?_
  refine wn_const (i := 7) (n := 0) rfl rfl ?_
  refine wn_istore (i := 8) (ls' := [some (.ref c), some (.ref (ra c k)), some (.int (nI j)), some (.ref (ta c j)), some (.int (nI 0)), none, none]) rfl (Nat.le_of_ble_eq_true rfl) rfl ?_
  refine wn_const (i := 9) (n := 0) rfl rfl ?_
  refine wn_istore (i := 10) (ls' := [some (.ref c), some (.ref (ra c k)), some (.int (nI j)), some (.ref (ta c j)), some (.int (nI 0)), some (.int (nI 0)), none]) rfl (Nat.le_of_ble_eq_true rfl) rfl ?_
  exact l_sift hT hj htr hs1 hB hk hS hP hv hQ (cp p (2 ^ n 4) + 1) 0 0 0 g _ _ (Nat.zero_le _) (by omega) rfl rfl hX (fun _ _ => rfl) (fun y hy => absurd hy (Nat.not_lt_zero _)) (fun _ _ => rfl)
theorem l_found3 (hI : MI n f) (hs2 : s 2 ≠ 0) (hQ : ∀ (h' : xm_S) (s' u' : Nat → Nat) (g' : Nat → Nat → Nat), KX c s' T u' g' h0 h' → KQ n f s' T u' g' → s' 2 = 0 → Q (some (.ref (ra c 4))) h') : ∀ (m : Nat) (i : Nat) (uu : Nat → Nat) (gg : Nat → Nat → Nat) (h : xm_S), i ≤ n 7 → n 7 < i + m → KX c s T uu gg h0 h → KQ n f s T uu gg → SL uu gg 3 (fun x => kC f x (n 5)) (2 ^ n 4) → SL uu gg 4 (fun x => kC f x (n 5) && kA f x i) (2 ^ n 4) → xm_wp sc (d + 3) 80 45 [some (.ref c), some (.int (nI i))] [] h Q := by
  intro m
  induction m with
  | zero => intro i uu gg h h1 h2; exact absurd h2 (by omega)
  | succ m ih =>
    intro i uu gg h h1 h2 hX hq h3 h4
    have hB := hI.b12
    have hN := hI.p4
    have hT0 := hI.t24
    have hT : s 0 ≤ 24 := by rw [hq.s0]; exact hT0
    have hc16 := hI.c16
    have ha8 := hI.a8
    have hs1 := hq.s1
    refine wn_iload (i := 45) rfl rfl ?_
    refine wn_aload (i := 46) rfl rfl ?_
    refine wp_get (i := 47) (n := 36) (a := c) (v := .ref (ra c 1)) rfl hX.o rfl ?_
    refine wp_get (i := 48) (n := 97) (a := (ra c 1)) (v := .int (nI (uu 1))) rfl (hX.ro (by omega)) rfl ?_
    refine wn_ic_ge (i := 49) (a := i) (b := (uu 1)) (t' := 60) rfl rfl (by omega) (by omega) (fun c49 => ?_) (fun c49 => ?_)
    · skip
      have ei : i = n 7 := by omega
      subst ei
      refine wn_aload (i := 60) rfl rfl ?_
      refine wn_const (i := 61) (n := 0) rfl rfl ?_
      refine kw_putB (i := 62) (n := 40) (k := 8) (j := 2) (x := 0) rfl hX rfl rfl (by decide) (by first | rfl | decide) rfl rfl (by decide) (fun h_62 hX_62 => ?_)
      refine wn_aload (i := 63) rfl rfl ?_
      refine wp_get (i := 64) (n := 39) (a := c) (v := .ref (ra c 4)) rfl hX_62.o rfl ?_
      exact wn_retA (i := 65) rfl (hQ _ _ _ _ hX_62 (hq.fresh h3 h4) rfl)
    · skip
      refine wn_aload (i := 50) rfl rfl ?_
      refine wn_aload (i := 51) rfl rfl ?_
      refine wp_get (i := 52) (n := 39) (a := c) (v := .ref (ra c 4)) rfl hX.o rfl ?_
      refine wn_aload (i := 53) rfl rfl ?_
      refine wp_get (i := 54) (n := 36) (a := c) (v := .ref (ra c 1)) rfl hX.o rfl ?_
      refine wn_iload (i := 55) rfl rfl ?_
      refine wn_callv (i := 56) (as := [.int (nI i)]) (b := (ra c 1)) (rest := [.ref (ra c 4), .ref c]) (es := [some (.ref (ra c 1)), some (.int (nI i))]) rfl rfl rfl rfl rfl (Nat.le_of_ble_eq_true rfl) rfl (hX.ro (by omega)) rfl ?_
      refine r_at (k := 1) (e := i) hX (by omega) (by rw [hq.a0]; omega) ?_
      rw [show gg 1 i = f 5 i from hq.a1 (by omega)]
      show xm_wp sc (d + 3) 80 57 [some (.ref c), some (.int (nI i))] [.int (nI (f 5 i)), .ref (ra c 4), .ref c] h Q
      refine wn_callv (i := 57) (as := [.ref (ra c 4), .int (nI (f 5 i))]) (b := c) (rest := []) (es := [some (.ref c), some (.ref (ra c 4)), some (.int (nI (f 5 i))), none, none, none, none]) rfl rfl rfl rfl rfl (Nat.le_of_ble_eq_true rfl) rfl hX.o rfl ?_
      refine b_sift (n := n) (f := f) (j := f 5 i) (k := 4) (P := fun x => kC f x (n 5) && kA f x (i + 1)) hX hT (by rw [hq.s0]; exact (hI.as (by omega)).1) (hq.tr (hI.as (by omega)).1) hs1 hB (Or.inr rfl) h4 (fun x => ?_) (fun x hx => hI.v4 (hI.as (by omega)).1 hx) (fun h_57 u2 g2 hX_57 ho2 h42 => ?_)
      · show (kC f x (n 5) && (kA f x i && (decide (f 7 i ≠ 0) || decide (f 3 (4096 * f 5 i + x) = 1)))) = _
        rw [hI.lf (by omega)]
        simp [Bool.and_assoc]
      show xm_wp sc (d + 3) 80 58 [some (.ref c), some (.int (nI i))] [] h_57 Q
      refine wn_iinc (i := 58) (x := i) (n := 1) (ls' := [some (.ref c), some (.int (nI (i + 1)))]) rfl rfl rfl rfl ?_
      refine wn_goto (i := 59) (t' := 45) rfl rfl ?_
      exact ih (i + 1) u2 g2 _ (by omega) (by omega) hX_57 (hq.of hs2 (fun k h1 h2 => ho2 k h2)) (h3.cg (ho2 3 (by decide)).1 (fun j _ => by rw [(ho2 3 (by decide)).2]) (fun _ _ => rfl)) h42
theorem l_found2 (hI : MI n f) (hs2 : s 2 ≠ 0) (hQ : ∀ (h' : xm_S) (s' u' : Nat → Nat) (g' : Nat → Nat → Nat), KX c s' T u' g' h0 h' → KQ n f s' T u' g' → s' 2 = 0 → Q (some (.ref (ra c 4))) h') : ∀ (m : Nat) (i : Nat) (uu : Nat → Nat) (gg : Nat → Nat → Nat) (h : xm_S), i ≤ n 5 → n 5 < i + m → KX c s T uu gg h0 h → KQ n f s T uu gg → SL uu gg 3 (fun x => kC f x i) (2 ^ n 4) → xm_wp sc (d + 3) 80 23 [some (.ref c), some (.int (nI i))] [] h Q := by
  intro m
  induction m with
  | zero => intro i uu gg h h1 h2; exact absurd h2 (by omega)
  | succ m ih =>
    intro i uu gg h h1 h2 hX hq h3
    have hB := hI.b12
    have hN := hI.p4
    have hT0 := hI.t24
    have hT : s 0 ≤ 24 := by rw [hq.s0]; exact hT0
    have hc16 := hI.c16
    have ha8 := hI.a8
    have hs1 := hq.s1
    refine wn_iload (i := 23) rfl rfl ?_
    refine wn_aload (i := 24) rfl rfl ?_
    refine wp_get (i := 25) (n := 35) (a := c) (v := .ref (ra c 0)) rfl hX.o rfl ?_
    refine wp_get (i := 26) (n := 97) (a := (ra c 0)) (v := .int (nI (uu 0))) rfl (hX.ro (by omega)) rfl ?_
    refine wn_ic_ge (i := 27) (a := i) (b := (uu 0)) (t' := 38) rfl rfl (by omega) (by omega) (fun c27 => ?_) (fun c27 => ?_)
    · skip
      have ei : i = n 5 := by omega
      subst ei
      have hu3 := hX.u4 (k := 3) (by omega)
      refine wn_aload (i := 38) rfl rfl ?_
      refine wp_get (i := 39) (n := 39) (a := c) (v := .ref (ra c 4)) rfl hX.o rfl ?_
      refine wn_aload (i := 40) rfl rfl ?_
      refine wp_get (i := 41) (n := 38) (a := c) (v := .ref (ra c 3)) rfl hX.o rfl ?_
      refine wn_callv (i := 42) (as := [.ref (ra c 3)]) (b := (ra c 4)) (rest := []) (es := [some (.ref (ra c 4)), some (.ref (ra c 3))]) rfl rfl rfl rfl rfl (Nat.le_of_ble_eq_true rfl) rfl (hX.ro (by omega)) rfl ?_
      refine r_take (k := 4) (k' := 3) hX (by omega) (by omega) (show uu 3 ≤ rl 4 from hu3) (fun h_42 hX_42 => ?_)
      show xm_wp sc (d + 3) 80 43 [some (.ref c), some (.int (nI i))] [] h_42 Q
      refine wn_const (i := 43) (n := 0) rfl rfl ?_
      refine wn_istore (i := 44) (ls' := [some (.ref c), some (.int (nI 0))]) rfl (Nat.le_of_ble_eq_true rfl) rfl ?_
      refine l_found3 hI hs2 hQ (n 7 + 1) 0 _ _ _ (Nat.zero_le _) (by omega) hX_42 (hq.of hs2 (fun k h1 h2 => ⟨nU_ne h2, fR_ne h2⟩)) (h3.cg (nU_ne (by decide)) (fun j _ => by rw [fR_ne (by decide)]) (fun _ _ => rfl)) ?_
      refine ⟨?_, fun x hx hp => ?_⟩
      · rw [nU_same, h3.1]; exact cp_congr (fun x _ => by show _ = (kC f x (n 5) && true); rw [Bool.and_true])
      · have e1 : cp (fun x => kC f x (n 5) && kA f x 0) x = cp (fun x => kC f x (n 5)) x := cp_congr (fun x _ => by show (kC f x (n 5) && true) = _; rw [Bool.and_true])
        have hp2 : kC f x (n 5) = true := by simpa [kA] using hp
        have hlt := cp_lt (p := fun x => kC f x (n 5)) hp2 hx
        rw [fR_same, e1]
        show (if _ < uu 3 then _ else _) = x
        rw [if_pos (by rw [h3.1]; exact hlt)]
        exact h3.2 x hx hp2
    · skip
      refine wn_aload (i := 28) rfl rfl ?_
      refine wn_aload (i := 29) rfl rfl ?_
      refine wp_get (i := 30) (n := 38) (a := c) (v := .ref (ra c 3)) rfl hX.o rfl ?_
      refine wn_aload (i := 31) rfl rfl ?_
      refine wp_get (i := 32) (n := 35) (a := c) (v := .ref (ra c 0)) rfl hX.o rfl ?_
      refine wn_iload (i := 33) rfl rfl ?_
      refine wn_callv (i := 34) (as := [.int (nI i)]) (b := (ra c 0)) (rest := [.ref (ra c 3), .ref c]) (es := [some (.ref (ra c 0)), some (.int (nI i))]) rfl rfl rfl rfl rfl (Nat.le_of_ble_eq_true rfl) rfl (hX.ro (by omega)) rfl ?_
      refine r_at (k := 0) (e := i) hX (by omega) (by rw [hq.c0]; omega) ?_
      rw [show gg 0 i = f 4 i from hq.c1 (by omega)]
      show xm_wp sc (d + 3) 80 35 [some (.ref c), some (.int (nI i))] [.int (nI (f 4 i)), .ref (ra c 3), .ref c] h Q
      refine wn_callv (i := 35) (as := [.ref (ra c 3), .int (nI (f 4 i))]) (b := c) (rest := []) (es := [some (.ref c), some (.ref (ra c 3)), some (.int (nI (f 4 i))), none, none, none, none]) rfl rfl rfl rfl rfl (Nat.le_of_ble_eq_true rfl) rfl hX.o rfl ?_
      refine b_sift (n := n) (f := f) (j := f 4 i) (k := 3) (P := fun x => kC f x (i + 1)) hX hT (by rw [hq.s0]; exact (hI.cl (by omega)).1) (hq.tr (hI.cl (by omega)).1) hs1 hB (Or.inl rfl) h3 (fun x => rfl) (fun x hx => hI.v4 (hI.cl (by omega)).1 hx) (fun h_35 u2 g2 hX_35 ho2 h32 => ?_)
      show xm_wp sc (d + 3) 80 36 [some (.ref c), some (.int (nI i))] [] h_35 Q
      refine wn_iinc (i := 36) (x := i) (n := 1) (ls' := [some (.ref c), some (.int (nI (i + 1)))]) rfl rfl rfl rfl ?_
      refine wn_goto (i := 37) (t' := 23) rfl rfl ?_
      exact ih (i + 1) u2 g2 _ (by omega) (by omega) hX_35 (hq.of hs2 (fun k h1 h2 => ho2 k h1)) h32
theorem l_found1 (hI : MI n f) (hs2 : s 2 ≠ 0) (hQ : ∀ (h' : xm_S) (s' u' : Nat → Nat) (g' : Nat → Nat → Nat), KX c s' T u' g' h0 h' → KQ n f s' T u' g' → s' 2 = 0 → Q (some (.ref (ra c 4))) h') : ∀ (m : Nat) (x : Nat) (uu : Nat → Nat) (gg : Nat → Nat → Nat) (h : xm_S), x ≤ 2 ^ n 4 → 2 ^ n 4 < x + m → KX c s T uu gg h0 h → KQ n f s T uu gg → uu 3 = x → (∀ y, y < x → gg 3 y = y) → xm_wp sc (d + 3) 80 9 [some (.ref c), some (.int (nI x))] [] h Q := by
  intro m
  induction m with
  | zero => intro x uu gg h h1 h2; exact absurd h2 (by omega)
  | succ m ih =>
    intro x uu gg h h1 h2 hX hq h3 h4
    have hB := hI.b12
    have hN := hI.p4
    have hT0 := hI.t24
    have hT : s 0 ≤ 24 := by rw [hq.s0]; exact hT0
    have hc16 := hI.c16
    have ha8 := hI.a8
    have hs1 := hq.s1
    refine wn_iload (i := 9) rfl rfl ?_
    refine wn_const (i := 10) (n := 1) rfl rfl ?_
    refine wn_aload (i := 11) rfl rfl ?_
    refine wp_get (i := 12) (n := 34) (a := c) (v := .int (nI (n 4))) rfl hX.o (congrArg (fun z => some (Value.int (nI z))) hq.s1) ?_
    refine wn_ishl (i := 13) (a := 1) (b := (n 4)) rfl (by omega) (by omega) ?_
    rw [show 1 * 2 ^ (n 4) = 2 ^ n 4 from Nat.one_mul _]
    refine wn_ic_ge (i := 14) (a := x) (b := (2 ^ n 4)) (t' := 21) rfl rfl (by omega) (by omega) (fun c14 => ?_) (fun c14 => ?_)
    · skip
      refine wn_const (i := 21) (n := 0) rfl rfl ?_
      refine wn_istore (i := 22) (ls' := [some (.ref c), some (.int (nI 0))]) rfl (Nat.le_of_ble_eq_true rfl) rfl ?_
      have ex : x = 2 ^ n 4 := by omega
      refine l_found2 hI hs2 hQ (n 5 + 1) 0 _ _ _ (Nat.zero_le _) (by omega) hX hq ⟨?_, fun y hy hp => ?_⟩
      · rw [h3, ex]; exact (cp_all _).symm
      · rw [show cp (fun x => kC f x 0) y = y from cp_all y]; exact h4 y (by omega)
    · skip
      refine wn_aload (i := 15) rfl rfl ?_
      refine wp_get (i := 16) (n := 38) (a := c) (v := .ref (ra c 3)) rfl hX.o rfl ?_
      refine wn_iload (i := 17) rfl rfl ?_
      refine wn_callv (i := 18) (as := [.int (nI x)]) (b := (ra c 3)) (rest := []) (es := [some (.ref (ra c 3)), some (.int (nI x))]) rfl rfl rfl rfl rfl (Nat.le_of_ble_eq_true rfl) rfl (hX.ro (by omega)) rfl ?_
      refine r_add (k := 3) (x := x) hX (by omega) (show uu 3 < 4096 by omega) (fun h_18 hX_18 => ?_)
      show xm_wp sc (d + 3) 80 19 [some (.ref c), some (.int (nI x))] [] h_18 Q
      refine wn_iinc (i := 19) (x := x) (n := 1) (ls' := [some (.ref c), some (.int (nI (x + 1)))]) rfl rfl rfl rfl ?_
      refine wn_goto (i := 20) (t' := 9) rfl rfl ?_
      exact ih (x + 1) _ _ _ (by omega) (by omega) hX_18 (hq.of hs2 (fun k h1 h2 => ⟨nU_ne h1, by rw [fU_R, fR_ne h1]⟩)) (by rw [nU_same, h3]) (fun y hy => by by_cases q : y = x; (subst q; rw [h3]; exact fU_same); (rw [fU_ne (by omega)]; exact h4 y (by omega)))
theorem b_found (hX : KX c s T u g h0 h) (hI : MI n f) (hq : KQ n f s T u g) (hQ : ∀ (h' : xm_S) (s' u' : Nat → Nat) (g' : Nat → Nat → Nat), KX c s' T u' g' h0 h' → KQ n f s' T u' g' → s' 2 = 0 → Q (some (.ref (ra c 4))) h') : xm_wp sc (d + 3) 80 0 [some (.ref c), none] [] h Q := by
  have hs2 := hq.s2
  refine wn_aload (i := 0) rfl rfl ?_
  refine wp_get (i := 1) (n := 40) (a := c) (v := .int (nI (s 2))) rfl hX.o rfl ?_
  refine wn_if_eq (i := 2) (a := (s 2)) (t' := 63) rfl rfl (by omega) (fun c2 => ?_) (fun c2 => ?_)
  · skip
    refine wn_aload (i := 63) rfl rfl ?_
    refine wp_get (i := 64) (n := 39) (a := c) (v := .ref (ra c 4)) rfl hX.o rfl ?_
    exact wn_retA (i := 65) rfl (hQ _ _ _ _ hX hq c2)
  · skip
    refine wn_aload (i := 3) rfl rfl ?_
    refine wp_get (i := 4) (n := 38) (a := c) (v := .ref (ra c 3)) rfl hX.o rfl ?_
    refine wn_const (i := 5) (n := 0) rfl rfl ?_
    refine wn_callv (i := 6) (as := [.int (nI 0)]) (b := (ra c 3)) (rest := []) (es := [some (.ref (ra c 3)), some (.int (nI 0))]) rfl rfl rfl rfl rfl (Nat.le_of_ble_eq_true rfl) rfl (hX.ro (by omega)) rfl ?_
    refine r_sh0 (k := 3) hX (by omega) (fun h_6 hX_6 => ?_)
    show xm_wp sc (d + 3) 80 7 [some (.ref c), none] [] h_6 Q
    refine wn_const (i := 7) (n := 0) rfl rfl ?_
    refine wn_istore (i := 8) (ls' := [some (.ref c), some (.int (nI 0))]) rfl (Nat.le_of_ble_eq_true rfl) rfl ?_
    exact l_found1 hI c2 hQ (2 ^ n 4 + 1) 0 _ _ _ (Nat.zero_le _) (by omega) hX_6 (hq.of c2 (fun k h1 h2 => ⟨nU_ne h1, rfl⟩)) nU_same (fun y hy => absurd hy (Nat.not_lt_zero _))
end KN
end
