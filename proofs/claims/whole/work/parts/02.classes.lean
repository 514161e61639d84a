/-! classes, fields and array kinds of the program, by program (gen_tables.py) -/
def xc_T0 : u_T := fun k => match k with
  | 0 => ("BitSolverModel", "terms", "I", false)
  | 1 => ("BitSolverModel", "size", "[I", true)
  | 2 => ("BitSolverModel", "isVariable", "[Z", true)
  | 3 => ("BitSolverModel", "number", "[I", true)
  | 4 => ("BitSolverModel", "bits", "I", false)
  | 5 => ("BitSolverModel", "claims", "I", false)
  | 6 => ("BitSolverModel", "claim", "[I", true)
  | 7 => ("BitSolverModel", "assumed", "I", false)
  | 8 => ("BitSolverModel", "assume", "[I", true)
  | 9 => ("BitSolverModel", "levels", "I", false)
  | 10 => ("BitSolverModel", "level", "[I", true)
  | 11 => ("BitSolverModel", "isLeft", "[Z", true)
  | 12 => ("BitSolverModel", "isThere", "[Z", true)
  | 13 => ("BitSolverModel", "part", "[I", true)
  | 14 => ("BitSolverModel", "nodeLow", "[I", true)
  | 15 => ("BitSolverModel", "nodeHigh", "[I", true)
  | _ => ("BitSolverModel", "nodes", "I", false)
def xc_y0 : Nat → FieldType := fun k => match k with
  | 0 => .int
  | 1 => .array .int
  | 2 => .array .boolean
  | 3 => .array .int
  | 4 => .int
  | 5 => .int
  | 6 => .array .int
  | 7 => .int
  | 8 => .array .int
  | 9 => .int
  | 10 => .array .int
  | 11 => .array .boolean
  | 12 => .array .boolean
  | 13 => .array .int
  | 14 => .array .int
  | 15 => .array .int
  | _ => .int
def xc_T1 : u_T := fun k => match k with
  | 0 => ("BitSolver", "terms", "[LBitSolver$Term;", true)
  | 1 => ("BitSolver", "termsMade", "I", false)
  | 2 => ("BitSolver", "freeBits", "I", false)
  | 3 => ("BitSolver", "claims", "LBitSolver$Row;", true)
  | 4 => ("BitSolver", "assumed", "LBitSolver$Row;", true)
  | 5 => ("BitSolver", "levels", "LBitSolver$Row;", true)
  | 6 => ("BitSolver", "claimed", "LBitSolver$Row;", true)
  | 7 => ("BitSolver", "met", "LBitSolver$Row;", true)
  | 8 => ("BitSolver", "stale", "Z", false)
  | 9 => ("BitSolver", "marks", "LBitSolver$Row;", true)
  | _ => ("BitSolver", "diagram", "LBitSolver$Diagram;", true)
def xc_y1 : Nat → FieldType := fun k => match k with
  | 0 => .array (.object "BitSolver$Term")
  | 1 => .int
  | 2 => .int
  | 3 => .object "BitSolver$Row"
  | 4 => .object "BitSolver$Row"
  | 5 => .object "BitSolver$Row"
  | 6 => .object "BitSolver$Row"
  | 7 => .object "BitSolver$Row"
  | 8 => .boolean
  | 9 => .object "BitSolver$Row"
  | _ => .object "BitSolver$Diagram"
def xc_T2 : u_T := fun k => match k with
  | 0 => ("BitSolver$Diagram", "parts", "LBitSolver$Row;", true)
  | 1 => ("BitSolver$Diagram", "keys", "LBitSolver$Row;", true)
  | 2 => ("BitSolver$Diagram", "names", "LBitSolver$Row;", true)
  | _ => ("BitSolver$Diagram", "named", "I", false)
def xc_y2 : Nat → FieldType := fun k => match k with
  | 0 => .object "BitSolver$Row"
  | 1 => .object "BitSolver$Row"
  | 2 => .object "BitSolver$Row"
  | _ => .int
def xc_T3 : u_T := fun k => match k with
  | 0 => ("BitSolver$Row", "cells", "[I", true)
  | _ => ("BitSolver$Row", "used", "I", false)
def xc_y3 : Nat → FieldType := fun k => match k with
  | 0 => .array .int
  | _ => .int
def xc_T4 : u_T := fun k => match k with
  | 0 => ("BitSolver$Term", "width", "I", false)
  | 1 => ("BitSolver$Term", "reach", "I", false)
  | 2 => ("BitSolver$Term", "variable", "Z", false)
  | _ => ("BitSolver$Term", "row", "LBitSolver$Row;", true)
def xc_y4 : Nat → FieldType := fun k => match k with
  | 0 => .int
  | 1 => .int
  | 2 => .boolean
  | _ => .object "BitSolver$Row"
def xc_cl : List vw_C := [("BitSolverModel", xc_T0, 17), ("BitSolver", xc_T1, 11), ("BitSolver$Diagram", xc_T2, 4), ("BitSolver$Row", xc_T3, 2), ("BitSolver$Term", xc_T4, 4)]
def xc_ty (ci k : Nat) : FieldType := match ci with
  | 0 => xc_y0 k
  | 1 => xc_y1 k
  | 2 => xc_y2 k
  | 3 => xc_y3 k
  | _ => xc_y4 k
def xc_def (ci : Nat) : List Value := match ci with
  | 0 => [.int 0, .null, .null, .null, .int 0, .int 0, .null, .int 0, .null, .int 0, .null, .null, .null, .null, .null, .null, .int 0]
  | 1 => [.null, .int 0, .int 0, .null, .null, .null, .null, .null, .int 0, .null, .null]
  | 2 => [.null, .null, .null, .int 0]
  | 3 => [.null, .int 0]
  | _ => [.int 0, .int 0, .int 0, .null]
def xc_arr : List FieldType := [.int, .boolean, .object "BitSolver$Term"]
/-- the class that an array of references holds -/
def xc_comp (t : Nat) : Nat := match t with
  | 2 => 4
  | _ => 99
