/-! TABLES: written by wip/whole/gen_tables.py out of the Statement: classes, fields, methods, links -/
def am_cnL : List String := ["LoadBook$Cell", "LoadBook$Code", "LoadBook$Frame", "LoadBook$Lexer", "LoadBook$Machine", "LoadBook$Numbers", "LoadBook$Parser", "LoadBook$Plan", "LoadBook$Real", "LoadBook$Sheet", "LoadBook$Text", "LoadBook", "LoadBookModel", "LoadBookLaw", "java/lang/String", "java/lang/StringLatin1", "java/lang/Math", "java/lang/Double"]
def am_cn (c : Nat) : String := am_cnL.getD c ""
def am_T0 : u_T := fun k => match k with
  | 0 => ("LoadBook$Cell", "state", "I", false)
  | 1 => ("LoadBook$Cell", "bits", "J", false)
  | 2 => ("LoadBook$Cell", "real", "D", false)
  | 3 => ("LoadBook$Cell", "code", "LLoadBook$Code;", false)
  | 4 => ("LoadBook$Cell", "kind", "I", false)
  | 5 => ("LoadBook$Cell", "first", "I", false)
  | 6 => ("LoadBook$Cell", "cause", "I", false)
  | 7 => ("LoadBook$Cell", "told", "Z", false)
  | 8 => ("LoadBook$Cell", "reads", "[I", false)
  | _ => ("LoadBook$Cell", "readCount", "I", false)
def am_y0 : Nat → FieldType := fun k => match k with
  | 0 => .int
  | 1 => .long
  | 2 => .double
  | 3 => (.object "LoadBook$Code")
  | 4 => .int
  | 5 => .int
  | 6 => .int
  | 7 => .boolean
  | 8 => (.array .int)
  | _ => .int
def am_T1 : u_T := fun k => match k with
  | 0 => ("LoadBook$Code", "orders", "[B", true)
  | 1 => ("LoadBook$Code", "operands", "[J", true)
  | 2 => ("LoadBook$Code", "printed", "LLoadBook$Text;", true)
  | 3 => ("LoadBook$Code", "needList", "[I", true)
  | 4 => ("LoadBook$Code", "needBits", "[J", true)
  | 5 => ("LoadBook$Code", "size", "I", false)
  | 6 => ("LoadBook$Code", "needCount", "I", false)
  | 7 => ("LoadBook$Code", "parts", "I", false)
  | 8 => ("LoadBook$Code", "calls", "I", false)
  | 9 => ("LoadBook$Code", "name", "J", false)
  | 10 => ("LoadBook$Code", "arity", "I", false)
  | _ => ("LoadBook$Code", "told", "Z", false)
def am_y1 : Nat → FieldType := fun k => match k with
  | 0 => (.array .byte)
  | 1 => (.array .long)
  | 2 => (.object "LoadBook$Text")
  | 3 => (.array .int)
  | 4 => (.array .long)
  | 5 => .int
  | 6 => .int
  | 7 => .int
  | 8 => .int
  | 9 => .long
  | 10 => .int
  | _ => .boolean
def am_T2 : u_T := fun k => match k with
  | 0 => ("LoadBook$Frame", "code", "LLoadBook$Code;", false)
  | 1 => ("LoadBook$Frame", "at", "I", false)
  | 2 => ("LoadBook$Frame", "base", "I", false)
  | 3 => ("LoadBook$Frame", "rootTurn", "I", false)
  | 4 => ("LoadBook$Frame", "low", "D", false)
  | 5 => ("LoadBook$Frame", "high", "D", false)
  | 6 => ("LoadBook$Frame", "middle", "D", false)
  | _ => ("LoadBook$Frame", "lowIsBelow", "Z", false)
def am_y2 : Nat → FieldType := fun k => match k with
  | 0 => (.object "LoadBook$Code")
  | 1 => .int
  | 2 => .int
  | 3 => .int
  | 4 => .double
  | 5 => .double
  | 6 => .double
  | _ => .boolean
def am_T3 : u_T := fun k => match k with
  | 0 => ("LoadBook$Lexer", "text", "LLoadBook$Text;", false)
  | 1 => ("LoadBook$Lexer", "next", "I", false)
  | 2 => ("LoadBook$Lexer", "token", "I", false)
  | 3 => ("LoadBook$Lexer", "place", "I", false)
  | 4 => ("LoadBook$Lexer", "name", "J", false)
  | 5 => ("LoadBook$Lexer", "digits", "J", false)
  | 6 => ("LoadBook$Lexer", "behind", "I", false)
  | 7 => ("LoadBook$Lexer", "cell", "I", false)
  | 8 => ("LoadBook$Lexer", "faultNumber", "I", false)
  | _ => ("LoadBook$Lexer", "faultPlace", "I", false)
def am_y3 : Nat → FieldType := fun k => match k with
  | 0 => (.object "LoadBook$Text")
  | 1 => .int
  | 2 => .int
  | 3 => .int
  | 4 => .long
  | 5 => .long
  | 6 => .int
  | 7 => .int
  | 8 => .int
  | _ => .int
def am_T4 : u_T := fun k => match k with
  | 0 => ("LoadBook$Machine", "cells", "[LLoadBook$Cell;", true)
  | 1 => ("LoadBook$Machine", "functions", "[LLoadBook$Code;", true)
  | 2 => ("LoadBook$Machine", "numbers", "LLoadBook$Numbers;", true)
  | 3 => ("LoadBook$Machine", "frames", "[LLoadBook$Frame;", true)
  | 4 => ("LoadBook$Machine", "tryAt", "[I", true)
  | 5 => ("LoadBook$Machine", "tryTop", "[I", true)
  | 6 => ("LoadBook$Machine", "tryDepth", "[I", true)
  | 7 => ("LoadBook$Machine", "row", "[D", true)
  | 8 => ("LoadBook$Machine", "column", "[D", true)
  | 9 => ("LoadBook$Machine", "tries", "I", false)
  | 10 => ("LoadBook$Machine", "depth", "I", false)
  | 11 => ("LoadBook$Machine", "steps", "I", false)
  | 12 => ("LoadBook$Machine", "running", "Z", false)
  | 13 => ("LoadBook$Machine", "kind", "I", false)
  | 14 => ("LoadBook$Machine", "source", "LLoadBook$Cell;", false)
  | 15 => ("LoadBook$Machine", "owner", "LLoadBook$Cell;", false)
  | _ => ("LoadBook$Machine", "sheet", "LLoadBook$Sheet;", false)
def am_y4 : Nat → FieldType := fun k => match k with
  | 0 => (.array (.object "LoadBook$Cell"))
  | 1 => (.array (.object "LoadBook$Code"))
  | 2 => (.object "LoadBook$Numbers")
  | 3 => (.array (.object "LoadBook$Frame"))
  | 4 => (.array .int)
  | 5 => (.array .int)
  | 6 => (.array .int)
  | 7 => (.array .double)
  | 8 => (.array .double)
  | 9 => .int
  | 10 => .int
  | 11 => .int
  | 12 => .boolean
  | 13 => .int
  | 14 => (.object "LoadBook$Cell")
  | 15 => (.object "LoadBook$Cell")
  | _ => (.object "LoadBook$Sheet")
def am_T5 : u_T := fun k => match k with
  | 0 => ("LoadBook$Numbers", "isReal", "[Z", true)
  | 1 => ("LoadBook$Numbers", "wholes", "[J", true)
  | 2 => ("LoadBook$Numbers", "reals", "[D", true)
  | _ => ("LoadBook$Numbers", "top", "I", false)
def am_y5 : Nat → FieldType := fun k => match k with
  | 0 => (.array .boolean)
  | 1 => (.array .long)
  | 2 => (.array .double)
  | _ => .int
def am_T6 : u_T := fun k => match k with
  | 0 => ("LoadBook$Parser", "lexer", "LLoadBook$Lexer;", true)
  | 1 => ("LoadBook$Parser", "draft", "LLoadBook$Code;", true)
  | 2 => ("LoadBook$Parser", "functions", "[LLoadBook$Code;", true)
  | 3 => ("LoadBook$Parser", "arguments", "[J", true)
  | 4 => ("LoadBook$Parser", "arity", "I", false)
  | 5 => ("LoadBook$Parser", "sort", "I", false)
  | 6 => ("LoadBook$Parser", "sheet", "LLoadBook$Sheet;", false)
  | 7 => ("LoadBook$Parser", "visible", "I", false)
  | 8 => ("LoadBook$Parser", "ownName", "J", false)
  | 9 => ("LoadBook$Parser", "ownNumber", "I", false)
  | 10 => ("LoadBook$Parser", "open", "I", false)
  | 11 => ("LoadBook$Parser", "laterNumber", "I", false)
  | _ => ("LoadBook$Parser", "laterPlace", "I", false)
def am_y6 : Nat → FieldType := fun k => match k with
  | 0 => (.object "LoadBook$Lexer")
  | 1 => (.object "LoadBook$Code")
  | 2 => (.array (.object "LoadBook$Code"))
  | 3 => (.array .long)
  | 4 => .int
  | 5 => .int
  | 6 => (.object "LoadBook$Sheet")
  | 7 => .int
  | 8 => .long
  | 9 => .int
  | 10 => .int
  | 11 => .int
  | _ => .int
def am_T7 : u_T := fun k => match k with
  | 0 => ("LoadBook$Plan", "members", "[I", true)
  | 1 => ("LoadBook$Plan", "links", "[J", true)
  | 2 => ("LoadBook$Plan", "reach", "[J", true)
  | 3 => ("LoadBook$Plan", "ringOf", "[I", true)
  | 4 => ("LoadBook$Plan", "ringCells", "[I", true)
  | 5 => ("LoadBook$Plan", "ringStarts", "[I", true)
  | 6 => ("LoadBook$Plan", "doneCells", "[I", true)
  | 7 => ("LoadBook$Plan", "size", "I", false)
  | 8 => ("LoadBook$Plan", "changed", "J", false)
  | 9 => ("LoadBook$Plan", "finished", "J", false)
  | 10 => ("LoadBook$Plan", "rings", "I", false)
  | 11 => ("LoadBook$Plan", "doneCount", "I", false)
  | _ => ("LoadBook$Plan", "ringFirst", "I", false)
def am_y7 : Nat → FieldType := fun k => match k with
  | 0 => (.array .int)
  | 1 => (.array .long)
  | 2 => (.array .long)
  | 3 => (.array .int)
  | 4 => (.array .int)
  | 5 => (.array .int)
  | 6 => (.array .int)
  | 7 => .int
  | 8 => .long
  | 9 => .long
  | 10 => .int
  | 11 => .int
  | _ => .int
def am_T8 : u_T := fun k => match k with
  | _ => ("", "", "", false)
def am_y8 : Nat → FieldType := fun k => match k with
  | _ => .int
def am_T9 : u_T := fun k => match k with
  | 0 => ("LoadBook$Sheet", "constants", "[LLoadBook$Cell;", true)
  | 1 => ("LoadBook$Sheet", "size", "I", false)
  | 2 => ("LoadBook$Sheet", "told", "Z", false)
  | 3 => ("LoadBook$Sheet", "spoil", "I", false)
  | _ => ("LoadBook$Sheet", "times", "I", false)
def am_y9 : Nat → FieldType := fun k => match k with
  | 0 => (.array (.object "LoadBook$Cell"))
  | 1 => .int
  | 2 => .boolean
  | 3 => .int
  | _ => .int
def am_T10 : u_T := fun k => match k with
  | 0 => ("LoadBook$Text", "bytes", "[B", true)
  | _ => ("LoadBook$Text", "size", "I", false)
def am_y10 : Nat → FieldType := fun k => match k with
  | 0 => (.array .byte)
  | _ => .int
def am_T11 : u_T := fun k => match k with
  | 0 => ("LoadBook", "text", "LLoadBook$Text;", true)
  | 1 => ("LoadBook", "out", "LLoadBook$Text;", true)
  | 2 => ("LoadBook", "machine", "LLoadBook$Machine;", true)
  | 3 => ("LoadBook", "cells", "[LLoadBook$Cell;", true)
  | 4 => ("LoadBook", "functions", "[LLoadBook$Code;", true)
  | 5 => ("LoadBook", "sheets", "[LLoadBook$Sheet;", true)
  | 6 => ("LoadBook", "parser", "LLoadBook$Parser;", true)
  | 7 => ("LoadBook", "plan", "LLoadBook$Plan;", true)
  | 8 => ("LoadBook", "oldStates", "[B", true)
  | 9 => ("LoadBook", "oldValues", "[J", true)
  | 10 => ("LoadBook", "functionCount", "I", false)
  | 11 => ("LoadBook", "formulaCount", "I", false)
  | 12 => ("LoadBook", "editions", "I", false)
  | _ => ("LoadBook", "faultPlace", "I", false)
def am_y11 : Nat → FieldType := fun k => match k with
  | 0 => (.object "LoadBook$Text")
  | 1 => (.object "LoadBook$Text")
  | 2 => (.object "LoadBook$Machine")
  | 3 => (.array (.object "LoadBook$Cell"))
  | 4 => (.array (.object "LoadBook$Code"))
  | 5 => (.array (.object "LoadBook$Sheet"))
  | 6 => (.object "LoadBook$Parser")
  | 7 => (.object "LoadBook$Plan")
  | 8 => (.array .byte)
  | 9 => (.array .long)
  | 10 => .int
  | 11 => .int
  | 12 => .int
  | _ => .int
def am_T12 : u_T := fun k => match k with
  | 0 => ("LoadBookModel", "text", "[I", true)
  | 1 => ("LoadBookModel", "out", "[I", true)
  | 2 => ("LoadBookModel", "size", "I", false)
  | 3 => ("LoadBookModel", "outSize", "I", false)
  | 4 => ("LoadBookModel", "faultPlace", "I", false)
  | 5 => ("LoadBookModel", "kind", "[I", true)
  | 6 => ("LoadBookModel", "a", "[I", true)
  | 7 => ("LoadBookModel", "b", "[I", true)
  | 8 => ("LoadBookModel", "c", "[I", true)
  | 9 => ("LoadBookModel", "root", "[I", true)
  | 10 => ("LoadBookModel", "whole", "[J", true)
  | 11 => ("LoadBookModel", "functionName", "[J", true)
  | 12 => ("LoadBookModel", "constantName", "[J", true)
  | 13 => ("LoadBookModel", "argumentName", "[J", true)
  | 14 => ("LoadBookModel", "functionTakes", "[I", true)
  | 15 => ("LoadBookModel", "constants", "[I", true)
  | 16 => ("LoadBookModel", "functions", "I", false)
  | 17 => ("LoadBookModel", "at", "I", false)
  | 18 => ("LoadBookModel", "token", "I", false)
  | 19 => ("LoadBookModel", "from", "I", false)
  | 20 => ("LoadBookModel", "sign", "I", false)
  | 21 => ("LoadBookModel", "length", "I", false)
  | 22 => ("LoadBookModel", "fault", "I", false)
  | 23 => ("LoadBookModel", "firstWrong", "I", false)
  | 24 => ("LoadBookModel", "wrongNumber", "I", false)
  | 25 => ("LoadBookModel", "parts", "I", false)
  | 26 => ("LoadBookModel", "open", "I", false)
  | 27 => ("LoadBookModel", "nodes", "I", false)
  | 28 => ("LoadBookModel", "what", "I", false)
  | 29 => ("LoadBookModel", "sheet", "I", false)
  | 30 => ("LoadBookModel", "self", "I", false)
  | 31 => ("LoadBookModel", "takes", "I", false)
  | 32 => ("LoadBookModel", "selfName", "J", false)
  | 33 => ("LoadBookModel", "argumentTemp", "[J", true)
  | 34 => ("LoadBookModel", "manyNodes", "[I", true)
  | 35 => ("LoadBookModel", "state", "[I", true)
  | 36 => ("LoadBookModel", "failKind", "[I", true)
  | 37 => ("LoadBookModel", "failFirst", "[I", true)
  | 38 => ("LoadBookModel", "failCause", "[I", true)
  | 39 => ("LoadBookModel", "slotOf", "[I", true)
  | 40 => ("LoadBookModel", "valueLong", "[J", true)
  | 41 => ("LoadBookModel", "valueReal", "[D", true)
  | 42 => ("LoadBookModel", "reads", "[I", true)
  | 43 => ("LoadBookModel", "readMany", "[I", true)
  | 44 => ("LoadBookModel", "slotUsed", "[Z", true)
  | 45 => ("LoadBookModel", "told", "[Z", true)
  | 46 => ("LoadBookModel", "formulaTold", "[Z", true)
  | 47 => ("LoadBookModel", "functionTold", "[Z", true)
  | 48 => ("LoadBookModel", "sheetTold", "[Z", true)
  | 49 => ("LoadBookModel", "formulas", "I", false)
  | 50 => ("LoadBookModel", "constantState", "[I", true)
  | 51 => ("LoadBookModel", "constantKind", "[I", true)
  | 52 => ("LoadBookModel", "spoiled", "[I", true)
  | 53 => ("LoadBookModel", "workedOut", "[I", true)
  | 54 => ("LoadBookModel", "constantLong", "[J", true)
  | 55 => ("LoadBookModel", "constantReal", "[D", true)
  | 56 => ("LoadBookModel", "steps", "I", false)
  | 57 => ("LoadBookModel", "deep", "I", false)
  | 58 => ("LoadBookModel", "reader", "I", false)
  | 59 => ("LoadBookModel", "type", "I", false)
  | 60 => ("LoadBookModel", "fKind", "I", false)
  | 61 => ("LoadBookModel", "fFirst", "I", false)
  | 62 => ("LoadBookModel", "fCause", "I", false)
  | 63 => ("LoadBookModel", "fRead", "Z", false)
  | 64 => ("LoadBookModel", "isSpent", "Z", false)
  | 65 => ("LoadBookModel", "vLong", "J", false)
  | 66 => ("LoadBookModel", "vReal", "D", false)
  | 67 => ("LoadBookModel", "argumentType", "[I", true)
  | 68 => ("LoadBookModel", "argumentLong", "[J", true)
  | 69 => ("LoadBookModel", "argumentReal", "[D", true)
  | 70 => ("LoadBookModel", "argumentTop", "I", false)
  | 71 => ("LoadBookModel", "left", "[D", true)
  | 72 => ("LoadBookModel", "right", "[D", true)
  | 73 => ("LoadBookModel", "needed", "[Z", true)
  | 74 => ("LoadBookModel", "isDone", "[Z", true)
  | 75 => ("LoadBookModel", "changed", "[Z", true)
  | 76 => ("LoadBookModel", "reaches", "[Z", true)
  | 77 => ("LoadBookModel", "doneList", "[I", true)
  | 78 => ("LoadBookModel", "cycleOf", "[I", true)
  | 79 => ("LoadBookModel", "marks", "[I", true)
  | 80 => ("LoadBookModel", "stack", "[I", true)
  | 81 => ("LoadBookModel", "doneMany", "I", false)
  | 82 => ("LoadBookModel", "cycles", "I", false)
  | 83 => ("LoadBookModel", "needMany", "I", false)
  | 84 => ("LoadBookModel", "needList", "[I", true)
  | 85 => ("LoadBookModel", "wayTo", "[Z", true)
  | 86 => ("LoadBookModel", "editions", "I", false)
  | 87 => ("LoadBookModel", "oldState", "[I", true)
  | _ => ("LoadBookModel", "oldValue", "[J", true)
def am_y12 : Nat → FieldType := fun k => match k with
  | 0 => (.array .int)
  | 1 => (.array .int)
  | 2 => .int
  | 3 => .int
  | 4 => .int
  | 5 => (.array .int)
  | 6 => (.array .int)
  | 7 => (.array .int)
  | 8 => (.array .int)
  | 9 => (.array .int)
  | 10 => (.array .long)
  | 11 => (.array .long)
  | 12 => (.array .long)
  | 13 => (.array .long)
  | 14 => (.array .int)
  | 15 => (.array .int)
  | 16 => .int
  | 17 => .int
  | 18 => .int
  | 19 => .int
  | 20 => .int
  | 21 => .int
  | 22 => .int
  | 23 => .int
  | 24 => .int
  | 25 => .int
  | 26 => .int
  | 27 => .int
  | 28 => .int
  | 29 => .int
  | 30 => .int
  | 31 => .int
  | 32 => .long
  | 33 => (.array .long)
  | 34 => (.array .int)
  | 35 => (.array .int)
  | 36 => (.array .int)
  | 37 => (.array .int)
  | 38 => (.array .int)
  | 39 => (.array .int)
  | 40 => (.array .long)
  | 41 => (.array .double)
  | 42 => (.array .int)
  | 43 => (.array .int)
  | 44 => (.array .boolean)
  | 45 => (.array .boolean)
  | 46 => (.array .boolean)
  | 47 => (.array .boolean)
  | 48 => (.array .boolean)
  | 49 => .int
  | 50 => (.array .int)
  | 51 => (.array .int)
  | 52 => (.array .int)
  | 53 => (.array .int)
  | 54 => (.array .long)
  | 55 => (.array .double)
  | 56 => .int
  | 57 => .int
  | 58 => .int
  | 59 => .int
  | 60 => .int
  | 61 => .int
  | 62 => .int
  | 63 => .boolean
  | 64 => .boolean
  | 65 => .long
  | 66 => .double
  | 67 => (.array .int)
  | 68 => (.array .long)
  | 69 => (.array .double)
  | 70 => .int
  | 71 => (.array .double)
  | 72 => (.array .double)
  | 73 => (.array .boolean)
  | 74 => (.array .boolean)
  | 75 => (.array .boolean)
  | 76 => (.array .boolean)
  | 77 => (.array .int)
  | 78 => (.array .int)
  | 79 => (.array .int)
  | 80 => (.array .int)
  | 81 => .int
  | 82 => .int
  | 83 => .int
  | 84 => (.array .int)
  | 85 => (.array .boolean)
  | 86 => .int
  | 87 => (.array .int)
  | _ => (.array .long)
def am_T13 : u_T := fun k => match k with
  | _ => ("", "", "", false)
def am_y13 : Nat → FieldType := fun k => match k with
  | _ => .int
def am_T14 : u_T := fun k => match k with
  | 0 => ("java/lang/String", "value", "[B", true)
  | _ => ("java/lang/String", "coder", "B", true)
def am_y14 : Nat → FieldType := fun k => match k with
  | 0 => (.array .byte)
  | _ => .byte
def am_T15 : u_T := fun k => match k with
  | _ => ("", "", "", false)
def am_y15 : Nat → FieldType := fun k => match k with
  | _ => .int
def am_T16 : u_T := fun k => match k with
  | _ => ("", "", "", false)
def am_y16 : Nat → FieldType := fun k => match k with
  | _ => .int
def am_T17 : u_T := fun k => match k with
  | _ => ("", "", "", false)
def am_y17 : Nat → FieldType := fun k => match k with
  | _ => .int
def am_TL : List (Nat × u_T × (Nat → FieldType)) := [(10, am_T0, am_y0), (12, am_T1, am_y1), (8, am_T2, am_y2), (10, am_T3, am_y3), (17, am_T4, am_y4), (4, am_T5, am_y5), (13, am_T6, am_y6), (13, am_T7, am_y7), (0, am_T8, am_y8), (5, am_T9, am_y9), (2, am_T10, am_y10), (14, am_T11, am_y11), (89, am_T12, am_y12), (0, am_T13, am_y13), (2, am_T14, am_y14), (0, am_T15, am_y15), (0, am_T16, am_y16), (0, am_T17, am_y17)]
def am_nF (c : Nat) : Nat := (am_TL.getD c (0, am_T8, am_y8)).1
def am_T (c : Nat) : u_T := (am_TL.getD c (0, am_T8, am_y8)).2.1
def am_fT (c : Nat) : Nat → FieldType := (am_TL.getD c (0, am_T8, am_y8)).2.2
def am_mt : List (Nat × String × String × ByteArray × Nat × Option FieldType) := [
  (0, "<init>", "()V", prog_2_method_1_code, 1, none),
  (0, "setLong", "(J)V", prog_2_method_4_code, 3, none),
  (0, "setDouble", "(D)V", prog_2_method_5_code, 3, none),
  (0, "setBare", "(I)V", prog_2_method_3_code, 2, none),
  (0, "makeReads", "()V", prog_2_method_2_code, 1, none),
  (0, "addRead", "(I)V", prog_2_method_9_code, 2, none),
  (0, "isBroken", "()Z", prog_2_method_7_code, 1, (some .boolean)),
  (0, "setFailed", "(IIII)V", prog_2_method_6_code, 5, none),
  (0, "shownValue", "()J", prog_2_method_8_code, 1, (some .long)),
  (1, "<init>", "(III)V", prog_3_method_1_code, 4, none),
  (1, "restart", "()V", prog_3_method_2_code, 2, none),
  (1, "add", "(IJ)I", prog_3_method_3_code, 4, (some .int)),
  (1, "addNeed", "(I)V", prog_3_method_6_code, 2, none),
  (1, "hasNeed", "(I)Z", prog_3_method_7_code, 2, (some .boolean)),
  (1, "aim", "(I)V", prog_3_method_5_code, 2, none),
  (1, "rangeSize", "(I)I", prog_3_method_8_code, 3, (some .int)),
  (1, "rangeCell", "(II)I", prog_3_method_9_code, 4, (some .int)),
  (1, "insertStep", "(I)V", prog_3_method_4_code, 3, none),
  (1, "kept", "()LLoadBook$Code;", prog_3_method_10_code, 2, (some (.object "LoadBook$Code"))),
  (2, "<init>", "()V", prog_4_method_1_code, 1, none),
  (3, "<init>", "()V", prog_5_method_1_code, 1, none),
  (3, "begin", "(LLoadBook$Text;)V", prog_5_method_2_code, 2, none),
  (3, "advance", "()V", prog_5_method_4_code, 2, none),
  (3, "isLetter", "(I)Z", prog_5_method_5_code, 1, (some .boolean)),
  (3, "readName", "()V", prog_5_method_7_code, 1, none),
  (3, "refuse", "(I)V", prog_5_method_3_code, 2, none),
  (3, "isDigit", "(I)Z", prog_5_method_6_code, 1, (some .boolean)),
  (3, "readDigits", "()V", prog_5_method_8_code, 2, none),
  (3, "readRun", "()I", prog_5_method_9_code, 2, (some .int)),
  (3, "readRef", "(I)V", prog_5_method_10_code, 4, none),
  (3, "readSign", "(I)V", prog_5_method_11_code, 3, none),
  (4, "<init>", "()V", prog_6_method_1_code, 2, none),
  (4, "workOut", "(LLoadBook$Cell;ILLoadBook$Sheet;)V", prog_6_method_2_code, 7, none),
  (4, "begin", "(LLoadBook$Cell;LLoadBook$Sheet;)V", prog_6_method_3_code, 3, none),
  (4, "leave", "(LLoadBook$Frame;)V", prog_6_method_14_code, 2, none),
  (4, "goOnWithRoot", "(LLoadBook$Frame;)V", prog_6_method_17_code, 4, none),
  (4, "askForRoot", "(LLoadBook$Frame;D)V", prog_6_method_16_code, 4, none),
  (4, "tookStep", "()Z", prog_6_method_6_code, 1, (some .boolean)),
  (4, "enter", "(LLoadBook$Frame;I)V", prog_6_method_13_code, 3, none),
  (4, "halve", "(LLoadBook$Frame;)V", prog_6_method_18_code, 4, none),
  (4, "obey", "(LLoadBook$Frame;IJ)V", prog_6_method_7_code, 5, none),
  (4, "pushAtom", "(LLoadBook$Frame;IJ)V", prog_6_method_8_code, 5, none),
  (4, "readCell", "(IZ)Z", prog_6_method_10_code, 4, (some .boolean)),
  (4, "pushConstant", "(I)V", prog_6_method_11_code, 3, none),
  (4, "call", "(II)V", prog_6_method_12_code, 4, none),
  (4, "beginRoot", "(I)V", prog_6_method_15_code, 3, none),
  (4, "jump", "(LLoadBook$Frame;II)V", prog_6_method_9_code, 4, none),
  (4, "fold", "(II)V", prog_6_method_19_code, 6, none),
  (4, "pick", "(I)V", prog_6_method_20_code, 4, none),
  (4, "line", "(II)V", prog_6_method_23_code, 7, none),
  (4, "fill", "([DI)I", prog_6_method_21_code, 5, (some .int)),
  (4, "isTable", "(II)Z", prog_6_method_22_code, 3, (some .boolean)),
  (4, "between", "(DI)V", prog_6_method_24_code, 11, none),
  (4, "area", "(II)V", prog_6_method_25_code, 13, none),
  (4, "recover", "()V", prog_6_method_5_code, 1, none),
  (4, "settle", "(I)V", prog_6_method_4_code, 2, none),
  (5, "<init>", "()V", prog_7_method_1_code, 1, none),
  (5, "dropUnder", "(I)V", prog_7_method_5_code, 3, none),
  (5, "popDouble", "()D", prog_7_method_7_code, 1, (some .double)),
  (5, "realAt", "(I)D", prog_7_method_6_code, 2, (some .double)),
  (5, "pushDouble", "(D)V", prog_7_method_3_code, 3, none),
  (5, "pushLong", "(J)V", prog_7_method_2_code, 3, none),
  (5, "pushCopy", "(I)V", prog_7_method_4_code, 2, none),
  (5, "negate", "()V", prog_7_method_11_code, 1, none),
  (5, "topIsLong", "()Z", prog_7_method_8_code, 1, (some .boolean)),
  (5, "popLong", "()J", prog_7_method_9_code, 1, (some .long)),
  (5, "popZero", "()Z", prog_7_method_10_code, 1, (some .boolean)),
  (5, "plus", "()I", prog_7_method_15_code, 3, (some .int)),
  (5, "pushFinite", "(D)I", prog_7_method_18_code, 3, (some .int)),
  (5, "keepBetter", "(Z)V", prog_7_method_12_code, 3, none),
  (5, "isLess", "(II)Z", prog_7_method_13_code, 3, (some .boolean)),
  (5, "combine", "(I)I", prog_7_method_14_code, 4, (some .int)),
  (5, "combineReals", "(IDD)I", prog_7_method_17_code, 6, (some .int)),
  (5, "combineWholes", "(IJJ)I", prog_7_method_16_code, 6, (some .int)),
  (6, "<init>", "([LLoadBook$Code;)V", prog_8_method_1_code, 2, none),
  (6, "readFormula", "(LLoadBook$Text;LLoadBook$Sheet;)I", prog_8_method_2_code, 3, (some .int)),
  (6, "begin", "(LLoadBook$Text;I)V", prog_8_method_5_code, 3, none),
  (6, "level", "(I)V", prog_8_method_22_code, 7, none),
  (6, "atom", "()V", prog_8_method_23_code, 1, none),
  (6, "minus", "()V", prog_8_method_24_code, 1, none),
  (6, "tellStep", "()V", prog_8_method_18_code, 1, none),
  (6, "tellPart", "()V", prog_8_method_17_code, 1, none),
  (6, "tellOpen", "()V", prog_8_method_19_code, 1, none),
  (6, "group", "()V", prog_8_method_25_code, 1, none),
  (6, "expect", "(I)V", prog_8_method_13_code, 2, none),
  (6, "copyDigits", "()V", prog_8_method_16_code, 2, none),
  (6, "copyToken", "(I)V", prog_8_method_15_code, 3, none),
  (6, "ref", "()V", prog_8_method_26_code, 1, none),
  (6, "later", "(II)V", prog_8_method_7_code, 3, none),
  (6, "nameOrCall", "()V", prog_8_method_27_code, 5, none),
  (6, "wordOf", "(J)I", prog_8_method_12_code, 3, (some .int)),
  (6, "resolveName", "(JI)V", prog_8_method_28_code, 5, none),
  (6, "findArgument", "(J)I", prog_8_method_9_code, 4, (some .int)),
  (6, "pass", "(I)V", prog_8_method_14_code, 2, none),
  (6, "callFunction", "(JI)V", prog_8_method_29_code, 5, none),
  (6, "resolveFunction", "(JII)I", prog_8_method_30_code, 8, (some .int)),
  (6, "callWord", "(I)V", prog_8_method_31_code, 4, none),
  (6, "choice", "()V", prog_8_method_32_code, 3, none),
  (6, "attempt", "()V", prog_8_method_33_code, 3, none),
  (6, "range", "()I", prog_8_method_36_code, 6, (some .int)),
  (6, "rangeEnd", "()I", prog_8_method_37_code, 2, (some .int)),
  (6, "isSound", "(II)Z", prog_8_method_38_code, 2, (some .boolean)),
  (6, "table", "(I)V", prog_8_method_35_code, 6, none),
  (6, "root", "()V", prog_8_method_34_code, 4, none),
  (6, "plainName", "()J", prog_8_method_11_code, 3, (some .long)),
  (6, "rankOf", "(I)I", prog_8_method_20_code, 1, (some .int)),
  (6, "orderOf", "(I)I", prog_8_method_21_code, 1, (some .int)),
  (6, "end", "()I", prog_8_method_6_code, 1, (some .int)),
  (6, "readFunction", "(LLoadBook$Text;)I", prog_8_method_4_code, 3, (some .int)),
  (6, "readArgument", "()V", prog_8_method_8_code, 4, none),
  (6, "findOwnNumber", "(I)V", prog_8_method_10_code, 3, none),
  (6, "readConstant", "(LLoadBook$Text;LLoadBook$Sheet;)I", prog_8_method_3_code, 4, (some .int)),
  (7, "<init>", "()V", prog_9_method_1_code, 1, none),
  (7, "draw", "([LLoadBook$Cell;)V", prog_9_method_2_code, 4, none),
  (7, "linksOf", "(LLoadBook$Code;)J", prog_9_method_3_code, 5, (some .long)),
  (7, "hasBit", "(JI)Z", prog_9_method_4_code, 3, (some .boolean)),
  (7, "findRings", "()V", prog_9_method_5_code, 4, none),
  (7, "mark", "([LLoadBook$Cell;II)V", prog_9_method_7_code, 8, none),
  (7, "isStale", "([LLoadBook$Cell;LLoadBook$Cell;I)Z", prog_9_method_8_code, 6, (some .boolean)),
  (7, "next", "()I", prog_9_method_9_code, 5, (some .int)),
  (7, "ringCell", "(II)I", prog_9_method_6_code, 3, (some .int)),
  (8, "shifted", "(JI)D", prog_10_method_4_code, 6, (some .double)),
  (8, "bitsOf", "(D)J", prog_10_method_7_code, 7, (some .long)),
  (8, "isNegative", "(D)Z", prog_10_method_3_code, 2, (some .boolean)),
  (8, "exponentOf", "(D)I", prog_10_method_5_code, 6, (some .int)),
  (8, "scaled", "(DI)D", prog_10_method_6_code, 6, (some .double)),
  (8, "isInfinite", "(D)Z", prog_10_method_2_code, 2, (some .boolean)),
  (8, "remainder", "(DD)D", prog_10_method_8_code, 16, (some .double)),
  (9, "<init>", "()V", prog_11_method_1_code, 2, none),
  (9, "find", "(JI)I", prog_11_method_2_code, 6, (some .int)),
  (9, "tell", "(ILLoadBook$Code;)V", prog_11_method_3_code, 3, none),
  (9, "isChanged", "(I)Z", prog_11_method_4_code, 5, (some .boolean)),
  (9, "beginAnew", "()V", prog_11_method_5_code, 2, none),
  (10, "<init>", "(I)V", prog_12_method_1_code, 2, none),
  (10, "add", "(I)V", prog_12_method_3_code, 2, none),
  (10, "at", "(I)I", prog_12_method_2_code, 2, (some .int)),
  (10, "insert", "(II)V", prog_12_method_4_code, 4, none),
  (10, "become", "(LLoadBook$Text;)V", prog_12_method_5_code, 3, none),
  (11, "<init>", "()V", prog_1_method_1_code, 2, none),
  (11, "type", "(J)I", prog_1_method_2_code, 6, (some .int)),
  (11, "wipe", "()I", prog_1_method_3_code, 2, (some .int)),
  (11, "whole", "(IJ)I", prog_1_method_4_code, 4, (some .int)),
  (11, "noCell", "(I)Z", prog_1_method_26_code, 1, (some .boolean)),
  (11, "tellPlainly", "(I)LLoadBook$Cell;", prog_1_method_27_code, 3, (some (.object "LoadBook$Cell"))),
  (11, "number", "(IJI)I", prog_1_method_5_code, 5, (some .int)),
  (11, "empty", "(I)I", prog_1_method_6_code, 2, (some .int)),
  (11, "formula", "(I)I", prog_1_method_7_code, 4, (some .int)),
  (11, "endText", "()V", prog_1_method_28_code, 1, none),
  (11, "function", "()I", prog_1_method_8_code, 4, (some .int)),
  (11, "constant", "(I)I", prog_1_method_9_code, 5, (some .int)),
  (11, "fault", "()I", prog_1_method_10_code, 1, (some .int)),
  (11, "print", "(I)I", prog_1_method_11_code, 3, (some .int)),
  (11, "sign", "(I)I", prog_1_method_12_code, 2, (some .int)),
  (11, "take", "()I", prog_1_method_13_code, 1, (some .int)),
  (11, "recalculate", "()I", prog_1_method_14_code, 7, (some .int)),
  (11, "staleFunctions", "()I", prog_1_method_29_code, 4, (some .int)),
  (11, "workConstants", "(I)I", prog_1_method_30_code, 7, (some .int)),
  (11, "forgetTold", "()V", prog_1_method_31_code, 2, none),
  (11, "keepEdition", "()V", prog_1_method_32_code, 3, none),
  (11, "state", "(I)I", prog_1_method_15_code, 2, (some .int)),
  (11, "value", "(I)J", prog_1_method_16_code, 2, (some .long)),
  (11, "failure", "(II)I", prog_1_method_17_code, 4, (some .int)),
  (11, "done", "(I)I", prog_1_method_18_code, 2, (some .int)),
  (11, "needs", "(II)I", prog_1_method_19_code, 4, (some .int)),
  (11, "neededBy", "(II)I", prog_1_method_20_code, 6, (some .int)),
  (11, "cycle", "(II)I", prog_1_method_21_code, 3, (some .int)),
  (11, "trace", "(II)I", prog_1_method_22_code, 4, (some .int)),
  (11, "named", "(III)J", prog_1_method_23_code, 6, (some .long)),
  (11, "old", "(III)J", prog_1_method_24_code, 5, (some .long)),
  (11, "count", "(I)I", prog_1_method_25_code, 2, (some .int)),
  (12, "<init>", "()V", prog_14_method_1_code, 1, none),
  (12, "fresh", "(I)[I", prog_14_method_47_code, 3, (some (.array .int))),
  (12, "type", "(J)I", prog_14_method_2_code, 6, (some .int)),
  (12, "wipe", "()I", prog_14_method_3_code, 2, (some .int)),
  (12, "print", "(I)I", prog_14_method_44_code, 2, (some .int)),
  (12, "isCell", "(I)Z", prog_14_method_48_code, 1, (some .boolean)),
  (12, "putNode", "(III)V", prog_14_method_42_code, 5, none),
  (12, "putNumber", "(JI)V", prog_14_method_39_code, 7, none),
  (12, "put", "(I)V", prog_14_method_36_code, 2, none),
  (12, "putCell", "(I)V", prog_14_method_38_code, 2, none),
  (12, "putName", "(J)V", prog_14_method_37_code, 6, none),
  (12, "putSign", "(I)V", prog_14_method_40_code, 2, none),
  (12, "putCall", "(III)V", prog_14_method_43_code, 4, none),
  (12, "putWord", "(I)V", prog_14_method_41_code, 3, none),
  (12, "sign", "(I)I", prog_14_method_45_code, 2, (some .int)),
  (12, "take", "()I", prog_14_method_46_code, 2, (some .int)),
  (12, "whole", "(IJ)I", prog_14_method_50_code, 4, (some .int)),
  (12, "noFormula", "(I)V", prog_14_method_49_code, 2, none),
  (12, "number", "(IJI)I", prog_14_method_52_code, 5, (some .int)),
  (12, "power", "(I)D", prog_14_method_51_code, 4, (some .double)),
  (12, "empty", "(I)I", prog_14_method_53_code, 2, (some .int)),
  (12, "formula", "(I)I", prog_14_method_54_code, 3, (some .int)),
  (12, "read", "()I", prog_14_method_33_code, 2, (some .int)),
  (12, "next", "()V", prog_14_method_9_code, 2, none),
  (12, "byteAt", "(I)I", prog_14_method_4_code, 2, (some .int)),
  (12, "isLetter", "(I)Z", prog_14_method_5_code, 1, (some .boolean)),
  (12, "stop", "(II)V", prog_14_method_7_code, 3, none),
  (12, "isDigit", "(I)Z", prog_14_method_6_code, 1, (some .boolean)),
  (12, "number", "()V", prog_14_method_10_code, 2, none),
  (12, "signs", "(I)V", prog_14_method_11_code, 3, none),
  (12, "head", "()V", prog_14_method_34_code, 3, none),
  (12, "isName", "()Z", prog_14_method_17_code, 1, (some .boolean)),
  (12, "wordHere", "()I", prog_14_method_16_code, 4, (some .int)),
  (12, "need", "(Z)V", prog_14_method_13_code, 2, none),
  (12, "nameHere", "()J", prog_14_method_15_code, 4, (some .long)),
  (12, "isSign", "(I)Z", prog_14_method_12_code, 2, (some .boolean)),
  (12, "opens", "()V", prog_14_method_19_code, 1, none),
  (12, "wrong", "(II)V", prog_14_method_8_code, 3, none),
  (12, "pass", "(I)V", prog_14_method_14_code, 2, none),
  (12, "functionOf", "(J)I", prog_14_method_27_code, 4, (some .int)),
  (12, "constantOf", "(IJ)I", prog_14_method_28_code, 5, (some .int)),
  (12, "e", "()I", prog_14_method_21_code, 4, (some .int)),
  (12, "sum", "()I", prog_14_method_22_code, 4, (some .int)),
  (12, "product", "()I", prog_14_method_23_code, 4, (some .int)),
  (12, "atom", "()I", prog_14_method_25_code, 2, (some .int)),
  (12, "node", "(IIII)I", prog_14_method_20_code, 6, (some .int)),
  (12, "numberNode", "()I", prog_14_method_26_code, 6, (some .int)),
  (12, "part", "(I)V", prog_14_method_18_code, 2, none),
  (12, "cellHere", "()I", prog_14_method_24_code, 1, (some .int)),
  (12, "named", "()I", prog_14_method_30_code, 10, (some .int)),
  (12, "functionFor", "(JI)I", prog_14_method_29_code, 5, (some .int)),
  (12, "call", "(I)I", prog_14_method_32_code, 8, (some .int)),
  (12, "rows", "()I", prog_14_method_31_code, 4, (some .int)),
  (12, "copyTo", "(I)V", prog_14_method_35_code, 5, none),
  (12, "function", "()I", prog_14_method_55_code, 1, (some .int)),
  (12, "constant", "(I)I", prog_14_method_56_code, 2, (some .int)),
  (12, "fault", "()I", prog_14_method_57_code, 1, (some .int)),
  (12, "recalculate", "()I", prog_14_method_98_code, 3, (some .int)),
  (12, "findChanged", "()V", prog_14_method_90_code, 4, none),
  (12, "reach", "()V", prog_14_method_88_code, 4, none),
  (12, "calls", "(II)Z", prog_14_method_87_code, 5, (some .boolean)),
  (12, "isReached", "(I)Z", prog_14_method_89_code, 4, (some .boolean)),
  (12, "listNeeds", "(I)V", prog_14_method_84_code, 3, none),
  (12, "listNode", "(II)V", prog_14_method_86_code, 5, none),
  (12, "notes", "(I)V", prog_14_method_85_code, 2, none),
  (12, "cellsIn", "(II)I", prog_14_method_71_code, 3, (some .int)),
  (12, "cellOf", "(III)I", prog_14_method_72_code, 5, (some .int)),
  (12, "findCycles", "()V", prog_14_method_92_code, 3, none),
  (12, "mark", "(I)V", prog_14_method_91_code, 4, none),
  (12, "workConstants", "(I)V", prog_14_method_94_code, 4, none),
  (12, "begin", "(I)V", prog_14_method_93_code, 2, none),
  (12, "work", "(IIII)V", prog_14_method_64_code, 11, none),
  (12, "step", "()Z", prog_14_method_59_code, 1, (some .boolean)),
  (12, "fail", "(I)V", prog_14_method_58_code, 2, none),
  (12, "give", "(J)V", prog_14_method_60_code, 3, none),
  (12, "give", "(D)V", prog_14_method_61_code, 3, none),
  (12, "readCell", "(IZ)V", prog_14_method_63_code, 4, none),
  (12, "workName", "(IIII)V", prog_14_method_65_code, 6, none),
  (12, "two", "(IIJD)V", prog_14_method_66_code, 12, none),
  (12, "real", "()D", prog_14_method_62_code, 1, (some .double)),
  (12, "workFunction", "(IIII)V", prog_14_method_68_code, 6, none),
  (12, "push", "()V", prog_14_method_67_code, 1, none),
  (12, "enter", "(II)V", prog_14_method_69_code, 3, none),
  (12, "workRoot", "(IIII)V", prog_14_method_82_code, 14, none),
  (12, "workOf", "(ID)Z", prog_14_method_81_code, 5, (some .boolean)),
  (12, "middle", "(DD)D", prog_14_method_83_code, 7, (some .double)),
  (12, "isEndless", "(D)Z", prog_14_method_78_code, 2, (some .boolean)),
  (12, "workCall", "(IIII)V", prog_14_method_70_code, 6, none),
  (12, "overRows", "(III)V", prog_14_method_73_code, 13, none),
  (12, "isBelow", "(IJDIJD)Z", prog_14_method_74_code, 10, (some .boolean)),
  (12, "workAt", "(IIII)V", prog_14_method_75_code, 7, none),
  (12, "workTable", "(IIIII)V", prog_14_method_77_code, 12, none),
  (12, "table", "(I[D)I", prog_14_method_76_code, 5, (some .int)),
  (12, "line", "(DI)V", prog_14_method_79_code, 13, none),
  (12, "area", "(I)V", prog_14_method_80_code, 9, none),
  (12, "isReady", "(I)Z", prog_14_method_97_code, 4, (some .boolean)),
  (12, "does", "(I)V", prog_14_method_96_code, 2, none),
  (12, "failed", "(IIIII)V", prog_14_method_95_code, 6, none),
  (12, "value", "(I)J", prog_14_method_100_code, 2, (some .long)),
  (12, "state", "(I)I", prog_14_method_99_code, 2, (some .int)),
  (12, "failure", "(II)I", prog_14_method_101_code, 3, (some .int)),
  (12, "done", "(I)I", prog_14_method_102_code, 2, (some .int)),
  (12, "needs", "(II)I", prog_14_method_103_code, 3, (some .int)),
  (12, "neededBy", "(II)I", prog_14_method_104_code, 5, (some .int)),
  (12, "cycle", "(II)I", prog_14_method_105_code, 7, (some .int)),
  (12, "trace", "(II)I", prog_14_method_106_code, 3, (some .int)),
  (12, "named", "(III)J", prog_14_method_107_code, 5, (some .long)),
  (12, "old", "(III)J", prog_14_method_108_code, 5, (some .long)),
  (12, "count", "(I)I", prog_14_method_109_code, 2, (some .int)),
  (14, "charAt", "(I)C", prog_17_method_56_code, 2, (some .char)),
  (14, "isLatin1", "()Z", prog_17_method_154_code, 1, (some .boolean)),
  (15, "charAt", "([BI)C", prog_18_method_2_code, 2, (some .char)),
  (17, "doubleToLongBits", "(D)J", prog_15_method_23_code, 2, (some .long)),
  (17, "isNaN", "(D)Z", prog_15_method_6_code, 2, (some .boolean)),
  (13, "law", "([I)Z", code, 4, some .boolean)]
def am_fk : List (Nat × Nat × Nat × Nat) := [(10, 15, 10, 0), (3, 80, 10, 0), (10, 21, 10, 1), (1, 54, 10, 1), (11, 75, 10, 1), (3, 34, 10, 1), (6, 181, 10, 1), (5, 11, 5, 0), (5, 15, 5, 1), (5, 19, 5, 2), (5, 23, 5, 3), (4, 115, 5, 3), (0, 19, 0, 0), (11, 105, 0, 0), (4, 233, 0, 0), (0, 22, 0, 1), (4, 236, 0, 1), (0, 26, 0, 2), (4, 240, 0, 2), (7, 38, 0, 3), (9, 22, 0, 3), (4, 127, 0, 3), (11, 118, 0, 3), (4, 131, 0, 4), (0, 40, 0, 4), (11, 236, 0, 4), (4, 132, 0, 5), (0, 43, 0, 5), (11, 239, 0, 5), (4, 135, 0, 6), (0, 46, 0, 6), (11, 242, 0, 6), (11, 137, 0, 7), (7, 78, 0, 7), (0, 15, 0, 8), (11, 262, 0, 8), (0, 9, 0, 9), (4, 108, 0, 9), (11, 202, 0, 9), (4, 68, 2, 0), (4, 72, 2, 1), (4, 128, 2, 2), (4, 253, 2, 3), (4, 269, 2, 4), (4, 266, 2, 5), (4, 279, 2, 6), (4, 276, 2, 7), (4, 13, 4, 0), (11, 28, 4, 0), (4, 19, 4, 1), (11, 33, 4, 1), (4, 26, 4, 2), (4, 32, 4, 3), (4, 36, 4, 4), (4, 40, 4, 5), (4, 43, 4, 6), (4, 46, 4, 7), (4, 50, 4, 8), (4, 118, 4, 9), (4, 64, 4, 10), (4, 121, 4, 11), (4, 60, 4, 12), (4, 94, 4, 13), (4, 124, 4, 14), (4, 104, 4, 15), (4, 111, 4, 16), (3, 15, 3, 0), (6, 154, 3, 0), (3, 19, 3, 1), (6, 151, 3, 1), (3, 22, 3, 2), (6, 87, 3, 2), (3, 31, 3, 3), (6, 78, 3, 3), (3, 63, 3, 4), (6, 135, 3, 4), (3, 70, 3, 5), (6, 203, 3, 5), (3, 73, 3, 6), (6, 209, 3, 6), (3, 86, 3, 7), (6, 221, 3, 7), (3, 25, 3, 8), (6, 117, 3, 8), (3, 9, 3, 9), (6, 120, 3, 9), (11, 288, 3, 9), (1, 21, 1, 0), (4, 82, 1, 0), (1, 25, 1, 1), (4, 86, 1, 1), (1, 33, 1, 2), (11, 173, 1, 2), (6, 142, 1, 2), (1, 37, 1, 3), (7, 88, 1, 3), (11, 252, 1, 3), (1, 9, 1, 4), (1, 41, 1, 5), (4, 75, 1, 5), (6, 180, 1, 5), (1, 45, 1, 6), (7, 85, 1, 6), (11, 249, 1, 6), (1, 48, 1, 7), (11, 141, 1, 7), (6, 168, 1, 7), (1, 51, 1, 8), (9, 46, 1, 8), (7, 82, 1, 8), (11, 291, 1, 8), (6, 244, 1, 8), (9, 26, 1, 9), (11, 158, 1, 9), (6, 131, 1, 9), (11, 164, 1, 10), (6, 134, 1, 10), (11, 165, 1, 11), (6, 14, 6, 0), (11, 284, 6, 0), (6, 23, 6, 1), (11, 125, 6, 1), (6, 31, 6, 2), (6, 27, 6, 3), (6, 84, 6, 4), (11, 161, 6, 4), (6, 96, 6, 5), (6, 39, 6, 6), (6, 49, 6, 7), (6, 64, 6, 8), (11, 154, 6, 8), (6, 75, 6, 9), (11, 148, 6, 9), (6, 99, 6, 10), (6, 102, 6, 11), (6, 105, 6, 12), (7, 9, 7, 0), (7, 15, 7, 1), (7, 19, 7, 2), (7, 22, 7, 3), (7, 25, 7, 4), (7, 28, 7, 5), (7, 31, 7, 6), (11, 245, 7, 6), (7, 34, 7, 7), (7, 75, 7, 8), (7, 64, 7, 9), (7, 61, 7, 10), (11, 281, 7, 10), (7, 68, 7, 11), (11, 225, 7, 11), (7, 97, 7, 12), (11, 205, 7, 12), (9, 11, 9, 0), (4, 250, 9, 0), (11, 270, 9, 0), (9, 18, 9, 1), (6, 43, 9, 1), (4, 247, 9, 1), (11, 267, 9, 1), (9, 42, 9, 2), (9, 49, 9, 3), (11, 212, 9, 3), (9, 52, 9, 4), (11, 278, 9, 4), (11, 14, 11, 0), (11, 18, 11, 1), (11, 24, 11, 2), (11, 32, 11, 3), (11, 37, 11, 4), (11, 40, 11, 5), (11, 49, 11, 6), (11, 56, 11, 7), (11, 60, 11, 8), (11, 64, 11, 9), (11, 151, 11, 10), (11, 122, 11, 11), (11, 273, 11, 12), (11, 68, 11, 13), (12, 9, 12, 0), (12, 13, 12, 1), (12, 179, 12, 2), (12, 354, 12, 3), (12, 16, 12, 4), (12, 20, 12, 5), (12, 23, 12, 6), (12, 26, 12, 7), (12, 29, 12, 8), (12, 32, 12, 9), (12, 35, 12, 10), (12, 39, 12, 11), (12, 42, 12, 12), (12, 45, 12, 13), (12, 48, 12, 14), (12, 51, 12, 15), (12, 310, 12, 16), (12, 194, 12, 17), (12, 204, 12, 18), (12, 201, 12, 19), (12, 225, 12, 20), (12, 182, 12, 21), (12, 185, 12, 22), (12, 188, 12, 23), (12, 191, 12, 24), (12, 254, 12, 25), (12, 257, 12, 26), (12, 260, 12, 27), (12, 291, 12, 28), (12, 331, 12, 29), (12, 320, 12, 30), (12, 317, 12, 31), (12, 313, 12, 32), (12, 54, 12, 33), (12, 57, 12, 34), (12, 60, 12, 35), (12, 63, 12, 36), (12, 66, 12, 37), (12, 69, 12, 38), (12, 76, 12, 39), (12, 79, 12, 40), (12, 82, 12, 41), (12, 86, 12, 42), (12, 89, 12, 43), (12, 92, 12, 44), (12, 96, 12, 45), (12, 99, 12, 46), (12, 102, 12, 47), (12, 105, 12, 48), (12, 389, 12, 49), (12, 108, 12, 50), (12, 111, 12, 51), (12, 114, 12, 52), (12, 117, 12, 53), (12, 120, 12, 54), (12, 123, 12, 55), (12, 426, 12, 56), (12, 494, 12, 57), (12, 413, 12, 58), (12, 407, 12, 59), (12, 410, 12, 60), (12, 416, 12, 61), (12, 419, 12, 62), (12, 422, 12, 63), (12, 432, 12, 64), (12, 435, 12, 65), (12, 444, 12, 66), (12, 126, 12, 67), (12, 129, 12, 68), (12, 132, 12, 69), (12, 485, 12, 70), (12, 135, 12, 71), (12, 138, 12, 72), (12, 141, 12, 73), (12, 144, 12, 74), (12, 147, 12, 75), (12, 150, 12, 76), (12, 153, 12, 77), (12, 156, 12, 78), (12, 159, 12, 79), (12, 162, 12, 80), (12, 577, 12, 81), (12, 571, 12, 82), (12, 546, 12, 83), (12, 165, 12, 84), (12, 168, 12, 85), (12, 598, 12, 86), (12, 171, 12, 87), (12, 174, 12, 88), (14, 15, 14, 1), (14, 9, 14, 0)]
def am_mk : List (Nat × Nat × Nat × Nat × Nat) := [(0, 3, 9, 0, 0), (0, 30, 2, 122, 1), (0, 36, 0, 3, 1), (1, 3, 9, 0, 0), (1, 15, 4, 0, 0), (1, 30, 1, 133, 1), (1, 55, 12, 142, 1), (1, 59, 0, 13, 1), (1, 62, 1, 9, 3), (1, 65, 8, 0, 0), (1, 71, 0, 137, 1), (2, 1, 9, 0, 0), (3, 3, 9, 0, 0), (3, 28, 0, 22, 0), (3, 39, 0, 135, 1), (3, 43, 2, 23, 1), (3, 47, 0, 24, 0), (3, 50, 2, 26, 1), (3, 53, 0, 27, 0), (3, 56, 0, 29, 1), (3, 60, 0, 30, 1), (3, 67, 0, 25, 1), (3, 76, 0, 28, 0), (4, 5, 9, 0, 0), (4, 25, 11, 56, 0), (4, 53, 11, 0, 0), (4, 54, 11, 19, 0), (4, 55, 0, 33, 2), (4, 78, 0, 34, 1), (4, 90, 0, 40, 3), (4, 97, 0, 54, 0), (4, 100, 0, 55, 1), (4, 138, 0, 7, 4), (4, 142, 0, 64, 0), (4, 146, 0, 65, 0), (4, 150, 0, 1, 1), (4, 154, 0, 58, 0), (4, 158, 0, 2, 1), (4, 162, 0, 37, 0), (4, 165, 0, 41, 3), (4, 168, 0, 63, 0), (4, 171, 0, 61, 1), (4, 174, 0, 60, 1), (4, 177, 0, 44, 2), (4, 181, 0, 45, 1), (4, 184, 0, 46, 3), (4, 188, 0, 47, 2), (4, 191, 0, 48, 1), (4, 195, 0, 49, 2), (4, 198, 0, 53, 2), (4, 201, 0, 71, 1), (4, 207, 2, 121, 2), (4, 213, 0, 42, 2), (4, 217, 0, 43, 1), (4, 220, 0, 62, 1), (4, 223, 0, 66, 0), (4, 226, 12, 142, 1), (4, 230, 0, 5, 1), (4, 244, 0, 6, 0), (4, 256, 0, 38, 2), (4, 260, 0, 57, 1), (4, 263, 0, 35, 1), (4, 272, 0, 36, 2), (4, 282, 0, 39, 1), (4, 285, 2, 126, 1), (4, 291, 2, 15, 1), (4, 294, 2, 16, 2), (4, 298, 0, 67, 0), (4, 302, 0, 69, 1), (4, 306, 0, 50, 2), (4, 310, 0, 51, 2), (4, 314, 0, 52, 2), (4, 318, 10, 68, 1), (5, 3, 9, 0, 0), (5, 27, 0, 60, 1), (5, 31, 0, 61, 1), (5, 35, 0, 59, 1), (5, 39, 0, 64, 0), (5, 43, 0, 65, 0), (5, 47, 0, 58, 0), (5, 51, 0, 70, 2), (5, 55, 0, 57, 1), (5, 61, 0, 67, 0), (5, 65, 0, 72, 3), (5, 69, 0, 73, 3), (5, 73, 0, 68, 1), (5, 77, 2, 127, 2), (5, 83, 2, 126, 1), (6, 5, 9, 0, 0), (6, 13, 11, 20, 0), (6, 20, 1, 9, 3), (6, 35, 0, 76, 2), (6, 52, 0, 77, 1), (6, 56, 0, 107, 0), (6, 60, 0, 104, 0), (6, 68, 0, 84, 1), (6, 71, 0, 129, 2), (6, 81, 0, 109, 0), (6, 90, 0, 22, 0), (6, 93, 0, 110, 1), (6, 108, 0, 10, 0), (6, 111, 0, 21, 1), (6, 114, 0, 25, 1), (6, 123, 0, 92, 1), (6, 127, 0, 88, 2), (6, 136, 2, 90, 1), (6, 146, 0, 134, 1), (6, 157, 0, 135, 1), (6, 161, 2, 26, 1), (6, 165, 0, 86, 1), (6, 171, 0, 81, 0), (6, 174, 0, 11, 2), (6, 177, 0, 78, 0), (6, 182, 2, 105, 1), (6, 185, 2, 106, 1), (6, 188, 0, 17, 1), (6, 191, 0, 136, 2), (6, 194, 0, 79, 0), (6, 197, 0, 83, 0), (6, 200, 0, 80, 0), (6, 206, 0, 85, 0), (6, 212, 0, 87, 0), (6, 215, 0, 89, 0), (6, 218, 0, 82, 0), (6, 224, 0, 12, 1), (6, 227, 0, 91, 2), (6, 231, 0, 93, 1), (6, 234, 0, 94, 2), (6, 237, 0, 96, 1), (6, 240, 0, 95, 3), (6, 247, 0, 97, 0), (6, 250, 0, 98, 0), (6, 253, 0, 99, 0), (6, 256, 0, 102, 1), (6, 259, 0, 103, 0), (6, 262, 0, 14, 1), (6, 265, 0, 100, 0), (6, 268, 2, 101, 2), (6, 272, 2, 15, 1), (6, 275, 2, 16, 2), (7, 3, 9, 0, 0), (7, 44, 0, 114, 1), (7, 48, 2, 115, 2), (7, 52, 0, 116, 0), (7, 55, 0, 13, 1), (7, 71, 2, 118, 3), (7, 93, 0, 120, 2), (8, 17, 2, 123, 1), (8, 27, 2, 124, 1), (8, 31, 2, 125, 2), (8, 37, 5, 0, 0), (9, 3, 9, 0, 0), (9, 17, 11, 0, 0), (9, 32, 0, 3, 1), (9, 36, 4, 0, 0), (10, 3, 9, 0, 0), (10, 9, 4, 0, 0), (10, 25, 0, 135, 1), (10, 29, 0, 134, 1), (11, 1, 9, 0, 0), (11, 11, 1, 133, 1), (11, 23, 1, 31, 0), (11, 46, 1, 74, 1), (11, 55, 11, 112, 0), (11, 72, 1, 128, 0), (11, 78, 0, 134, 1), (11, 81, 2, 142, 1), (11, 85, 0, 143, 1), (11, 89, 0, 1, 1), (11, 95, 2, 121, 2), (11, 101, 0, 2, 1), (11, 108, 0, 3, 1), (11, 111, 0, 75, 2), (11, 115, 0, 147, 0), (11, 128, 0, 18, 0), (11, 134, 0, 4, 0), (11, 144, 0, 108, 1), (11, 166, 0, 111, 2), (11, 169, 0, 130, 2), (11, 176, 0, 137, 1), (11, 180, 0, 135, 1), (11, 184, 0, 155, 0), (11, 188, 0, 156, 1), (11, 191, 0, 113, 1), (11, 195, 0, 117, 3), (11, 199, 0, 119, 0), (11, 208, 0, 7, 4), (11, 215, 0, 32, 3), (11, 219, 0, 157, 0), (11, 222, 0, 158, 0), (11, 228, 0, 8, 0), (11, 232, 0, 6, 0), (11, 255, 0, 13, 1), (11, 258, 0, 120, 2), (11, 294, 0, 131, 1), (11, 297, 0, 132, 0), (12, 1, 9, 0, 0), (12, 72, 2, 171, 1), (12, 197, 0, 194, 1), (12, 207, 2, 195, 1), (12, 211, 0, 196, 2), (12, 215, 2, 197, 1), (12, 218, 0, 198, 0), (12, 221, 0, 199, 1), (12, 228, 0, 205, 1), (12, 231, 0, 203, 1), (12, 235, 0, 193, 0), (12, 244, 0, 279, 1), (12, 250, 0, 202, 0), (12, 263, 0, 212, 0), (12, 266, 0, 217, 1), (12, 269, 0, 215, 4), (12, 273, 0, 213, 0), (12, 276, 0, 214, 0), (12, 279, 0, 206, 0), (12, 282, 0, 211, 0), (12, 285, 0, 208, 1), (12, 288, 0, 216, 0), (12, 294, 0, 207, 2), (12, 297, 0, 218, 0), (12, 300, 0, 219, 0), (12, 303, 0, 221, 1), (12, 323, 0, 209, 1), (12, 327, 0, 204, 0), (12, 334, 0, 210, 2), (12, 338, 0, 220, 2), (12, 342, 0, 201, 0), (12, 348, 0, 222, 0), (12, 351, 0, 200, 0), (12, 359, 0, 178, 1), (12, 362, 0, 177, 2), (12, 366, 0, 179, 1), (12, 369, 0, 180, 1), (12, 373, 0, 176, 3), (12, 377, 0, 181, 1), (12, 380, 0, 182, 3), (12, 383, 0, 183, 1), (12, 386, 2, 175, 1), (12, 392, 0, 187, 1), (12, 397, 2, 189, 1), (12, 401, 0, 192, 0), (12, 404, 0, 223, 1), (12, 429, 0, 243, 1), (12, 448, 0, 244, 1), (12, 451, 0, 245, 1), (12, 454, 0, 242, 0), (12, 457, 0, 246, 2), (12, 461, 0, 247, 4), (12, 465, 0, 241, 4), (12, 468, 0, 248, 4), (12, 472, 0, 250, 4), (12, 475, 0, 253, 4), (12, 478, 0, 257, 4), (12, 481, 0, 249, 0), (12, 488, 0, 251, 0), (12, 491, 0, 252, 2), (12, 497, 0, 258, 3), (12, 500, 0, 260, 4), (12, 503, 0, 261, 5), (12, 507, 0, 235, 2), (12, 511, 0, 236, 3), (12, 515, 2, 259, 6), (12, 519, 0, 262, 2), (12, 523, 0, 263, 2), (12, 527, 0, 264, 1), (12, 530, 2, 256, 1), (12, 536, 0, 254, 2), (12, 540, 0, 255, 2), (12, 549, 0, 233, 2), (12, 552, 0, 234, 1), (12, 555, 0, 230, 2), (12, 559, 0, 229, 0), (12, 562, 0, 231, 1), (12, 565, 0, 232, 1), (12, 568, 0, 238, 1), (12, 574, 0, 240, 1), (12, 580, 0, 267, 5), (12, 583, 0, 228, 0), (12, 586, 0, 237, 0), (12, 589, 0, 239, 1), (12, 592, 0, 265, 1), (12, 595, 0, 266, 1), (12, 601, 0, 268, 1), (12, 605, 2, 282, 1), (13, 9, 1, 138, 0), (13, 12, 1, 170, 0), (13, 15, 0, 139, 1), (13, 19, 0, 172, 1), (13, 20, 0, 140, 0), (13, 24, 0, 173, 0), (13, 25, 0, 141, 2), (13, 29, 0, 186, 2), (13, 30, 0, 144, 3), (13, 34, 0, 188, 3), (13, 35, 0, 145, 1), (13, 39, 0, 190, 1), (13, 40, 0, 146, 1), (13, 43, 0, 191, 1), (13, 44, 0, 148, 0), (13, 47, 0, 224, 0), (13, 48, 0, 149, 1), (13, 51, 0, 225, 1), (13, 52, 0, 150, 0), (13, 55, 0, 226, 0), (13, 56, 0, 151, 1), (13, 59, 0, 174, 1), (13, 60, 0, 152, 1), (13, 63, 0, 184, 1), (13, 64, 0, 153, 0), (13, 67, 0, 185, 0), (13, 68, 0, 154, 0), (13, 71, 0, 227, 0), (13, 72, 0, 159, 1), (13, 75, 0, 269, 1), (13, 76, 0, 160, 1), (13, 80, 0, 268, 1), (13, 81, 0, 161, 2), (13, 85, 0, 270, 2), (13, 86, 0, 162, 1), (13, 89, 0, 271, 1), (13, 90, 0, 163, 2), (13, 93, 0, 272, 2), (13, 94, 0, 164, 2), (13, 97, 0, 273, 2), (13, 98, 0, 165, 2), (13, 101, 0, 274, 2), (13, 102, 0, 166, 2), (13, 105, 0, 275, 2), (13, 106, 0, 167, 3), (13, 110, 0, 276, 3), (13, 111, 0, 168, 3), (13, 114, 0, 277, 3), (13, 115, 0, 169, 1), (13, 118, 0, 278, 1), (14, 492, 0, 280, 0), (14, 495, 2, 281, 2), (15, 9, 6, 0, 0), (17, 122, 2, 283, 1), (17, 134, 7, 0, 0)]
def am_ck : List (Nat × Nat × Nat) := [(13, 7, 11), (11, 7, 10), (11, 21, 4), (4, 11, 0), (4, 17, 1), (4, 23, 5), (4, 30, 2), (11, 38, 9), (11, 44, 6), (6, 11, 3), (6, 18, 1), (1, 28, 10), (11, 53, 7), (9, 9, 0), (1, 10, 1), (13, 10, 12)]
def am_kc : List (Nat × Nat × Value) := [(11, 73, .long (255)), (8, 11, .double (4621819117588971520)), (8, 25, .long (-9223372036854775808)), (8, 13, .double (4895412794951729152)), (8, 15, .double (4611686018427387904)), (8, 35, .long (1022)), (3, 84, .long (10)), (4, 59, .int (1000000)), (8, 7, .double (9218868437227405311)), (8, 9, .double (18442240474082181119)), (4, 289, .double (4602678819172646912)), (4, 205, .long (15)), (4, 194, .int (65535)), (4, 322, .double (4611686018427387904)), (7, 91, .long (-1)), (11, 265, .long (-1)), (11, 268, .long (-2)), (11, 276, .long (-3)), (12, 177, .long (255)), (12, 306, .long (10)), (12, 238, .long (32)), (12, 357, .long (31)), (12, 395, .double (4621819117588971520)), (12, 240, .long (96)), (12, 308, .long (48)), (12, 346, .long (-1)), (12, 440, .double (9218868437227405311)), (12, 442, .double (18442240474082181119)), (12, 544, .double (4602678819172646912)), (12, 534, .double (4611686018427387904)), (17, 137, .long (9221120237041090560)), (12, 609, .long (-2)), (12, 611, .long (-3)), (13, 13, .long (4294967295))]
def am_sk : List (Nat × Nat × Value) := [(6, 139, .ref 1), (14, 38, .int 1)]
-- nest: [('LoadBook$Machine', 25, ('LoadBook$Numbers', '<init>', '()V')), ('LoadBook$Machine', 53, ('LoadBook$Cell', '<init>', '()V')), ('LoadBook$Machine', 54, ('LoadBook$Frame', '<init>', '()V')), ('LoadBook$Parser', 13, ('LoadBook$Lexer', '<init>', '()V')), ('LoadBook', 55, ('LoadBook$Plan', '<init>', '()V')), ('LoadBook$Sheet', 17, ('LoadBook$Cell', '<init>', '()V')), ('LoadBook$Code', 55, ('LoadBook', 'noCell', '(I)Z')), ('LoadBook$Machine', 226, ('LoadBook', 'noCell', '(I)Z')), ('LoadBook$Machine', 318, ('LoadBook$Numbers', 'pushFinite', '(D)I'))]
-- law is method 284
