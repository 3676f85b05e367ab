section
/-! The tables: classes with their fields, methods with their code, each instruction with what its links mean. Written by program out of the claim's listing and words. -/
def tc_T0 : u_T := fun k => match k with
  | 0 => ("MemoRuntime$Cell", "value", "I", false)
  | 1 => ("MemoRuntime$Cell", "reads", "[I", true)
  | 2 => ("MemoRuntime$Cell", "readCount", "I", false)
  | 3 => ("MemoRuntime$Cell", "good", "I", false)
  | 4 => ("MemoRuntime$Cell", "changed", "I", false)
  | 5 => ("MemoRuntime$Cell", "leastClass", "I", false)
  | _ => ("MemoRuntime$Cell", "ofCircle", "Z", false)
def tc_f0 : Nat → FieldType := fun k => match k with
  | 0 => .int
  | 1 => .array .int
  | 2 => .int
  | 3 => .int
  | 4 => .int
  | 5 => .int
  | _ => .boolean
def tc_T1 : u_T := fun k => match k with
  | 0 => ("MemoRuntime$Edits", "revision", "I", false)
  | _ => ("MemoRuntime$Edits", "last", "[I", true)
def tc_f1 : Nat → FieldType := fun k => match k with
  | 0 => .int
  | _ => .array .int
def tc_T2 : u_T := fun k => match k with
  | 0 => ("MemoRuntime$Inputs", "values", "[I", true)
  | 1 => ("MemoRuntime$Inputs", "changed", "[I", true)
  | _ => ("MemoRuntime$Inputs", "classes", "[I", true)
def tc_f2 : Nat → FieldType := fun k => match k with
  | 0 => .array .int
  | 1 => .array .int
  | _ => .array .int
def tc_T3 : u_T := fun k => match k with
  | 0 => ("MemoRuntime$RecentOrder", "size", "I", false)
  | 1 => ("MemoRuntime$RecentOrder", "held", "[Z", true)
  | 2 => ("MemoRuntime$RecentOrder", "before", "[I", true)
  | _ => ("MemoRuntime$RecentOrder", "after", "[I", true)
def tc_f3 : Nat → FieldType := fun k => match k with
  | 0 => .int
  | 1 => .array .boolean
  | 2 => .array .int
  | _ => .array .int
def tc_T4 : u_T := fun k => match k with
  | 0 => ("MemoRuntime$Text", "characters", "[C", true)
  | _ => ("MemoRuntime$Text", "length", "I", false)
def tc_f4 : Nat → FieldType := fun k => match k with
  | 0 => .array .char
  | _ => .int
def tc_T5 : u_T := fun k => match k with
  | 0 => ("MemoRuntime$Working", "wanted", "I", false)
  | 1 => ("MemoRuntime$Working", "value", "I", false)
  | 2 => ("MemoRuntime$Working", "reads", "[I", true)
  | 3 => ("MemoRuntime$Working", "readCount", "I", false)
  | 4 => ("MemoRuntime$Working", "text", "LMemoRuntime$Text;", false)
  | 5 => ("MemoRuntime$Working", "key", "I", false)
  | 6 => ("MemoRuntime$Working", "at", "I", false)
  | 7 => ("MemoRuntime$Working", "waiting", "[C", true)
  | 8 => ("MemoRuntime$Working", "hasLeft", "[Z", true)
  | 9 => ("MemoRuntime$Working", "left", "[I", true)
  | _ => ("MemoRuntime$Working", "waits", "I", false)
def tc_f5 : Nat → FieldType := fun k => match k with
  | 0 => .int
  | 1 => .int
  | 2 => .array .int
  | 3 => .int
  | 4 => .object "MemoRuntime$Text"
  | 5 => .int
  | 6 => .int
  | 7 => .array .char
  | 8 => .array .boolean
  | 9 => .array .int
  | _ => .int
def tc_T6 : u_T := fun k => match k with
  | 0 => ("MemoRuntime", "draft", "LMemoRuntime$Text;", true)
  | 1 => ("MemoRuntime", "texts", "[LMemoRuntime$Text;", true)
  | 2 => ("MemoRuntime", "circleValues", "[I", true)
  | 3 => ("MemoRuntime", "inputs", "LMemoRuntime$Inputs;", true)
  | 4 => ("MemoRuntime", "edits", "LMemoRuntime$Edits;", true)
  | 5 => ("MemoRuntime", "cells", "[LMemoRuntime$Cell;", true)
  | 6 => ("MemoRuntime", "order", "LMemoRuntime$RecentOrder;", true)
  | 7 => ("MemoRuntime", "mayBeKept", "I", false)
  | 8 => ("MemoRuntime", "underWay", "[I", true)
  | 9 => ("MemoRuntime", "workings", "[LMemoRuntime$Working;", true)
  | 10 => ("MemoRuntime", "depth", "I", false)
  | 11 => ("MemoRuntime", "runs", "I", false)
  | 12 => ("MemoRuntime", "verifications", "I", false)
  | 13 => ("MemoRuntime", "skips", "I", false)
  | _ => ("MemoRuntime", "circleAnswers", "I", false)
def tc_f6 : Nat → FieldType := fun k => match k with
  | 0 => .object "MemoRuntime$Text"
  | 1 => .array (.object "MemoRuntime$Text")
  | 2 => .array .int
  | 3 => .object "MemoRuntime$Inputs"
  | 4 => .object "MemoRuntime$Edits"
  | 5 => .array (.object "MemoRuntime$Cell")
  | 6 => .object "MemoRuntime$RecentOrder"
  | 7 => .int
  | 8 => .array .int
  | 9 => .array (.object "MemoRuntime$Working")
  | 10 => .int
  | 11 => .int
  | 12 => .int
  | 13 => .int
  | _ => .int
def tc_T7 : u_T := fun k => match k with
  | 0 => ("MemoRuntimeModel", "thrown", "I", false)
  | 1 => ("MemoRuntimeModel", "draft", "[I", true)
  | 2 => ("MemoRuntimeModel", "length", "I", false)
  | 3 => ("MemoRuntimeModel", "texts", "[I", true)
  | 4 => ("MemoRuntimeModel", "lengths", "[I", true)
  | 5 => ("MemoRuntimeModel", "revision", "I", false)
  | 6 => ("MemoRuntimeModel", "inputs", "[I", true)
  | 7 => ("MemoRuntimeModel", "inputChanged", "[I", true)
  | 8 => ("MemoRuntimeModel", "classes", "[I", true)
  | 9 => ("MemoRuntimeModel", "circles", "[I", true)
  | 10 => ("MemoRuntimeModel", "edited", "[I", true)
  | 11 => ("MemoRuntimeModel", "has", "[Z", true)
  | 12 => ("MemoRuntimeModel", "value", "[I", true)
  | 13 => ("MemoRuntimeModel", "good", "[I", true)
  | 14 => ("MemoRuntimeModel", "changed", "[I", true)
  | 15 => ("MemoRuntimeModel", "level", "[I", true)
  | 16 => ("MemoRuntimeModel", "round", "[Z", true)
  | 17 => ("MemoRuntimeModel", "reads", "[I", true)
  | 18 => ("MemoRuntimeModel", "many", "[I", true)
  | 19 => ("MemoRuntimeModel", "stamp", "[I", true)
  | 20 => ("MemoRuntimeModel", "clock", "I", false)
  | 21 => ("MemoRuntimeModel", "bound", "I", false)
  | 22 => ("MemoRuntimeModel", "ran", "I", false)
  | 23 => ("MemoRuntimeModel", "verified", "I", false)
  | 24 => ("MemoRuntimeModel", "skipped", "I", false)
  | 25 => ("MemoRuntimeModel", "circled", "I", false)
  | 26 => ("MemoRuntimeModel", "depth", "I", false)
  | 27 => ("MemoRuntimeModel", "under", "[I", true)
  | 28 => ("MemoRuntimeModel", "running", "[Z", true)
  | 29 => ("MemoRuntimeModel", "gaveUp", "Z", false)
  | 30 => ("MemoRuntimeModel", "waiting", "I", false)
  | 31 => ("MemoRuntimeModel", "operation", "[I", true)
  | 32 => ("MemoRuntimeModel", "collected", "[I", true)
  | 33 => ("MemoRuntimeModel", "left", "[I", true)
  | 34 => ("MemoRuntimeModel", "readCount", "I", false)
  | 35 => ("MemoRuntimeModel", "readNow", "[I", true)
  | _ => ("MemoRuntimeModel", "result", "I", false)
def tc_f7 : Nat → FieldType := fun k => match k with
  | 0 => .int
  | 1 => .array .int
  | 2 => .int
  | 3 => .array .int
  | 4 => .array .int
  | 5 => .int
  | 6 => .array .int
  | 7 => .array .int
  | 8 => .array .int
  | 9 => .array .int
  | 10 => .array .int
  | 11 => .array .boolean
  | 12 => .array .int
  | 13 => .array .int
  | 14 => .array .int
  | 15 => .array .int
  | 16 => .array .boolean
  | 17 => .array .int
  | 18 => .array .int
  | 19 => .array .int
  | 20 => .int
  | 21 => .int
  | 22 => .int
  | 23 => .int
  | 24 => .int
  | 25 => .int
  | 26 => .int
  | 27 => .array .int
  | 28 => .array .boolean
  | 29 => .boolean
  | 30 => .int
  | 31 => .array .int
  | 32 => .array .int
  | 33 => .array .int
  | 34 => .int
  | 35 => .array .int
  | _ => .int
abbrev vwCl : List vw_C := [("MemoRuntime$Cell", tc_T0, 7), ("MemoRuntime$Edits", tc_T1, 2), ("MemoRuntime$Inputs", tc_T2, 3), ("MemoRuntime$RecentOrder", tc_T3, 4), ("MemoRuntime$Text", tc_T4, 2), ("MemoRuntime$Working", tc_T5, 11), ("MemoRuntime", tc_T6, 15), ("MemoRuntimeModel", tc_T7, 37)]
def tb_cn : Nat → String
  | 0 => "MemoRuntime$Cell"
  | 1 => "MemoRuntime$Edits"
  | 2 => "MemoRuntime$Inputs"
  | 3 => "MemoRuntime$RecentOrder"
  | 4 => "MemoRuntime$Text"
  | 5 => "MemoRuntime$Working"
  | 6 => "MemoRuntime"
  | 7 => "MemoRuntimeModel"
  | _ => ""
def tb_ft : Nat → Nat → FieldType
  | 0 => tc_f0
  | 1 => tc_f1
  | 2 => tc_f2
  | 3 => tc_f3
  | 4 => tc_f4
  | 5 => tc_f5
  | 6 => tc_f6
  | 7 => tc_f7
  | _ => fun _ => .int
def tb_df : Nat → List Value
  | 0 => [.int 0, .null, .int 0, .int 0, .int 0, .int 0, .int 0]
  | 1 => [.int 0, .null]
  | 2 => [.null, .null, .null]
  | 3 => [.int 0, .null, .null, .null]
  | 4 => [.null, .int 0]
  | 5 => [.int 0, .int 0, .null, .int 0, .null, .int 0, .int 0, .null, .null, .null, .int 0]
  | 6 => [.null, .null, .null, .null, .null, .null, .null, .int 0, .null, .null, .int 0, .int 0, .int 0, .int 0, .int 0]
  | 7 => [.int 0, .null, .int 0, .null, .null, .int 0, .null, .null, .null, .null, .null, .null, .null, .null, .null, .null, .null, .null, .null, .null, .int 0, .int 0, .int 0, .int 0, .int 0, .int 0, .int 0, .null, .null, .int 0, .int 0, .null, .null, .null, .int 0, .null, .int 0]
  | _ => []
def tb_nm : Nat → MethodName
  | 0 => ⟨"MemoRuntime", "<init>", "()V"⟩
  | 1 => ⟨"MemoRuntime", "write", "(J)I"⟩
  | 2 => ⟨"MemoRuntime", "wipe", "()I"⟩
  | 3 => ⟨"MemoRuntime", "define", "(I)I"⟩
  | 4 => ⟨"MemoRuntime", "input", "(III)Z"⟩
  | 5 => ⟨"MemoRuntime", "circle", "(II)Z"⟩
  | 6 => ⟨"MemoRuntime", "level", "(II)V"⟩
  | 7 => ⟨"MemoRuntime", "demand", "(II)I"⟩
  | 8 => ⟨"MemoRuntime", "count", "(I)I"⟩
  | 9 => ⟨"MemoRuntime", "kept", "(II)Z"⟩
  | 10 => ⟨"MemoRuntime", "cell", "(III)I"⟩
  | 11 => ⟨"MemoRuntime", "read", "(III)I"⟩
  | 12 => ⟨"MemoRuntime", "recent", "(I)I"⟩
  | 13 => ⟨"MemoRuntime", "bound", "(I)I"⟩
  | 14 => ⟨"MemoRuntime", "drop", "(II)Z"⟩
  | 15 => ⟨"MemoRuntime", "requireWithin", "(II)V"⟩
  | 16 => ⟨"MemoRuntime", "requireTable", "(I)V"⟩
  | 17 => ⟨"MemoRuntime", "requireFunction", "(I)V"⟩
  | 18 => ⟨"MemoRuntime", "requireKey", "(I)V"⟩
  | 19 => ⟨"MemoRuntime", "requireCell", "(II)V"⟩
  | 20 => ⟨"MemoRuntime", "keptCell", "(I)LMemoRuntime$Cell;"⟩
  | 21 => ⟨"MemoRuntime", "characterAt", "(JI)C"⟩
  | 22 => ⟨"MemoRuntime", "charactersIn", "(J)I"⟩
  | 23 => ⟨"MemoRuntime", "edit", "(I)V"⟩
  | 24 => ⟨"MemoRuntime", "letFirstGo", "()I"⟩
  | 25 => ⟨"MemoRuntime", "ask", "(I)LMemoRuntime$Outcome;"⟩
  | 26 => ⟨"MemoRuntime", "placeUnderWay", "(I)I"⟩
  | 27 => ⟨"MemoRuntime", "answerCircle", "(I)V"⟩
  | 28 => ⟨"MemoRuntime", "isGood", "(I)Z"⟩
  | 29 => ⟨"MemoRuntime", "skip", "(I)Z"⟩
  | 30 => ⟨"MemoRuntime", "verify", "(I)LMemoRuntime$Outcome;"⟩
  | 31 => ⟨"MemoRuntime", "run", "(ILMemoRuntime$Working;)LMemoRuntime$Outcome;"⟩
  | 32 => ⟨"MemoRuntime", "keep", "(ILMemoRuntime$Working;)V"⟩
  | 33 => ⟨"MemoRuntime", "askForRead", "(I)LMemoRuntime$Outcome;"⟩
  | 34 => ⟨"MemoRuntime", "isCellRead", "(I)Z"⟩
  | 35 => ⟨"MemoRuntime", "valueOf", "(I)I"⟩
  | 36 => ⟨"MemoRuntime", "changedOf", "(I)I"⟩
  | 37 => ⟨"MemoRuntime", "classOf", "(I)I"⟩
  | 38 => ⟨"MemoRuntime", "leastClassOfReads", "(LMemoRuntime$Cell;)I"⟩
  | 39 => ⟨"MemoRuntimeModel", "<init>", "()V"⟩
  | 40 => ⟨"MemoRuntimeModel", "thrown", "()I"⟩
  | 41 => ⟨"MemoRuntimeModel", "write", "(J)I"⟩
  | 42 => ⟨"MemoRuntimeModel", "wipe", "()I"⟩
  | 43 => ⟨"MemoRuntimeModel", "wants", "(I)I"⟩
  | 44 => ⟨"MemoRuntimeModel", "forgetAll", "()V"⟩
  | 45 => ⟨"MemoRuntimeModel", "define", "(I)I"⟩
  | 46 => ⟨"MemoRuntimeModel", "edit", "(I)V"⟩
  | 47 => ⟨"MemoRuntimeModel", "noKey", "(I)Z"⟩
  | 48 => ⟨"MemoRuntimeModel", "input", "(III)Z"⟩
  | 49 => ⟨"MemoRuntimeModel", "circle", "(II)Z"⟩
  | 50 => ⟨"MemoRuntimeModel", "level", "(II)V"⟩
  | 51 => ⟨"MemoRuntimeModel", "end", "(I)V"⟩
  | 52 => ⟨"MemoRuntimeModel", "isUnder", "(I)Z"⟩
  | 53 => ⟨"MemoRuntimeModel", "isUntouched", "(I)Z"⟩
  | 54 => ⟨"MemoRuntimeModel", "close", "(I)V"⟩
  | 55 => ⟨"MemoRuntimeModel", "isGood", "(I)Z"⟩
  | 56 => ⟨"MemoRuntimeModel", "classOf", "(I)I"⟩
  | 57 => ⟨"MemoRuntimeModel", "verify", "()V"⟩
  | 58 => ⟨"MemoRuntimeModel", "note", "(I)V"⟩
  | 59 => ⟨"MemoRuntimeModel", "behind", "(II)I"⟩
  | 60 => ⟨"MemoRuntimeModel", "hand", "(II)I"⟩
  | 61 => ⟨"MemoRuntimeModel", "worksOut", "(II)Z"⟩
  | 62 => ⟨"MemoRuntimeModel", "run", "()V"⟩
  | 63 => ⟨"MemoRuntimeModel", "noCell", "(II)Z"⟩
  | 64 => ⟨"MemoRuntimeModel", "keptCells", "()I"⟩
  | 65 => ⟨"MemoRuntimeModel", "recentCell", "(I)I"⟩
  | 66 => ⟨"MemoRuntimeModel", "shrink", "()I"⟩
  | 67 => ⟨"MemoRuntimeModel", "demand", "(II)I"⟩
  | 68 => ⟨"MemoRuntimeModel", "count", "(I)I"⟩
  | 69 => ⟨"MemoRuntimeModel", "kept", "(II)Z"⟩
  | 70 => ⟨"MemoRuntimeModel", "cell", "(III)I"⟩
  | 71 => ⟨"MemoRuntimeModel", "read", "(III)I"⟩
  | 72 => ⟨"MemoRuntimeModel", "recent", "(I)I"⟩
  | 73 => ⟨"MemoRuntimeModel", "bound", "(I)I"⟩
  | 74 => ⟨"MemoRuntimeModel", "drop", "(II)Z"⟩
  | 75 => ⟨"MemoRuntime$Cell", "<init>", "()V"⟩
  | 76 => ⟨"MemoRuntime$Edits", "<init>", "()V"⟩
  | 77 => ⟨"MemoRuntime$Edits", "add", "(I)V"⟩
  | 78 => ⟨"MemoRuntime$Edits", "touched", "(II)Z"⟩
  | 79 => ⟨"MemoRuntime$Inputs", "<init>", "()V"⟩
  | 80 => ⟨"MemoRuntime$RecentOrder", "<init>", "()V"⟩
  | 81 => ⟨"MemoRuntime$RecentOrder", "holds", "(I)Z"⟩
  | 82 => ⟨"MemoRuntime$RecentOrder", "putLast", "(I)V"⟩
  | 83 => ⟨"MemoRuntime$RecentOrder", "remove", "(I)V"⟩
  | 84 => ⟨"MemoRuntime$RecentOrder", "clear", "()V"⟩
  | 85 => ⟨"MemoRuntime$RecentOrder", "at", "(I)I"⟩
  | 86 => ⟨"MemoRuntime$RecentOrder", "join", "(II)V"⟩
  | 87 => ⟨"MemoRuntime$Text", "<init>", "()V"⟩
  | 88 => ⟨"MemoRuntime$Text", "operandsOf", "(C)I"⟩
  | 89 => ⟨"MemoRuntime$Text", "append", "(C)V"⟩
  | 90 => ⟨"MemoRuntime$Text", "become", "(LMemoRuntime$Text;)V"⟩
  | 91 => ⟨"MemoRuntime$Text", "firstFault", "()I"⟩
  | 92 => ⟨"MemoRuntime$Text", "behind", "(I)I"⟩
  | 93 => ⟨"MemoRuntime$Working", "<init>", "()V"⟩
  | 94 => ⟨"MemoRuntime$Working", "begin", "(LMemoRuntime$Text;I)V"⟩
  | 95 => ⟨"MemoRuntime$Working", "goOn", "()V"⟩
  | 96 => ⟨"MemoRuntime$Working", "take", "(I)V"⟩
  | 97 => ⟨"MemoRuntime$Working", "noteRead", "(I)V"⟩
  | 98 => ⟨"MemoRuntime$Working", "letWait", "(C)V"⟩
  | 99 => ⟨"MemoRuntime$Working", "handOver", "(I)V"⟩
  | 100 => ⟨"MemoRuntime$Working", "takeFirst", "(C)V"⟩
  | 101 => ⟨"MemoRuntime$Working", "readBy", "(CI)I"⟩
  | 102 => ⟨"MemoRuntime$Working", "together", "(CII)I"⟩
  | 103 => ⟨"MemoRuntimeLaw", "define", "(LMemoRuntime;I[J)I"⟩
  | 104 => ⟨"MemoRuntimeLaw", "input", "(LMemoRuntime;III[J)I"⟩
  | 105 => ⟨"MemoRuntimeLaw", "circle", "(LMemoRuntime;II[J)I"⟩
  | 106 => ⟨"MemoRuntimeLaw", "level", "(LMemoRuntime;II)I"⟩
  | 107 => ⟨"MemoRuntimeLaw", "demand", "(LMemoRuntime;II[J)I"⟩
  | 108 => ⟨"MemoRuntimeLaw", "kept", "(LMemoRuntime;II[J)I"⟩
  | 109 => ⟨"MemoRuntimeLaw", "cell", "(LMemoRuntime;III[J)I"⟩
  | 110 => ⟨"MemoRuntimeLaw", "read", "(LMemoRuntime;III[J)I"⟩
  | 111 => ⟨"MemoRuntimeLaw", "bound", "(LMemoRuntime;I[J)I"⟩
  | 112 => ⟨"MemoRuntimeLaw", "drop", "(LMemoRuntime;II[J)I"⟩
  | 113 => ⟨"MemoRuntimeLaw", "law", "([I)Z"⟩
  | _ => ⟨"", "", ""⟩
def tb_by : Nat → ByteArray
  | 0 => prog_1_method_1_code
  | 1 => prog_1_method_2_code
  | 2 => prog_1_method_3_code
  | 3 => prog_1_method_4_code
  | 4 => prog_1_method_5_code
  | 5 => prog_1_method_6_code
  | 6 => prog_1_method_7_code
  | 7 => prog_1_method_8_code
  | 8 => prog_1_method_9_code
  | 9 => prog_1_method_10_code
  | 10 => prog_1_method_11_code
  | 11 => prog_1_method_12_code
  | 12 => prog_1_method_13_code
  | 13 => prog_1_method_14_code
  | 14 => prog_1_method_15_code
  | 15 => prog_1_method_16_code
  | 16 => prog_1_method_17_code
  | 17 => prog_1_method_18_code
  | 18 => prog_1_method_19_code
  | 19 => prog_1_method_20_code
  | 20 => prog_1_method_21_code
  | 21 => prog_1_method_22_code
  | 22 => prog_1_method_23_code
  | 23 => prog_1_method_24_code
  | 24 => prog_1_method_25_code
  | 25 => prog_1_method_26_code
  | 26 => prog_1_method_27_code
  | 27 => prog_1_method_28_code
  | 28 => prog_1_method_29_code
  | 29 => prog_1_method_30_code
  | 30 => prog_1_method_31_code
  | 31 => prog_1_method_32_code
  | 32 => prog_1_method_33_code
  | 33 => prog_1_method_34_code
  | 34 => prog_1_method_35_code
  | 35 => prog_1_method_36_code
  | 36 => prog_1_method_37_code
  | 37 => prog_1_method_38_code
  | 38 => prog_1_method_39_code
  | 39 => prog_10_method_1_code
  | 40 => prog_10_method_2_code
  | 41 => prog_10_method_3_code
  | 42 => prog_10_method_4_code
  | 43 => prog_10_method_5_code
  | 44 => prog_10_method_6_code
  | 45 => prog_10_method_7_code
  | 46 => prog_10_method_8_code
  | 47 => prog_10_method_9_code
  | 48 => prog_10_method_10_code
  | 49 => prog_10_method_11_code
  | 50 => prog_10_method_12_code
  | 51 => prog_10_method_13_code
  | 52 => prog_10_method_14_code
  | 53 => prog_10_method_15_code
  | 54 => prog_10_method_16_code
  | 55 => prog_10_method_17_code
  | 56 => prog_10_method_18_code
  | 57 => prog_10_method_19_code
  | 58 => prog_10_method_20_code
  | 59 => prog_10_method_21_code
  | 60 => prog_10_method_22_code
  | 61 => prog_10_method_23_code
  | 62 => prog_10_method_24_code
  | 63 => prog_10_method_25_code
  | 64 => prog_10_method_26_code
  | 65 => prog_10_method_27_code
  | 66 => prog_10_method_28_code
  | 67 => prog_10_method_29_code
  | 68 => prog_10_method_30_code
  | 69 => prog_10_method_31_code
  | 70 => prog_10_method_32_code
  | 71 => prog_10_method_33_code
  | 72 => prog_10_method_34_code
  | 73 => prog_10_method_35_code
  | 74 => prog_10_method_36_code
  | 75 => prog_2_method_1_code
  | 76 => prog_3_method_1_code
  | 77 => prog_3_method_2_code
  | 78 => prog_3_method_3_code
  | 79 => prog_4_method_1_code
  | 80 => prog_6_method_1_code
  | 81 => prog_6_method_2_code
  | 82 => prog_6_method_3_code
  | 83 => prog_6_method_4_code
  | 84 => prog_6_method_5_code
  | 85 => prog_6_method_6_code
  | 86 => prog_6_method_7_code
  | 87 => prog_7_method_1_code
  | 88 => prog_7_method_2_code
  | 89 => prog_7_method_3_code
  | 90 => prog_7_method_4_code
  | 91 => prog_7_method_5_code
  | 92 => prog_7_method_6_code
  | 93 => prog_8_method_1_code
  | 94 => prog_8_method_2_code
  | 95 => prog_8_method_3_code
  | 96 => prog_8_method_4_code
  | 97 => prog_8_method_5_code
  | 98 => prog_8_method_6_code
  | 99 => prog_8_method_7_code
  | 100 => prog_8_method_8_code
  | 101 => prog_8_method_9_code
  | 102 => prog_8_method_10_code
  | 103 => method_3_code
  | 104 => method_4_code
  | 105 => method_5_code
  | 106 => method_6_code
  | 107 => method_7_code
  | 108 => method_8_code
  | 109 => method_9_code
  | 110 => method_10_code
  | 111 => method_11_code
  | 112 => method_12_code
  | 113 => code
  | _ => ⟨#[]⟩
def tb_mL : Nat → Nat
  | 0 => 2
  | 1 => 5
  | 2 => 2
  | 3 => 3
  | 4 => 5
  | 5 => 3
  | 6 => 3
  | 7 => 6
  | 8 => 2
  | 9 => 3
  | 10 => 5
  | 11 => 5
  | 12 => 2
  | 13 => 2
  | 14 => 5
  | 15 => 2
  | 16 => 1
  | 17 => 1
  | 18 => 1
  | 19 => 2
  | 20 => 2
  | 21 => 3
  | 22 => 4
  | 23 => 3
  | 24 => 3
  | 25 => 4
  | 26 => 3
  | 27 => 5
  | 28 => 2
  | 29 => 3
  | 30 => 6
  | 31 => 5
  | 32 => 4
  | 33 => 2
  | 34 => 1
  | 35 => 2
  | 36 => 2
  | 37 => 2
  | 38 => 4
  | 39 => 2
  | 40 => 1
  | 41 => 6
  | 42 => 2
  | 43 => 1
  | 44 => 2
  | 45 => 4
  | 46 => 3
  | 47 => 1
  | 48 => 4
  | 49 => 3
  | 50 => 3
  | 51 => 2
  | 52 => 4
  | 53 => 4
  | 54 => 5
  | 55 => 2
  | 56 => 2
  | 57 => 6
  | 58 => 3
  | 59 => 5
  | 60 => 7
  | 61 => 7
  | 62 => 4
  | 63 => 2
  | 64 => 3
  | 65 => 5
  | 66 => 2
  | 67 => 5
  | 68 => 2
  | 69 => 3
  | 70 => 5
  | 71 => 5
  | 72 => 2
  | 73 => 2
  | 74 => 4
  | 75 => 1
  | 76 => 1
  | 77 => 2
  | 78 => 4
  | 79 => 1
  | 80 => 1
  | 81 => 2
  | 82 => 3
  | 83 => 2
  | 84 => 2
  | 85 => 4
  | 86 => 3
  | 87 => 1
  | 88 => 1
  | 89 => 2
  | 90 => 3
  | 91 => 4
  | 92 => 4
  | 93 => 1
  | 94 => 3
  | 95 => 3
  | 96 => 2
  | 97 => 3
  | 98 => 2
  | 99 => 4
  | 100 => 2
  | 101 => 2
  | 102 => 3
  | 103 => 4
  | 104 => 6
  | 105 => 5
  | 106 => 4
  | 107 => 5
  | 108 => 5
  | 109 => 6
  | 110 => 6
  | 111 => 4
  | 112 => 5
  | 113 => 7
  | _ => 0
def tb_re : Nat → Option FieldType
  | 0 => none
  | 1 => some .int
  | 2 => some .int
  | 3 => some .int
  | 4 => some .boolean
  | 5 => some .boolean
  | 6 => none
  | 7 => some .int
  | 8 => some .int
  | 9 => some .boolean
  | 10 => some .int
  | 11 => some .int
  | 12 => some .int
  | 13 => some .int
  | 14 => some .boolean
  | 15 => none
  | 16 => none
  | 17 => none
  | 18 => none
  | 19 => none
  | 20 => some (.object "MemoRuntime$Cell")
  | 21 => some .char
  | 22 => some .int
  | 23 => none
  | 24 => some .int
  | 25 => some (.object "MemoRuntime$Outcome")
  | 26 => some .int
  | 27 => none
  | 28 => some .boolean
  | 29 => some .boolean
  | 30 => some (.object "MemoRuntime$Outcome")
  | 31 => some (.object "MemoRuntime$Outcome")
  | 32 => none
  | 33 => some (.object "MemoRuntime$Outcome")
  | 34 => some .boolean
  | 35 => some .int
  | 36 => some .int
  | 37 => some .int
  | 38 => some .int
  | 39 => none
  | 40 => some .int
  | 41 => some .int
  | 42 => some .int
  | 43 => some .int
  | 44 => none
  | 45 => some .int
  | 46 => none
  | 47 => some .boolean
  | 48 => some .boolean
  | 49 => some .boolean
  | 50 => none
  | 51 => none
  | 52 => some .boolean
  | 53 => some .boolean
  | 54 => none
  | 55 => some .boolean
  | 56 => some .int
  | 57 => none
  | 58 => none
  | 59 => some .int
  | 60 => some .int
  | 61 => some .boolean
  | 62 => none
  | 63 => some .boolean
  | 64 => some .int
  | 65 => some .int
  | 66 => some .int
  | 67 => some .int
  | 68 => some .int
  | 69 => some .boolean
  | 70 => some .int
  | 71 => some .int
  | 72 => some .int
  | 73 => some .int
  | 74 => some .boolean
  | 75 => none
  | 76 => none
  | 77 => none
  | 78 => some .boolean
  | 79 => none
  | 80 => none
  | 81 => some .boolean
  | 82 => none
  | 83 => none
  | 84 => none
  | 85 => some .int
  | 86 => none
  | 87 => none
  | 88 => some .int
  | 89 => none
  | 90 => none
  | 91 => some .int
  | 92 => some .int
  | 93 => none
  | 94 => none
  | 95 => none
  | 96 => none
  | 97 => none
  | 98 => none
  | 99 => none
  | 100 => none
  | 101 => some .int
  | 102 => some .int
  | 103 => some .int
  | 104 => some .int
  | 105 => some .int
  | 106 => some .int
  | 107 => some .int
  | 108 => some .int
  | 109 => some .int
  | 110 => some .int
  | 111 => some .int
  | 112 => some .int
  | 113 => some .boolean
  | _ => none
def tb_hh : Nat → List (Nat × Nat × Nat × Nat)
  | 103 => [(0, 9, 12, 13)]
  | 104 => [(0, 19, 22, 13)]
  | 105 => [(0, 17, 20, 13)]
  | 106 => [(0, 6, 9, 13)]
  | 107 => [(0, 10, 13, 13), (0, 10, 17, 31)]
  | 108 => [(0, 17, 20, 13)]
  | 109 => [(0, 12, 15, 13), (0, 12, 19, 40)]
  | 110 => [(0, 12, 15, 13), (0, 12, 19, 40)]
  | 111 => [(0, 9, 12, 13)]
  | 112 => [(0, 17, 20, 13)]
  | _ => []
def tb_rc : Nat → Nat
  | 0 => 6
  | 1 => 6
  | 2 => 6
  | 3 => 6
  | 4 => 6
  | 5 => 6
  | 6 => 6
  | 7 => 6
  | 8 => 6
  | 9 => 6
  | 10 => 6
  | 11 => 6
  | 12 => 6
  | 13 => 6
  | 14 => 6
  | 15 => 6
  | 16 => 6
  | 17 => 6
  | 18 => 6
  | 19 => 6
  | 20 => 6
  | 21 => 6
  | 22 => 6
  | 23 => 6
  | 24 => 6
  | 25 => 6
  | 26 => 6
  | 27 => 6
  | 28 => 6
  | 29 => 6
  | 30 => 6
  | 31 => 6
  | 32 => 6
  | 33 => 6
  | 34 => 6
  | 35 => 6
  | 36 => 6
  | 37 => 6
  | 38 => 6
  | 39 => 7
  | 40 => 7
  | 41 => 7
  | 42 => 7
  | 43 => 7
  | 44 => 7
  | 45 => 7
  | 46 => 7
  | 47 => 7
  | 48 => 7
  | 49 => 7
  | 50 => 7
  | 51 => 7
  | 52 => 7
  | 53 => 7
  | 54 => 7
  | 55 => 7
  | 56 => 7
  | 57 => 7
  | 58 => 7
  | 59 => 7
  | 60 => 7
  | 61 => 7
  | 62 => 7
  | 63 => 7
  | 64 => 7
  | 65 => 7
  | 66 => 7
  | 67 => 7
  | 68 => 7
  | 69 => 7
  | 70 => 7
  | 71 => 7
  | 72 => 7
  | 73 => 7
  | 74 => 7
  | 75 => 0
  | 76 => 1
  | 77 => 1
  | 78 => 1
  | 79 => 2
  | 80 => 3
  | 81 => 3
  | 82 => 3
  | 83 => 3
  | 84 => 3
  | 85 => 3
  | 86 => 3
  | 87 => 4
  | 88 => 4
  | 89 => 4
  | 90 => 4
  | 91 => 4
  | 92 => 4
  | 93 => 5
  | 94 => 5
  | 95 => 5
  | 96 => 5
  | 97 => 5
  | 98 => 5
  | 99 => 5
  | 100 => 5
  | 101 => 5
  | 102 => 5
  | _ => 1000
def tb_xn : Nat → String
  | 1000 => "java/lang/IllegalArgumentException"
  | 1001 => "java/lang/IllegalStateException"
  | 1002 => "java/util/NoSuchElementException"
  | _ => ""
def tb_hx : Nat → Option (Nat × List (Nat × Nat))
  | 103 => some (9, [(1000, 12)])
  | 104 => some (19, [(1000, 22)])
  | 105 => some (17, [(1000, 20)])
  | 106 => some (6, [(1000, 9)])
  | 107 => some (10, [(1000, 13), (1001, 17)])
  | 108 => some (17, [(1000, 20)])
  | 109 => some (12, [(1000, 15), (1002, 19)])
  | 110 => some (12, [(1000, 15), (1002, 19)])
  | 111 => some (9, [(1000, 12)])
  | 112 => some (17, [(1000, 20)])
  | _ => none
def tb_hn (i pc x : Nat) : Option (Option Nat) := match tb_hx i with
  | none => some none
  | some (e, hs) => if pc < e then (hs.find? (fun q => q.1 == x)).map (fun q => some q.2) else some none
def tb_rI (i : Nat) (x : Int32) : Bool := match tb_re i with
  | some ty => decide (narrow ty (.int x) = .int x)
  | none => false
def tb_rA (i : Nat) : Bool := match tb_re i with
  | some (.object _) => true
  | _ => false
def tb_rV (i : Nat) : Bool := (tb_re i).isNone
abbrev tb_Row : Type := Nat × Instr × Nat × Nat × Int32 × List Nat
def tl_0_0 : List tb_Row := [(0, .aload_n 0, 0, 0, 0, []), (1, .invokespecial 1, 1000, 0, 0, []), (4, .aload_n 0, 0, 0, 0, []), (5, .new 7, 4, 0, 0, []), (8, .dup, 0, 0, 0, []), (9, .invokespecial 9, 87, 1, 0, []), (12, .putfield 10, 6, 0, 0, []), (15, .aload_n 0, 0, 0, 0, []), (16, .bipush 6, 0, 0, 6, []), (18, .anewarray 7, 4, 0, 0, []), (21, .putfield 16, 6, 1, 0, []), (24, .aload_n 0, 0, 0, 0, []), (25, .bipush 6, 0, 0, 6, []), (27, .newarray .int, 0, 0, 0, []), (29, .putfield 20, 6, 2, 0, []), (32, .aload_n 0, 0, 0, 0, []), (33, .new 24, 2, 0, 0, []), (36, .dup, 0, 0, 0, []), (37, .invokespecial 26, 79, 1, 0, []), (40, .putfield 27, 6, 3, 0, []), (43, .aload_n 0, 0, 0, 0, []), (44, .new 31, 1, 0, 0, []), (47, .dup, 0, 0, 0, []), (48, .invokespecial 33, 76, 1, 0, []), (51, .putfield 34, 6, 4, 0, []), (54, .aload_n 0, 0, 0, 0, []), (55, .bipush 96, 0, 0, 96, []), (57, .anewarray 38, 0, 0, 0, []), (60, .putfield 40, 6, 5, 0, []), (63, .aload_n 0, 0, 0, 0, []), (64, .new 44, 3, 0, 0, []), (67, .dup, 0, 0, 0, []), (68, .invokespecial 46, 80, 1, 0, []), (71, .putfield 47, 6, 6, 0, []), (74, .aload_n 0, 0, 0, 0, []), (75, .bipush 96, 0, 0, 96, []), (77, .putfield 51, 6, 7, 0, []), (80, .aload_n 0, 0, 0, 0, []), (81, .bipush 20, 0, 0, 20, []), (83, .newarray .int, 0, 0, 0, []), (85, .putfield 55, 6, 8, 0, []), (88, .aload_n 0, 0, 0, 0, []), (89, .bipush 20, 0, 0, 20, []), (91, .anewarray 58, 5, 0, 0, []), (94, .putfield 60, 6, 9, 0, []), (97, .aload_n 0, 0, 0, 0, []), (98, .iconst 0, 0, 0, 0, []), (99, .putfield 64, 6, 10, 0, []), (102, .aload_n 0, 0, 0, 0, []), (103, .iconst 0, 0, 0, 0, []), (104, .putfield 67, 6, 11, 0, []), (107, .aload_n 0, 0, 0, 0, []), (108, .iconst 0, 0, 0, 0, []), (109, .putfield 70, 6, 12, 0, []), (112, .aload_n 0, 0, 0, 0, []), (113, .iconst 0, 0, 0, 0, []), (114, .putfield 73, 6, 13, 0, []), (117, .aload_n 0, 0, 0, 0, []), (118, .iconst 0, 0, 0, 0, []), (119, .putfield 76, 6, 14, 0, [])]
def tl_0_1 : List tb_Row := [(122, .iconst 0, 0, 0, 0, []), (123, .istore_n 1, 0, 0, 0, []), (124, .iload_n 1, 0, 0, 0, []), (125, .bipush 6, 0, 0, 6, []), (127, .if_icmp .ge 33, 160, 0, 0, []), (130, .aload_n 0, 0, 0, 0, []), (131, .getfield 16, 6, 1, 0, []), (134, .iload_n 1, 0, 0, 0, []), (135, .new 7, 4, 0, 0, []), (138, .dup, 0, 0, 0, []), (139, .invokespecial 9, 87, 1, 0, []), (142, .aastore, 0, 0, 0, []), (143, .aload_n 0, 0, 0, 0, []), (144, .getfield 16, 6, 1, 0, []), (147, .iload_n 1, 0, 0, 0, []), (148, .aaload, 0, 0, 0, []), (149, .bipush 48, 0, 0, 48, []), (151, .invokevirtual 79, 89, 2, 0, []), (154, .iinc 1 1, 0, 0, 1, []), (157, .goto (-33), 124, 0, 0, []), (160, .iconst 0, 0, 0, 0, []), (161, .istore_n 1, 0, 0, 0, []), (162, .iload_n 1, 0, 0, 0, []), (163, .bipush 96, 0, 0, 96, []), (165, .if_icmp .ge 22, 187, 0, 0, []), (168, .aload_n 0, 0, 0, 0, []), (169, .getfield 40, 6, 5, 0, []), (172, .iload_n 1, 0, 0, 0, []), (173, .new 38, 0, 0, 0, []), (176, .dup, 0, 0, 0, []), (177, .invokespecial 83, 75, 1, 0, []), (180, .aastore, 0, 0, 0, []), (181, .iinc 1 1, 0, 0, 1, []), (184, .goto (-22), 162, 0, 0, []), (187, .iconst 0, 0, 0, 0, []), (188, .istore_n 1, 0, 0, 0, []), (189, .iload_n 1, 0, 0, 0, []), (190, .bipush 20, 0, 0, 20, []), (192, .if_icmp .ge 22, 214, 0, 0, []), (195, .aload_n 0, 0, 0, 0, []), (196, .getfield 60, 6, 9, 0, []), (199, .iload_n 1, 0, 0, 0, []), (200, .new 58, 5, 0, 0, []), (203, .dup, 0, 0, 0, []), (204, .invokespecial 84, 93, 1, 0, []), (207, .aastore, 0, 0, 0, []), (208, .iinc 1 1, 0, 0, 1, []), (211, .goto (-22), 189, 0, 0, []), (214, .return_, 0, 0, 0, [])]
def tl_0 : List tb_Row := tl_0_0 ++ tl_0_1
def tl_1_0 : List tb_Row := [(0, .aload_n 0, 0, 0, 0, []), (1, .getfield 10, 6, 0, 0, []), (4, .getfield 85, 4, 1, 0, []), (7, .lload_n 1, 0, 0, 0, []), (8, .invokestatic 88, 22, 1, 0, []), (11, .iadd, 0, 0, 0, []), (12, .bipush 24, 0, 0, 24, []), (14, .if_icmp .le 5, 19, 0, 0, []), (17, .iconst (-1), 0, 0, (-1), []), (18, .ireturn, 0, 0, 0, []), (19, .iconst 0, 0, 0, 0, []), (20, .istore_n 3, 0, 0, 0, []), (21, .iload_n 3, 0, 0, 0, []), (22, .bipush 8, 0, 0, 8, []), (24, .if_icmp .ge 30, 54, 0, 0, []), (27, .lload_n 1, 0, 0, 0, []), (28, .iload_n 3, 0, 0, 0, []), (29, .invokestatic 92, 21, 2, 0, []), (32, .istore 4, 0, 0, 0, []), (34, .iload 4, 0, 0, 0, []), (36, .ifCond .eq 12, 48, 0, 0, []), (39, .aload_n 0, 0, 0, 0, []), (40, .getfield 10, 6, 0, 0, []), (43, .iload 4, 0, 0, 0, []), (45, .invokevirtual 79, 89, 2, 0, []), (48, .iinc 3 1, 0, 0, 1, []), (51, .goto (-30), 21, 0, 0, []), (54, .aload_n 0, 0, 0, 0, []), (55, .getfield 10, 6, 0, 0, []), (58, .getfield 85, 4, 1, 0, []), (61, .ireturn, 0, 0, 0, [])]
def tl_1 : List tb_Row := tl_1_0
def tl_2_0 : List tb_Row := [(0, .aload_n 0, 0, 0, 0, []), (1, .getfield 10, 6, 0, 0, []), (4, .getfield 85, 4, 1, 0, []), (7, .istore_n 1, 0, 0, 0, []), (8, .aload_n 0, 0, 0, 0, []), (9, .getfield 10, 6, 0, 0, []), (12, .iconst 0, 0, 0, 0, []), (13, .putfield 85, 4, 1, 0, []), (16, .iload_n 1, 0, 0, 0, []), (17, .ireturn, 0, 0, 0, [])]
def tl_2 : List tb_Row := tl_2_0
def tl_3_0 : List tb_Row := [(0, .iload_n 1, 0, 0, 0, []), (1, .invokestatic 96, 17, 1, 0, []), (4, .aload_n 0, 0, 0, 0, []), (5, .getfield 10, 6, 0, 0, []), (8, .invokevirtual 100, 91, 1, 0, []), (11, .istore_n 2, 0, 0, 0, []), (12, .iload_n 2, 0, 0, 0, []), (13, .iconst (-1), 0, 0, (-1), []), (14, .if_icmp .ne 31, 45, 0, 0, []), (17, .aload_n 0, 0, 0, 0, []), (18, .getfield 16, 6, 1, 0, []), (21, .iload_n 1, 0, 0, 0, []), (22, .aaload, 0, 0, 0, []), (23, .aload_n 0, 0, 0, 0, []), (24, .getfield 10, 6, 0, 0, []), (27, .invokevirtual 104, 90, 2, 0, []), (30, .aload_n 0, 0, 0, 0, []), (31, .getfield 10, 6, 0, 0, []), (34, .iconst 0, 0, 0, 0, []), (35, .putfield 85, 4, 1, 0, []), (38, .aload_n 0, 0, 0, 0, []), (39, .getfield 47, 6, 6, 0, []), (42, .invokevirtual 108, 84, 1, 0, []), (45, .iload_n 2, 0, 0, 0, []), (46, .ireturn, 0, 0, 0, [])]
def tl_3 : List tb_Row := tl_3_0
def tl_4_0 : List tb_Row := [(0, .iload_n 1, 0, 0, 0, []), (1, .invokestatic 111, 16, 1, 0, []), (4, .iload_n 2, 0, 0, 0, []), (5, .invokestatic 114, 18, 1, 0, []), (8, .iload_n 1, 0, 0, 0, []), (9, .bipush 16, 0, 0, 16, []), (11, .imul, 0, 0, 0, []), (12, .iload_n 2, 0, 0, 0, []), (13, .iadd, 0, 0, 0, []), (14, .istore 4, 0, 0, 0, []), (16, .aload_n 0, 0, 0, 0, []), (17, .getfield 27, 6, 3, 0, []), (20, .getfield 117, 2, 0, 0, []), (23, .iload 4, 0, 0, 0, []), (25, .iaload, 0, 0, 0, []), (26, .iload_n 3, 0, 0, 0, []), (27, .if_icmp .ne 5, 32, 0, 0, []), (30, .iconst 0, 0, 0, 0, []), (31, .ireturn, 0, 0, 0, []), (32, .aload_n 0, 0, 0, 0, []), (33, .aload_n 0, 0, 0, 0, []), (34, .getfield 27, 6, 3, 0, []), (37, .getfield 120, 2, 2, 0, []), (40, .iload_n 1, 0, 0, 0, []), (41, .iaload, 0, 0, 0, []), (42, .invokevirtual 123, 23, 2, 0, []), (45, .aload_n 0, 0, 0, 0, []), (46, .getfield 27, 6, 3, 0, []), (49, .getfield 117, 2, 0, 0, []), (52, .iload 4, 0, 0, 0, []), (54, .iload_n 3, 0, 0, 0, []), (55, .iastore, 0, 0, 0, []), (56, .aload_n 0, 0, 0, 0, []), (57, .getfield 27, 6, 3, 0, []), (60, .getfield 126, 2, 1, 0, []), (63, .iload 4, 0, 0, 0, []), (65, .aload_n 0, 0, 0, 0, []), (66, .getfield 34, 6, 4, 0, []), (69, .getfield 129, 1, 0, 0, []), (72, .iastore, 0, 0, 0, []), (73, .iconst 1, 0, 0, 1, []), (74, .ireturn, 0, 0, 0, [])]
def tl_4 : List tb_Row := tl_4_0
def tl_5_0 : List tb_Row := [(0, .iload_n 1, 0, 0, 0, []), (1, .invokestatic 96, 17, 1, 0, []), (4, .aload_n 0, 0, 0, 0, []), (5, .getfield 20, 6, 2, 0, []), (8, .iload_n 1, 0, 0, 0, []), (9, .iaload, 0, 0, 0, []), (10, .iload_n 2, 0, 0, 0, []), (11, .if_icmp .ne 5, 16, 0, 0, []), (14, .iconst 0, 0, 0, 0, []), (15, .ireturn, 0, 0, 0, []), (16, .aload_n 0, 0, 0, 0, []), (17, .iconst 0, 0, 0, 0, []), (18, .invokevirtual 123, 23, 2, 0, []), (21, .aload_n 0, 0, 0, 0, []), (22, .getfield 20, 6, 2, 0, []), (25, .iload_n 1, 0, 0, 0, []), (26, .iload_n 2, 0, 0, 0, []), (27, .iastore, 0, 0, 0, []), (28, .iconst 1, 0, 0, 1, []), (29, .ireturn, 0, 0, 0, [])]
def tl_5 : List tb_Row := tl_5_0
def tl_6_0 : List tb_Row := [(0, .iload_n 1, 0, 0, 0, []), (1, .invokestatic 111, 16, 1, 0, []), (4, .iload_n 2, 0, 0, 0, []), (5, .iconst 3, 0, 0, 3, []), (6, .invokestatic 132, 15, 2, 0, []), (9, .aload_n 0, 0, 0, 0, []), (10, .getfield 27, 6, 3, 0, []), (13, .getfield 120, 2, 2, 0, []), (16, .iload_n 1, 0, 0, 0, []), (17, .iload_n 2, 0, 0, 0, []), (18, .iastore, 0, 0, 0, []), (19, .aload_n 0, 0, 0, 0, []), (20, .getfield 47, 6, 6, 0, []), (23, .invokevirtual 108, 84, 1, 0, []), (26, .return_, 0, 0, 0, [])]
def tl_6 : List tb_Row := tl_6_0
def tl_7_0 : List tb_Row := [(0, .iload_n 1, 0, 0, 0, []), (1, .iload_n 2, 0, 0, 0, []), (2, .invokestatic 136, 19, 2, 0, []), (5, .iload_n 1, 0, 0, 0, []), (6, .bipush 16, 0, 0, 16, []), (8, .imul, 0, 0, 0, []), (9, .iload_n 2, 0, 0, 0, []), (10, .iadd, 0, 0, 0, []), (11, .istore_n 3, 0, 0, 0, []), (12, .getstatic 139, 3, 0, 0, []), (15, .astore 4, 0, 0, 0, []), (17, .iconst 0, 0, 0, 0, []), (18, .istore 5, 0, 0, 0, []), (20, .iload 5, 0, 0, 0, []), (22, .bipush 96, 0, 0, 96, []), (24, .if_icmp .gt 29, 53, 0, 0, []), (27, .aload 4, 0, 0, 0, []), (29, .getstatic 139, 3, 0, 0, []), (32, .if_acmp .ne 21, 53, 0, 0, []), (35, .aload_n 0, 0, 0, 0, []), (36, .iconst 0, 0, 0, 0, []), (37, .putfield 64, 6, 10, 0, []), (40, .aload_n 0, 0, 0, 0, []), (41, .iload_n 3, 0, 0, 0, []), (42, .invokevirtual 145, 25, 2, 0, []), (45, .astore 4, 0, 0, 0, []), (47, .iinc 5 1, 0, 0, 1, []), (50, .goto (-30), 20, 0, 0, []), (53, .aload 4, 0, 0, 0, []), (55, .getstatic 149, 1, 0, 0, []), (58, .if_acmp .eq 13, 71, 0, 0, []), (61, .new 152, 1001, 0, 0, []), (64, .dup, 0, 0, 0, []), (70, .athrow, 0, 0, 0, []), (71, .aload_n 0, 0, 0, 0, []), (72, .getfield 47, 6, 6, 0, []), (75, .iload_n 3, 0, 0, 0, []), (76, .invokevirtual 159, 82, 2, 0, []), (79, .aload_n 0, 0, 0, 0, []), (80, .invokevirtual 162, 24, 1, 0, []), (83, .pop, 0, 0, 0, []), (84, .aload_n 0, 0, 0, 0, []), (85, .getfield 40, 6, 5, 0, []), (88, .iload_n 3, 0, 0, 0, []), (89, .aaload, 0, 0, 0, []), (90, .getfield 165, 0, 0, 0, []), (93, .ireturn, 0, 0, 0, [])]
def tl_7 : List tb_Row := tl_7_0
def tl_8_0 : List tb_Row := [(0, .iload_n 1, 0, 0, 0, []), (1, .tableswitch 75 0 5 #[39, 47, 52, 57, 62, 67], 76, 39, 0, [40, 48, 53, 58, 63, 68]), (40, .aload_n 0, 0, 0, 0, []), (41, .getfield 34, 6, 4, 0, []), (44, .getfield 129, 1, 0, 0, []), (47, .ireturn, 0, 0, 0, []), (48, .aload_n 0, 0, 0, 0, []), (49, .getfield 67, 6, 11, 0, []), (52, .ireturn, 0, 0, 0, []), (53, .aload_n 0, 0, 0, 0, []), (54, .getfield 70, 6, 12, 0, []), (57, .ireturn, 0, 0, 0, []), (58, .aload_n 0, 0, 0, 0, []), (59, .getfield 73, 6, 13, 0, []), (62, .ireturn, 0, 0, 0, []), (63, .aload_n 0, 0, 0, 0, []), (64, .getfield 76, 6, 14, 0, []), (67, .ireturn, 0, 0, 0, []), (68, .aload_n 0, 0, 0, 0, []), (69, .getfield 47, 6, 6, 0, []), (72, .getfield 168, 3, 0, 0, []), (75, .ireturn, 0, 0, 0, []), (76, .iconst (-1), 0, 0, (-1), []), (77, .ireturn, 0, 0, 0, [])]
def tl_8 : List tb_Row := tl_8_0
def tl_9_0 : List tb_Row := [(0, .iload_n 1, 0, 0, 0, []), (1, .iload_n 2, 0, 0, 0, []), (2, .invokestatic 136, 19, 2, 0, []), (5, .aload_n 0, 0, 0, 0, []), (6, .getfield 47, 6, 6, 0, []), (9, .iload_n 1, 0, 0, 0, []), (10, .bipush 16, 0, 0, 16, []), (12, .imul, 0, 0, 0, []), (13, .iload_n 2, 0, 0, 0, []), (14, .iadd, 0, 0, 0, []), (15, .invokevirtual 171, 81, 2, 0, []), (18, .ireturn, 0, 0, 0, [])]
def tl_9 : List tb_Row := tl_9_0
def tl_10_0 : List tb_Row := [(0, .iload_n 1, 0, 0, 0, []), (1, .iload_n 2, 0, 0, 0, []), (2, .invokestatic 136, 19, 2, 0, []), (5, .iload_n 3, 0, 0, 0, []), (6, .bipush 6, 0, 0, 6, []), (8, .invokestatic 132, 15, 2, 0, []), (11, .aload_n 0, 0, 0, 0, []), (12, .iload_n 1, 0, 0, 0, []), (13, .bipush 16, 0, 0, 16, []), (15, .imul, 0, 0, 0, []), (16, .iload_n 2, 0, 0, 0, []), (17, .iadd, 0, 0, 0, []), (18, .invokevirtual 175, 20, 2, 0, []), (21, .astore 4, 0, 0, 0, []), (23, .iload_n 3, 0, 0, 0, []), (24, .tableswitch 74 0 4 #[36, 42, 48, 54, 60], 98, 36, 0, [60, 66, 72, 78, 84]), (60, .aload 4, 0, 0, 0, []), (62, .getfield 165, 0, 0, 0, []), (65, .ireturn, 0, 0, 0, []), (66, .aload 4, 0, 0, 0, []), (68, .getfield 179, 0, 3, 0, []), (71, .ireturn, 0, 0, 0, []), (72, .aload 4, 0, 0, 0, []), (74, .getfield 182, 0, 4, 0, []), (77, .ireturn, 0, 0, 0, []), (78, .aload 4, 0, 0, 0, []), (80, .getfield 184, 0, 5, 0, []), (83, .ireturn, 0, 0, 0, []), (84, .aload 4, 0, 0, 0, []), (86, .getfield 187, 0, 6, 0, []), (89, .ifCond .eq 7, 96, 0, 0, []), (92, .iconst 1, 0, 0, 1, []), (93, .goto 4, 97, 0, 0, []), (96, .iconst 0, 0, 0, 0, []), (97, .ireturn, 0, 0, 0, []), (98, .aload 4, 0, 0, 0, []), (100, .getfield 191, 0, 2, 0, []), (103, .ireturn, 0, 0, 0, [])]
def tl_10 : List tb_Row := tl_10_0
def tl_11_0 : List tb_Row := [(0, .iload_n 1, 0, 0, 0, []), (1, .iload_n 2, 0, 0, 0, []), (2, .invokestatic 136, 19, 2, 0, []), (5, .aload_n 0, 0, 0, 0, []), (6, .iload_n 1, 0, 0, 0, []), (7, .bipush 16, 0, 0, 16, []), (9, .imul, 0, 0, 0, []), (10, .iload_n 2, 0, 0, 0, []), (11, .iadd, 0, 0, 0, []), (12, .invokevirtual 175, 20, 2, 0, []), (15, .astore 4, 0, 0, 0, []), (17, .iload_n 3, 0, 0, 0, []), (18, .ifCond .lt 22, 40, 0, 0, []), (21, .iload_n 3, 0, 0, 0, []), (22, .aload 4, 0, 0, 0, []), (24, .getfield 191, 0, 2, 0, []), (27, .if_icmp .ge 13, 40, 0, 0, []), (30, .aload 4, 0, 0, 0, []), (32, .getfield 194, 0, 1, 0, []), (35, .iload_n 3, 0, 0, 0, []), (36, .iaload, 0, 0, 0, []), (37, .goto 4, 41, 0, 0, []), (40, .iconst (-1), 0, 0, (-1), []), (41, .ireturn, 0, 0, 0, [])]
def tl_11 : List tb_Row := tl_11_0
def tl_12_0 : List tb_Row := [(0, .iload_n 1, 0, 0, 0, []), (1, .ifCond .lt 25, 26, 0, 0, []), (4, .iload_n 1, 0, 0, 0, []), (5, .aload_n 0, 0, 0, 0, []), (6, .getfield 47, 6, 6, 0, []), (9, .getfield 168, 3, 0, 0, []), (12, .if_icmp .ge 14, 26, 0, 0, []), (15, .aload_n 0, 0, 0, 0, []), (16, .getfield 47, 6, 6, 0, []), (19, .iload_n 1, 0, 0, 0, []), (20, .invokevirtual 197, 85, 2, 0, []), (23, .goto 4, 27, 0, 0, []), (26, .iconst (-1), 0, 0, (-1), []), (27, .ireturn, 0, 0, 0, [])]
def tl_12 : List tb_Row := tl_12_0
def tl_13_0 : List tb_Row := [(0, .iload_n 1, 0, 0, 0, []), (1, .iconst 1, 0, 0, 1, []), (2, .if_icmp .lt 9, 11, 0, 0, []), (5, .iload_n 1, 0, 0, 0, []), (6, .bipush 96, 0, 0, 96, []), (8, .if_icmp .le 13, 21, 0, 0, []), (11, .new 201, 1000, 0, 0, []), (14, .dup, 0, 0, 0, []), (20, .athrow, 0, 0, 0, []), (21, .aload_n 0, 0, 0, 0, []), (22, .iload_n 1, 0, 0, 0, []), (23, .putfield 51, 6, 7, 0, []), (26, .aload_n 0, 0, 0, 0, []), (27, .invokevirtual 162, 24, 1, 0, []), (30, .ireturn, 0, 0, 0, [])]
def tl_13 : List tb_Row := tl_13_0
def tl_14_0 : List tb_Row := [(0, .iload_n 1, 0, 0, 0, []), (1, .iload_n 2, 0, 0, 0, []), (2, .invokestatic 136, 19, 2, 0, []), (5, .iload_n 1, 0, 0, 0, []), (6, .bipush 16, 0, 0, 16, []), (8, .imul, 0, 0, 0, []), (9, .iload_n 2, 0, 0, 0, []), (10, .iadd, 0, 0, 0, []), (11, .istore_n 3, 0, 0, 0, []), (12, .aload_n 0, 0, 0, 0, []), (13, .getfield 47, 6, 6, 0, []), (16, .iload_n 3, 0, 0, 0, []), (17, .invokevirtual 171, 81, 2, 0, []), (20, .istore 4, 0, 0, 0, []), (22, .aload_n 0, 0, 0, 0, []), (23, .getfield 47, 6, 6, 0, []), (26, .iload_n 3, 0, 0, 0, []), (27, .invokevirtual 206, 83, 2, 0, []), (30, .iload 4, 0, 0, 0, []), (32, .ireturn, 0, 0, 0, [])]
def tl_14 : List tb_Row := tl_14_0
def tl_15_0 : List tb_Row := [(0, .iload_n 0, 0, 0, 0, []), (1, .ifCond .lt 8, 9, 0, 0, []), (4, .iload_n 0, 0, 0, 0, []), (5, .iload_n 1, 0, 0, 0, []), (6, .if_icmp .lt 13, 19, 0, 0, []), (9, .new 201, 1000, 0, 0, []), (12, .dup, 0, 0, 0, []), (18, .athrow, 0, 0, 0, []), (19, .return_, 0, 0, 0, [])]
def tl_15 : List tb_Row := tl_15_0
def tl_16_0 : List tb_Row := [(0, .iload_n 0, 0, 0, 0, []), (1, .iconst 3, 0, 0, 3, []), (2, .invokestatic 132, 15, 2, 0, []), (5, .return_, 0, 0, 0, [])]
def tl_16 : List tb_Row := tl_16_0
def tl_17_0 : List tb_Row := [(0, .iload_n 0, 0, 0, 0, []), (1, .bipush 6, 0, 0, 6, []), (3, .invokestatic 132, 15, 2, 0, []), (6, .return_, 0, 0, 0, [])]
def tl_17 : List tb_Row := tl_17_0
def tl_18_0 : List tb_Row := [(0, .iload_n 0, 0, 0, 0, []), (1, .bipush 16, 0, 0, 16, []), (3, .invokestatic 132, 15, 2, 0, []), (6, .return_, 0, 0, 0, [])]
def tl_18 : List tb_Row := tl_18_0
def tl_19_0 : List tb_Row := [(0, .iload_n 0, 0, 0, 0, []), (1, .invokestatic 96, 17, 1, 0, []), (4, .iload_n 1, 0, 0, 0, []), (5, .invokestatic 114, 18, 1, 0, []), (8, .return_, 0, 0, 0, [])]
def tl_19 : List tb_Row := tl_19_0
def tl_20_0 : List tb_Row := [(0, .aload_n 0, 0, 0, 0, []), (1, .getfield 47, 6, 6, 0, []), (4, .iload_n 1, 0, 0, 0, []), (5, .invokevirtual 171, 81, 2, 0, []), (8, .ifCond .ne 13, 21, 0, 0, []), (11, .new 211, 1002, 0, 0, []), (14, .dup, 0, 0, 0, []), (20, .athrow, 0, 0, 0, []), (21, .aload_n 0, 0, 0, 0, []), (22, .getfield 40, 6, 5, 0, []), (25, .iload_n 1, 0, 0, 0, []), (26, .aaload, 0, 0, 0, []), (27, .areturn, 0, 0, 0, [])]
def tl_20 : List tb_Row := tl_20_0
def tl_21_0 : List tb_Row := [(0, .lload_n 0, 0, 0, 0, []), (1, .bipush 8, 0, 0, 8, []), (3, .iload_n 2, 0, 0, 0, []), (4, .imul, 0, 0, 0, []), (5, .lushr, 0, 0, 0, []), (6, .ldc2_w 216, 255, 0, 0, []), (9, .land, 0, 0, 0, []), (10, .l2i, 0, 0, 0, []), (11, .i2c, 0, 0, 0, []), (12, .ireturn, 0, 0, 0, [])]
def tl_21 : List tb_Row := tl_21_0
def tl_22_0 : List tb_Row := [(0, .iconst 0, 0, 0, 0, []), (1, .istore_n 2, 0, 0, 0, []), (2, .iconst 0, 0, 0, 0, []), (3, .istore_n 3, 0, 0, 0, []), (4, .iload_n 3, 0, 0, 0, []), (5, .bipush 8, 0, 0, 8, []), (7, .if_icmp .ge 20, 27, 0, 0, []), (10, .lload_n 0, 0, 0, 0, []), (11, .iload_n 3, 0, 0, 0, []), (12, .invokestatic 92, 21, 2, 0, []), (15, .ifCond .eq 6, 21, 0, 0, []), (18, .iinc 2 1, 0, 0, 1, []), (21, .iinc 3 1, 0, 0, 1, []), (24, .goto (-20), 4, 0, 0, []), (27, .iload_n 2, 0, 0, 0, []), (28, .ireturn, 0, 0, 0, [])]
def tl_22 : List tb_Row := tl_22_0
def tl_23_0 : List tb_Row := [(0, .aload_n 0, 0, 0, 0, []), (1, .getfield 34, 6, 4, 0, []), (4, .iload_n 1, 0, 0, 0, []), (5, .invokevirtual 218, 77, 2, 0, []), (8, .iconst 0, 0, 0, 0, []), (9, .istore_n 2, 0, 0, 0, []), (10, .iload_n 2, 0, 0, 0, []), (11, .bipush 96, 0, 0, 96, []), (13, .if_icmp .ge 29, 42, 0, 0, []), (16, .aload_n 0, 0, 0, 0, []), (17, .getfield 40, 6, 5, 0, []), (20, .iload_n 2, 0, 0, 0, []), (21, .aaload, 0, 0, 0, []), (22, .getfield 187, 0, 6, 0, []), (25, .ifCond .eq 11, 36, 0, 0, []), (28, .aload_n 0, 0, 0, 0, []), (29, .getfield 47, 6, 6, 0, []), (32, .iload_n 2, 0, 0, 0, []), (33, .invokevirtual 206, 83, 2, 0, []), (36, .iinc 2 1, 0, 0, 1, []), (39, .goto (-29), 10, 0, 0, []), (42, .return_, 0, 0, 0, [])]
def tl_23 : List tb_Row := tl_23_0
def tl_24_0 : List tb_Row := [(0, .iconst 0, 0, 0, 0, []), (1, .aload_n 0, 0, 0, 0, []), (2, .getfield 47, 6, 6, 0, []), (5, .getfield 168, 3, 0, 0, []), (8, .aload_n 0, 0, 0, 0, []), (9, .getfield 51, 6, 7, 0, []), (12, .isub, 0, 0, 0, []), (13, .invokestatic 221, 1001, 0, 0, []), (16, .istore_n 1, 0, 0, 0, []), (17, .iconst 0, 0, 0, 0, []), (18, .istore_n 2, 0, 0, 0, []), (19, .iload_n 2, 0, 0, 0, []), (20, .iload_n 1, 0, 0, 0, []), (21, .if_icmp .ge 24, 45, 0, 0, []), (24, .aload_n 0, 0, 0, 0, []), (25, .getfield 47, 6, 6, 0, []), (28, .aload_n 0, 0, 0, 0, []), (29, .getfield 47, 6, 6, 0, []), (32, .iconst 0, 0, 0, 0, []), (33, .invokevirtual 197, 85, 2, 0, []), (36, .invokevirtual 206, 83, 2, 0, []), (39, .iinc 2 1, 0, 0, 1, []), (42, .goto (-23), 19, 0, 0, []), (45, .iload_n 1, 0, 0, 0, []), (46, .ireturn, 0, 0, 0, [])]
def tl_24 : List tb_Row := tl_24_0
def tl_25_0 : List tb_Row := [(0, .aload_n 0, 0, 0, 0, []), (1, .iload_n 1, 0, 0, 0, []), (2, .invokevirtual 227, 26, 2, 0, []), (5, .istore_n 2, 0, 0, 0, []), (6, .iload_n 2, 0, 0, 0, []), (7, .iconst (-1), 0, 0, (-1), []), (8, .if_icmp .eq 12, 20, 0, 0, []), (11, .aload_n 0, 0, 0, 0, []), (12, .iload_n 2, 0, 0, 0, []), (13, .invokevirtual 230, 27, 2, 0, []), (16, .getstatic 139, 3, 0, 0, []), (19, .areturn, 0, 0, 0, []), (20, .aload_n 0, 0, 0, 0, []), (21, .iload_n 1, 0, 0, 0, []), (22, .invokevirtual 233, 28, 2, 0, []), (25, .ifCond .ne 11, 36, 0, 0, []), (28, .aload_n 0, 0, 0, 0, []), (29, .iload_n 1, 0, 0, 0, []), (30, .invokevirtual 236, 29, 2, 0, []), (33, .ifCond .eq 7, 40, 0, 0, []), (36, .getstatic 149, 1, 0, 0, []), (39, .areturn, 0, 0, 0, []), (40, .aload_n 0, 0, 0, 0, []), (41, .getfield 64, 6, 10, 0, []), (44, .bipush 20, 0, 0, 20, []), (46, .if_icmp .lt 7, 53, 0, 0, []), (49, .getstatic 239, 4, 0, 0, []), (52, .areturn, 0, 0, 0, []), (53, .aload_n 0, 0, 0, 0, []), (54, .getfield 55, 6, 8, 0, []), (57, .aload_n 0, 0, 0, 0, []), (58, .getfield 64, 6, 10, 0, []), (61, .iload_n 1, 0, 0, 0, []), (62, .iastore, 0, 0, 0, []), (63, .aload_n 0, 0, 0, 0, []), (64, .dup, 0, 0, 0, []), (65, .getfield 64, 6, 10, 0, []), (68, .iconst 1, 0, 0, 1, []), (69, .iadd, 0, 0, 0, []), (70, .putfield 64, 6, 10, 0, []), (73, .aload_n 0, 0, 0, 0, []), (74, .iload_n 1, 0, 0, 0, []), (75, .invokevirtual 242, 30, 2, 0, []), (78, .astore_n 3, 0, 0, 0, []), (79, .aload_n 3, 0, 0, 0, []), (80, .getstatic 245, 2, 0, 0, []), (83, .if_acmp .ne 20, 103, 0, 0, []), (86, .aload_n 0, 0, 0, 0, []), (87, .iload_n 1, 0, 0, 0, []), (88, .aload_n 0, 0, 0, 0, []), (89, .getfield 60, 6, 9, 0, []), (92, .aload_n 0, 0, 0, 0, []), (93, .getfield 64, 6, 10, 0, []), (96, .iconst 1, 0, 0, 1, []), (97, .isub, 0, 0, 0, []), (98, .aaload, 0, 0, 0, []), (99, .invokevirtual 248, 31, 3, 0, []), (102, .astore_n 3, 0, 0, 0, []), (103, .aload_n 3, 0, 0, 0, []), (104, .getstatic 149, 1, 0, 0, [])]
def tl_25_1 : List tb_Row := [(107, .if_acmp .ne 21, 128, 0, 0, []), (110, .aload_n 0, 0, 0, 0, []), (111, .dup, 0, 0, 0, []), (112, .getfield 64, 6, 10, 0, []), (115, .iconst 1, 0, 0, 1, []), (116, .isub, 0, 0, 0, []), (117, .putfield 64, 6, 10, 0, []), (120, .aload_n 0, 0, 0, 0, []), (121, .getfield 47, 6, 6, 0, []), (124, .iload_n 1, 0, 0, 0, []), (125, .invokevirtual 159, 82, 2, 0, []), (128, .aload_n 3, 0, 0, 0, []), (129, .areturn, 0, 0, 0, [])]
def tl_25 : List tb_Row := tl_25_0 ++ tl_25_1
def tl_26_0 : List tb_Row := [(0, .iconst 0, 0, 0, 0, []), (1, .istore_n 2, 0, 0, 0, []), (2, .iload_n 2, 0, 0, 0, []), (3, .aload_n 0, 0, 0, 0, []), (4, .getfield 64, 6, 10, 0, []), (7, .if_icmp .ge 21, 28, 0, 0, []), (10, .aload_n 0, 0, 0, 0, []), (11, .getfield 55, 6, 8, 0, []), (14, .iload_n 2, 0, 0, 0, []), (15, .iaload, 0, 0, 0, []), (16, .iload_n 1, 0, 0, 0, []), (17, .if_icmp .ne 5, 22, 0, 0, []), (20, .iload_n 2, 0, 0, 0, []), (21, .ireturn, 0, 0, 0, []), (22, .iinc 2 1, 0, 0, 1, []), (25, .goto (-23), 2, 0, 0, []), (28, .iconst (-1), 0, 0, (-1), []), (29, .ireturn, 0, 0, 0, [])]
def tl_26 : List tb_Row := tl_26_0
def tl_27_0 : List tb_Row := [(0, .iload_n 1, 0, 0, 0, []), (1, .istore_n 2, 0, 0, 0, []), (2, .iload_n 2, 0, 0, 0, []), (3, .aload_n 0, 0, 0, 0, []), (4, .getfield 64, 6, 10, 0, []), (7, .if_icmp .ge 98, 105, 0, 0, []), (10, .aload_n 0, 0, 0, 0, []), (11, .getfield 55, 6, 8, 0, []), (14, .iload_n 2, 0, 0, 0, []), (15, .iaload, 0, 0, 0, []), (16, .istore_n 3, 0, 0, 0, []), (17, .aload_n 0, 0, 0, 0, []), (18, .getfield 40, 6, 5, 0, []), (21, .iload_n 3, 0, 0, 0, []), (22, .aaload, 0, 0, 0, []), (23, .astore 4, 0, 0, 0, []), (25, .aload 4, 0, 0, 0, []), (27, .aload_n 0, 0, 0, 0, []), (28, .getfield 20, 6, 2, 0, []), (31, .iload_n 3, 0, 0, 0, []), (32, .bipush 16, 0, 0, 16, []), (34, .idiv, 0, 0, 0, []), (35, .iaload, 0, 0, 0, []), (36, .putfield 165, 0, 0, 0, []), (39, .aload 4, 0, 0, 0, []), (41, .iconst 0, 0, 0, 0, []), (42, .putfield 191, 0, 2, 0, []), (45, .aload 4, 0, 0, 0, []), (47, .aload_n 0, 0, 0, 0, []), (48, .getfield 34, 6, 4, 0, []), (51, .getfield 129, 1, 0, 0, []), (54, .putfield 179, 0, 3, 0, []), (57, .aload 4, 0, 0, 0, []), (59, .aload_n 0, 0, 0, 0, []), (60, .getfield 34, 6, 4, 0, []), (63, .getfield 129, 1, 0, 0, []), (66, .putfield 182, 0, 4, 0, []), (69, .aload 4, 0, 0, 0, []), (71, .iconst 0, 0, 0, 0, []), (72, .putfield 184, 0, 5, 0, []), (75, .aload 4, 0, 0, 0, []), (77, .iconst 1, 0, 0, 1, []), (78, .putfield 187, 0, 6, 0, []), (81, .aload_n 0, 0, 0, 0, []), (82, .getfield 47, 6, 6, 0, []), (85, .iload_n 3, 0, 0, 0, []), (86, .invokevirtual 159, 82, 2, 0, []), (89, .aload_n 0, 0, 0, 0, []), (90, .dup, 0, 0, 0, []), (91, .getfield 76, 6, 14, 0, []), (94, .iconst 1, 0, 0, 1, []), (95, .iadd, 0, 0, 0, []), (96, .putfield 76, 6, 14, 0, []), (99, .iinc 2 1, 0, 0, 1, []), (102, .goto (-100), 2, 0, 0, []), (105, .return_, 0, 0, 0, [])]
def tl_27 : List tb_Row := tl_27_0
def tl_28_0 : List tb_Row := [(0, .aload_n 0, 0, 0, 0, []), (1, .getfield 47, 6, 6, 0, []), (4, .iload_n 1, 0, 0, 0, []), (5, .invokevirtual 171, 81, 2, 0, []), (8, .ifCond .eq 26, 34, 0, 0, []), (11, .aload_n 0, 0, 0, 0, []), (12, .getfield 40, 6, 5, 0, []), (15, .iload_n 1, 0, 0, 0, []), (16, .aaload, 0, 0, 0, []), (17, .getfield 179, 0, 3, 0, []), (20, .aload_n 0, 0, 0, 0, []), (21, .getfield 34, 6, 4, 0, []), (24, .getfield 129, 1, 0, 0, []), (27, .if_icmp .ne 7, 34, 0, 0, []), (30, .iconst 1, 0, 0, 1, []), (31, .goto 4, 35, 0, 0, []), (34, .iconst 0, 0, 0, 0, []), (35, .ireturn, 0, 0, 0, [])]
def tl_28 : List tb_Row := tl_28_0
def tl_29_0 : List tb_Row := [(0, .aload_n 0, 0, 0, 0, []), (1, .getfield 40, 6, 5, 0, []), (4, .iload_n 1, 0, 0, 0, []), (5, .aaload, 0, 0, 0, []), (6, .astore_n 2, 0, 0, 0, []), (7, .aload_n 0, 0, 0, 0, []), (8, .getfield 47, 6, 6, 0, []), (11, .iload_n 1, 0, 0, 0, []), (12, .invokevirtual 171, 81, 2, 0, []), (15, .ifCond .eq 21, 36, 0, 0, []), (18, .aload_n 0, 0, 0, 0, []), (19, .getfield 34, 6, 4, 0, []), (22, .aload_n 2, 0, 0, 0, []), (23, .getfield 184, 0, 5, 0, []), (26, .aload_n 2, 0, 0, 0, []), (27, .getfield 179, 0, 3, 0, []), (30, .invokevirtual 252, 78, 3, 0, []), (33, .ifCond .eq 5, 38, 0, 0, []), (36, .iconst 0, 0, 0, 0, []), (37, .ireturn, 0, 0, 0, []), (38, .aload_n 2, 0, 0, 0, []), (39, .aload_n 0, 0, 0, 0, []), (40, .getfield 34, 6, 4, 0, []), (43, .getfield 129, 1, 0, 0, []), (46, .putfield 179, 0, 3, 0, []), (49, .aload_n 0, 0, 0, 0, []), (50, .dup, 0, 0, 0, []), (51, .getfield 73, 6, 13, 0, []), (54, .iconst 1, 0, 0, 1, []), (55, .iadd, 0, 0, 0, []), (56, .putfield 73, 6, 13, 0, []), (59, .aload_n 0, 0, 0, 0, []), (60, .getfield 47, 6, 6, 0, []), (63, .iload_n 1, 0, 0, 0, []), (64, .invokevirtual 159, 82, 2, 0, []), (67, .iconst 1, 0, 0, 1, []), (68, .ireturn, 0, 0, 0, [])]
def tl_29 : List tb_Row := tl_29_0
def tl_30_0 : List tb_Row := [(0, .aload_n 0, 0, 0, 0, []), (1, .getfield 47, 6, 6, 0, []), (4, .iload_n 1, 0, 0, 0, []), (5, .invokevirtual 171, 81, 2, 0, []), (8, .ifCond .ne 7, 15, 0, 0, []), (11, .getstatic 245, 2, 0, 0, []), (14, .areturn, 0, 0, 0, []), (15, .aload_n 0, 0, 0, 0, []), (16, .getfield 40, 6, 5, 0, []), (19, .iload_n 1, 0, 0, 0, []), (20, .aaload, 0, 0, 0, []), (21, .astore_n 2, 0, 0, 0, []), (22, .iconst 0, 0, 0, 0, []), (23, .istore_n 3, 0, 0, 0, []), (24, .iload_n 3, 0, 0, 0, []), (25, .aload_n 2, 0, 0, 0, []), (26, .getfield 191, 0, 2, 0, []), (29, .if_icmp .ge 53, 82, 0, 0, []), (32, .aload_n 2, 0, 0, 0, []), (33, .getfield 194, 0, 1, 0, []), (36, .iload_n 3, 0, 0, 0, []), (37, .iaload, 0, 0, 0, []), (38, .istore 4, 0, 0, 0, []), (40, .aload_n 0, 0, 0, 0, []), (41, .iload 4, 0, 0, 0, []), (43, .invokevirtual 256, 33, 2, 0, []), (46, .astore 5, 0, 0, 0, []), (48, .aload 5, 0, 0, 0, []), (50, .getstatic 149, 1, 0, 0, []), (53, .if_acmp .eq 6, 59, 0, 0, []), (56, .aload 5, 0, 0, 0, []), (58, .areturn, 0, 0, 0, []), (59, .aload_n 0, 0, 0, 0, []), (60, .iload 4, 0, 0, 0, []), (62, .invokevirtual 259, 36, 2, 0, []), (65, .aload_n 2, 0, 0, 0, []), (66, .getfield 179, 0, 3, 0, []), (69, .if_icmp .le 7, 76, 0, 0, []), (72, .getstatic 245, 2, 0, 0, []), (75, .areturn, 0, 0, 0, []), (76, .iinc 3 1, 0, 0, 1, []), (79, .goto (-55), 24, 0, 0, []), (82, .aload_n 2, 0, 0, 0, []), (83, .aload_n 0, 0, 0, 0, []), (84, .getfield 34, 6, 4, 0, []), (87, .getfield 129, 1, 0, 0, []), (90, .putfield 179, 0, 3, 0, []), (93, .aload_n 2, 0, 0, 0, []), (94, .aload_n 0, 0, 0, 0, []), (95, .aload_n 2, 0, 0, 0, []), (96, .invokevirtual 262, 38, 2, 0, []), (99, .putfield 184, 0, 5, 0, []), (102, .aload_n 0, 0, 0, 0, []), (103, .dup, 0, 0, 0, []), (104, .getfield 70, 6, 12, 0, []), (107, .iconst 1, 0, 0, 1, []), (108, .iadd, 0, 0, 0, []), (109, .putfield 70, 6, 12, 0, []), (112, .getstatic 149, 1, 0, 0, []), (115, .areturn, 0, 0, 0, [])]
def tl_30 : List tb_Row := tl_30_0
def tl_31_0 : List tb_Row := [(0, .aload_n 2, 0, 0, 0, []), (1, .aload_n 0, 0, 0, 0, []), (2, .getfield 16, 6, 1, 0, []), (5, .iload_n 1, 0, 0, 0, []), (6, .bipush 16, 0, 0, 16, []), (8, .idiv, 0, 0, 0, []), (9, .aaload, 0, 0, 0, []), (10, .iload_n 1, 0, 0, 0, []), (11, .bipush 16, 0, 0, 16, []), (13, .irem, 0, 0, 0, []), (14, .invokevirtual 266, 94, 3, 0, []), (17, .aload_n 2, 0, 0, 0, []), (18, .invokevirtual 270, 95, 1, 0, []), (21, .iconst 0, 0, 0, 0, []), (22, .istore_n 3, 0, 0, 0, []), (23, .iload_n 3, 0, 0, 0, []), (24, .bipush 24, 0, 0, 24, []), (26, .if_icmp .ge 54, 80, 0, 0, []), (29, .aload_n 2, 0, 0, 0, []), (30, .getfield 273, 5, 0, 0, []), (33, .iconst (-1), 0, 0, (-1), []), (34, .if_icmp .eq 46, 80, 0, 0, []), (37, .aload_n 0, 0, 0, 0, []), (38, .aload_n 2, 0, 0, 0, []), (39, .getfield 273, 5, 0, 0, []), (42, .invokevirtual 256, 33, 2, 0, []), (45, .astore 4, 0, 0, 0, []), (47, .aload 4, 0, 0, 0, []), (49, .getstatic 149, 1, 0, 0, []), (52, .if_acmp .eq 6, 58, 0, 0, []), (55, .aload 4, 0, 0, 0, []), (57, .areturn, 0, 0, 0, []), (58, .aload_n 2, 0, 0, 0, []), (59, .aload_n 0, 0, 0, 0, []), (60, .aload_n 2, 0, 0, 0, []), (61, .getfield 273, 5, 0, 0, []), (64, .invokevirtual 276, 35, 2, 0, []), (67, .invokevirtual 279, 96, 2, 0, []), (70, .aload_n 2, 0, 0, 0, []), (71, .invokevirtual 270, 95, 1, 0, []), (74, .iinc 3 1, 0, 0, 1, []), (77, .goto (-54), 23, 0, 0, []), (80, .aload_n 0, 0, 0, 0, []), (81, .iload_n 1, 0, 0, 0, []), (82, .aload_n 2, 0, 0, 0, []), (83, .invokevirtual 282, 32, 3, 0, []), (86, .aload_n 0, 0, 0, 0, []), (87, .dup, 0, 0, 0, []), (88, .getfield 67, 6, 11, 0, []), (91, .iconst 1, 0, 0, 1, []), (92, .iadd, 0, 0, 0, []), (93, .putfield 67, 6, 11, 0, []), (96, .getstatic 149, 1, 0, 0, []), (99, .areturn, 0, 0, 0, [])]
def tl_31 : List tb_Row := tl_31_0
def tl_32_0 : List tb_Row := [(0, .aload_n 0, 0, 0, 0, []), (1, .getfield 40, 6, 5, 0, []), (4, .iload_n 1, 0, 0, 0, []), (5, .aaload, 0, 0, 0, []), (6, .astore_n 3, 0, 0, 0, []), (7, .aload_n 0, 0, 0, 0, []), (8, .getfield 47, 6, 6, 0, []), (11, .iload_n 1, 0, 0, 0, []), (12, .invokevirtual 171, 81, 2, 0, []), (15, .ifCond .eq 14, 29, 0, 0, []), (18, .aload_n 3, 0, 0, 0, []), (19, .getfield 165, 0, 0, 0, []), (22, .aload_n 2, 0, 0, 0, []), (23, .getfield 286, 5, 1, 0, []), (26, .if_icmp .eq 14, 40, 0, 0, []), (29, .aload_n 3, 0, 0, 0, []), (30, .aload_n 0, 0, 0, 0, []), (31, .getfield 34, 6, 4, 0, []), (34, .getfield 129, 1, 0, 0, []), (37, .putfield 182, 0, 4, 0, []), (40, .aload_n 3, 0, 0, 0, []), (41, .aload_n 2, 0, 0, 0, []), (42, .getfield 286, 5, 1, 0, []), (45, .putfield 165, 0, 0, 0, []), (48, .aload_n 3, 0, 0, 0, []), (49, .aload_n 2, 0, 0, 0, []), (50, .getfield 287, 5, 3, 0, []), (53, .putfield 191, 0, 2, 0, []), (56, .aload_n 2, 0, 0, 0, []), (57, .getfield 288, 5, 2, 0, []), (60, .iconst 0, 0, 0, 0, []), (61, .aload_n 3, 0, 0, 0, []), (62, .getfield 194, 0, 1, 0, []), (65, .iconst 0, 0, 0, 0, []), (66, .aload_n 2, 0, 0, 0, []), (67, .getfield 287, 5, 3, 0, []), (70, .invokestatic 289, 1003, 0, 0, []), (73, .aload_n 3, 0, 0, 0, []), (74, .aload_n 0, 0, 0, 0, []), (75, .getfield 34, 6, 4, 0, []), (78, .getfield 129, 1, 0, 0, []), (81, .putfield 179, 0, 3, 0, []), (84, .aload_n 3, 0, 0, 0, []), (85, .aload_n 0, 0, 0, 0, []), (86, .aload_n 3, 0, 0, 0, []), (87, .invokevirtual 262, 38, 2, 0, []), (90, .putfield 184, 0, 5, 0, []), (93, .aload_n 3, 0, 0, 0, []), (94, .iconst 0, 0, 0, 0, []), (95, .putfield 187, 0, 6, 0, []), (98, .return_, 0, 0, 0, [])]
def tl_32 : List tb_Row := tl_32_0
def tl_33_0 : List tb_Row := [(0, .iload_n 1, 0, 0, 0, []), (1, .invokestatic 295, 34, 1, 0, []), (4, .ifCond .eq 14, 18, 0, 0, []), (7, .aload_n 0, 0, 0, 0, []), (8, .iload_n 1, 0, 0, 0, []), (9, .bipush 100, 0, 0, 100, []), (11, .isub, 0, 0, 0, []), (12, .invokevirtual 145, 25, 2, 0, []), (15, .goto 6, 21, 0, 0, []), (18, .getstatic 149, 1, 0, 0, []), (21, .areturn, 0, 0, 0, [])]
def tl_33 : List tb_Row := tl_33_0
def tl_34_0 : List tb_Row := [(0, .iload_n 0, 0, 0, 0, []), (1, .bipush 100, 0, 0, 100, []), (3, .if_icmp .lt 7, 10, 0, 0, []), (6, .iconst 1, 0, 0, 1, []), (7, .goto 4, 11, 0, 0, []), (10, .iconst 0, 0, 0, 0, []), (11, .ireturn, 0, 0, 0, [])]
def tl_34 : List tb_Row := tl_34_0
def tl_35_0 : List tb_Row := [(0, .iload_n 1, 0, 0, 0, []), (1, .invokestatic 295, 34, 1, 0, []), (4, .ifCond .eq 18, 22, 0, 0, []), (7, .aload_n 0, 0, 0, 0, []), (8, .getfield 40, 6, 5, 0, []), (11, .iload_n 1, 0, 0, 0, []), (12, .bipush 100, 0, 0, 100, []), (14, .isub, 0, 0, 0, []), (15, .aaload, 0, 0, 0, []), (16, .getfield 165, 0, 0, 0, []), (19, .goto 12, 31, 0, 0, []), (22, .aload_n 0, 0, 0, 0, []), (23, .getfield 27, 6, 3, 0, []), (26, .getfield 117, 2, 0, 0, []), (29, .iload_n 1, 0, 0, 0, []), (30, .iaload, 0, 0, 0, []), (31, .ireturn, 0, 0, 0, [])]
def tl_35 : List tb_Row := tl_35_0
def tl_36_0 : List tb_Row := [(0, .iload_n 1, 0, 0, 0, []), (1, .invokestatic 295, 34, 1, 0, []), (4, .ifCond .eq 18, 22, 0, 0, []), (7, .aload_n 0, 0, 0, 0, []), (8, .getfield 40, 6, 5, 0, []), (11, .iload_n 1, 0, 0, 0, []), (12, .bipush 100, 0, 0, 100, []), (14, .isub, 0, 0, 0, []), (15, .aaload, 0, 0, 0, []), (16, .getfield 182, 0, 4, 0, []), (19, .goto 12, 31, 0, 0, []), (22, .aload_n 0, 0, 0, 0, []), (23, .getfield 27, 6, 3, 0, []), (26, .getfield 126, 2, 1, 0, []), (29, .iload_n 1, 0, 0, 0, []), (30, .iaload, 0, 0, 0, []), (31, .ireturn, 0, 0, 0, [])]
def tl_36 : List tb_Row := tl_36_0
def tl_37_0 : List tb_Row := [(0, .iload_n 1, 0, 0, 0, []), (1, .invokestatic 295, 34, 1, 0, []), (4, .ifCond .eq 18, 22, 0, 0, []), (7, .aload_n 0, 0, 0, 0, []), (8, .getfield 40, 6, 5, 0, []), (11, .iload_n 1, 0, 0, 0, []), (12, .bipush 100, 0, 0, 100, []), (14, .isub, 0, 0, 0, []), (15, .aaload, 0, 0, 0, []), (16, .getfield 184, 0, 5, 0, []), (19, .goto 15, 34, 0, 0, []), (22, .aload_n 0, 0, 0, 0, []), (23, .getfield 27, 6, 3, 0, []), (26, .getfield 120, 2, 2, 0, []), (29, .iload_n 1, 0, 0, 0, []), (30, .bipush 16, 0, 0, 16, []), (32, .idiv, 0, 0, 0, []), (33, .iaload, 0, 0, 0, []), (34, .ireturn, 0, 0, 0, [])]
def tl_37 : List tb_Row := tl_37_0
def tl_38_0 : List tb_Row := [(0, .iconst 2, 0, 0, 2, []), (1, .istore_n 2, 0, 0, 0, []), (2, .iconst 0, 0, 0, 0, []), (3, .istore_n 3, 0, 0, 0, []), (4, .iload_n 3, 0, 0, 0, []), (5, .aload_n 1, 0, 0, 0, []), (6, .getfield 191, 0, 2, 0, []), (9, .if_icmp .ge 24, 33, 0, 0, []), (12, .iload_n 2, 0, 0, 0, []), (13, .aload_n 0, 0, 0, 0, []), (14, .aload_n 1, 0, 0, 0, []), (15, .getfield 194, 0, 1, 0, []), (18, .iload_n 3, 0, 0, 0, []), (19, .iaload, 0, 0, 0, []), (20, .invokevirtual 298, 37, 2, 0, []), (23, .invokestatic 301, 1002, 0, 0, []), (26, .istore_n 2, 0, 0, 0, []), (27, .iinc 3 1, 0, 0, 1, []), (30, .goto (-26), 4, 0, 0, []), (33, .iload_n 2, 0, 0, 0, []), (34, .ireturn, 0, 0, 0, [])]
def tl_38 : List tb_Row := tl_38_0
def tl_39_0 : List tb_Row := [(0, .aload_n 0, 0, 0, 0, []), (1, .invokespecial 1, 1000, 0, 0, []), (4, .aload_n 0, 0, 0, 0, []), (5, .bipush 24, 0, 0, 24, []), (7, .newarray .int, 0, 0, 0, []), (9, .putfield 7, 7, 1, 0, []), (12, .aload_n 0, 0, 0, 0, []), (13, .sipush 144, 0, 0, 144, []), (16, .newarray .int, 0, 0, 0, []), (18, .putfield 13, 7, 3, 0, []), (21, .aload_n 0, 0, 0, 0, []), (22, .bipush 6, 0, 0, 6, []), (24, .newarray .int, 0, 0, 0, []), (26, .dup, 0, 0, 0, []), (27, .iconst 0, 0, 0, 0, []), (28, .iconst 1, 0, 0, 1, []), (29, .iastore, 0, 0, 0, []), (30, .dup, 0, 0, 0, []), (31, .iconst 1, 0, 0, 1, []), (32, .iconst 1, 0, 0, 1, []), (33, .iastore, 0, 0, 0, []), (34, .dup, 0, 0, 0, []), (35, .iconst 2, 0, 0, 2, []), (36, .iconst 1, 0, 0, 1, []), (37, .iastore, 0, 0, 0, []), (38, .dup, 0, 0, 0, []), (39, .iconst 3, 0, 0, 3, []), (40, .iconst 1, 0, 0, 1, []), (41, .iastore, 0, 0, 0, []), (42, .dup, 0, 0, 0, []), (43, .iconst 4, 0, 0, 4, []), (44, .iconst 1, 0, 0, 1, []), (45, .iastore, 0, 0, 0, []), (46, .dup, 0, 0, 0, []), (47, .iconst 5, 0, 0, 5, []), (48, .iconst 1, 0, 0, 1, []), (49, .iastore, 0, 0, 0, []), (50, .putfield 16, 7, 4, 0, []), (53, .aload_n 0, 0, 0, 0, []), (54, .bipush 48, 0, 0, 48, []), (56, .newarray .int, 0, 0, 0, []), (58, .putfield 19, 7, 6, 0, []), (61, .aload_n 0, 0, 0, 0, []), (62, .bipush 48, 0, 0, 48, []), (64, .newarray .int, 0, 0, 0, []), (66, .putfield 22, 7, 7, 0, []), (69, .aload_n 0, 0, 0, 0, []), (70, .iconst 3, 0, 0, 3, []), (71, .newarray .int, 0, 0, 0, []), (73, .putfield 25, 7, 8, 0, []), (76, .aload_n 0, 0, 0, 0, []), (77, .bipush 6, 0, 0, 6, []), (79, .newarray .int, 0, 0, 0, []), (81, .putfield 28, 7, 9, 0, []), (84, .aload_n 0, 0, 0, 0, []), (85, .iconst 3, 0, 0, 3, []), (86, .newarray .int, 0, 0, 0, []), (88, .putfield 31, 7, 10, 0, []), (91, .aload_n 0, 0, 0, 0, []), (92, .bipush 96, 0, 0, 96, [])]
def tl_39_1 : List tb_Row := [(94, .newarray .boolean, 0, 0, 0, []), (96, .putfield 34, 7, 11, 0, []), (99, .aload_n 0, 0, 0, 0, []), (100, .bipush 96, 0, 0, 96, []), (102, .newarray .int, 0, 0, 0, []), (104, .putfield 38, 7, 12, 0, []), (107, .aload_n 0, 0, 0, 0, []), (108, .bipush 96, 0, 0, 96, []), (110, .newarray .int, 0, 0, 0, []), (112, .putfield 41, 7, 13, 0, []), (115, .aload_n 0, 0, 0, 0, []), (116, .bipush 96, 0, 0, 96, []), (118, .newarray .int, 0, 0, 0, []), (120, .putfield 44, 7, 14, 0, []), (123, .aload_n 0, 0, 0, 0, []), (124, .bipush 96, 0, 0, 96, []), (126, .newarray .int, 0, 0, 0, []), (128, .putfield 47, 7, 15, 0, []), (131, .aload_n 0, 0, 0, 0, []), (132, .bipush 96, 0, 0, 96, []), (134, .newarray .boolean, 0, 0, 0, []), (136, .putfield 50, 7, 16, 0, []), (139, .aload_n 0, 0, 0, 0, []), (140, .sipush 2304, 0, 0, 2304, []), (143, .newarray .int, 0, 0, 0, []), (145, .putfield 53, 7, 17, 0, []), (148, .aload_n 0, 0, 0, 0, []), (149, .bipush 96, 0, 0, 96, []), (151, .newarray .int, 0, 0, 0, []), (153, .putfield 56, 7, 18, 0, []), (156, .aload_n 0, 0, 0, 0, []), (157, .bipush 96, 0, 0, 96, []), (159, .newarray .int, 0, 0, 0, []), (161, .putfield 59, 7, 19, 0, []), (164, .aload_n 0, 0, 0, 0, []), (165, .bipush 96, 0, 0, 96, []), (167, .putfield 62, 7, 21, 0, []), (170, .aload_n 0, 0, 0, 0, []), (171, .bipush 20, 0, 0, 20, []), (173, .newarray .int, 0, 0, 0, []), (175, .putfield 66, 7, 27, 0, []), (178, .aload_n 0, 0, 0, 0, []), (179, .bipush 20, 0, 0, 20, []), (181, .newarray .boolean, 0, 0, 0, []), (183, .putfield 69, 7, 28, 0, []), (186, .aload_n 0, 0, 0, 0, []), (187, .bipush 24, 0, 0, 24, []), (189, .newarray .int, 0, 0, 0, []), (191, .putfield 72, 7, 31, 0, []), (194, .aload_n 0, 0, 0, 0, []), (195, .bipush 24, 0, 0, 24, []), (197, .newarray .int, 0, 0, 0, []), (199, .putfield 75, 7, 32, 0, []), (202, .aload_n 0, 0, 0, 0, []), (203, .bipush 24, 0, 0, 24, []), (205, .newarray .int, 0, 0, 0, []), (207, .putfield 78, 7, 33, 0, []), (210, .aload_n 0, 0, 0, 0, []), (211, .bipush 24, 0, 0, 24, []), (213, .newarray .int, 0, 0, 0, [])]
def tl_39_2 : List tb_Row := [(215, .putfield 81, 7, 35, 0, []), (218, .iconst 0, 0, 0, 0, []), (219, .istore_n 1, 0, 0, 0, []), (220, .iload_n 1, 0, 0, 0, []), (221, .bipush 6, 0, 0, 6, []), (223, .if_icmp .ge 20, 243, 0, 0, []), (226, .aload_n 0, 0, 0, 0, []), (227, .getfield 13, 7, 3, 0, []), (230, .bipush 24, 0, 0, 24, []), (232, .iload_n 1, 0, 0, 0, []), (233, .imul, 0, 0, 0, []), (234, .bipush 48, 0, 0, 48, []), (236, .iastore, 0, 0, 0, []), (237, .iinc 1 1, 0, 0, 1, []), (240, .goto (-20), 220, 0, 0, []), (243, .return_, 0, 0, 0, [])]
def tl_39 : List tb_Row := tl_39_0 ++ tl_39_1 ++ tl_39_2
def tl_40_0 : List tb_Row := [(0, .aload_n 0, 0, 0, 0, []), (1, .getfield 84, 7, 0, 0, []), (4, .ireturn, 0, 0, 0, [])]
def tl_40 : List tb_Row := tl_40_0
def tl_41_0 : List tb_Row := [(0, .aload_n 0, 0, 0, 0, []), (1, .iconst 0, 0, 0, 0, []), (2, .putfield 84, 7, 0, 0, []), (5, .iconst 0, 0, 0, 0, []), (6, .istore_n 3, 0, 0, 0, []), (7, .iconst 0, 0, 0, 0, []), (8, .istore 4, 0, 0, 0, []), (10, .iload 4, 0, 0, 0, []), (12, .bipush 64, 0, 0, 64, []), (14, .if_icmp .ge 30, 44, 0, 0, []), (17, .lload_n 1, 0, 0, 0, []), (18, .iload 4, 0, 0, 0, []), (20, .lshr, 0, 0, 0, []), (21, .ldc2_w 87, 255, 0, 0, []), (24, .land, 0, 0, 0, []), (25, .lconst 0, 0, 0, 0, []), (26, .lcmp, 0, 0, 0, []), (27, .ifCond .eq 9, 36, 0, 0, []), (30, .iload_n 3, 0, 0, 0, []), (31, .iconst 1, 0, 0, 1, []), (32, .iadd, 0, 0, 0, []), (33, .goto 4, 37, 0, 0, []), (36, .iload_n 3, 0, 0, 0, []), (37, .istore_n 3, 0, 0, 0, []), (38, .iinc 4 8, 0, 0, 8, []), (41, .goto (-31), 10, 0, 0, []), (44, .aload_n 0, 0, 0, 0, []), (45, .getfield 89, 7, 2, 0, []), (48, .iload_n 3, 0, 0, 0, []), (49, .iadd, 0, 0, 0, []), (50, .bipush 24, 0, 0, 24, []), (52, .if_icmp .le 5, 57, 0, 0, []), (55, .iconst (-1), 0, 0, (-1), []), (56, .ireturn, 0, 0, 0, []), (57, .iconst 0, 0, 0, 0, []), (58, .istore 4, 0, 0, 0, []), (60, .iload 4, 0, 0, 0, []), (62, .bipush 64, 0, 0, 64, []), (64, .if_icmp .ge 46, 110, 0, 0, []), (67, .lload_n 1, 0, 0, 0, []), (68, .iload 4, 0, 0, 0, []), (70, .lshr, 0, 0, 0, []), (71, .ldc2_w 87, 255, 0, 0, []), (74, .land, 0, 0, 0, []), (75, .l2i, 0, 0, 0, []), (76, .istore 5, 0, 0, 0, []), (78, .iload 5, 0, 0, 0, []), (80, .ifCond .eq 24, 104, 0, 0, []), (83, .aload_n 0, 0, 0, 0, []), (84, .getfield 7, 7, 1, 0, []), (87, .aload_n 0, 0, 0, 0, []), (88, .getfield 89, 7, 2, 0, []), (91, .iload 5, 0, 0, 0, []), (93, .iastore, 0, 0, 0, []), (94, .aload_n 0, 0, 0, 0, []), (95, .dup, 0, 0, 0, []), (96, .getfield 89, 7, 2, 0, []), (99, .iconst 1, 0, 0, 1, []), (100, .iadd, 0, 0, 0, []), (101, .putfield 89, 7, 2, 0, [])]
def tl_41_1 : List tb_Row := [(104, .iinc 4 8, 0, 0, 8, []), (107, .goto (-47), 60, 0, 0, []), (110, .aload_n 0, 0, 0, 0, []), (111, .getfield 89, 7, 2, 0, []), (114, .ireturn, 0, 0, 0, [])]
def tl_41 : List tb_Row := tl_41_0 ++ tl_41_1
def tl_42_0 : List tb_Row := [(0, .aload_n 0, 0, 0, 0, []), (1, .iconst 0, 0, 0, 0, []), (2, .putfield 84, 7, 0, 0, []), (5, .aload_n 0, 0, 0, 0, []), (6, .getfield 89, 7, 2, 0, []), (9, .istore_n 1, 0, 0, 0, []), (10, .aload_n 0, 0, 0, 0, []), (11, .iconst 0, 0, 0, 0, []), (12, .putfield 89, 7, 2, 0, []), (15, .iload_n 1, 0, 0, 0, []), (16, .ireturn, 0, 0, 0, [])]
def tl_42 : List tb_Row := tl_42_0
def tl_43_0 : List tb_Row := [(0, .iload_n 0, 0, 0, 0, []), (1, .bipush 48, 0, 0, 48, []), (3, .if_icmp .lt 9, 12, 0, 0, []), (6, .iload_n 0, 0, 0, 0, []), (7, .bipush 57, 0, 0, 57, []), (9, .if_icmp .le 9, 18, 0, 0, []), (12, .iload_n 0, 0, 0, 0, []), (13, .bipush 107, 0, 0, 107, []), (15, .if_icmp .ne 5, 20, 0, 0, []), (18, .iconst 0, 0, 0, 0, []), (19, .ireturn, 0, 0, 0, []), (20, .iload_n 0, 0, 0, 0, []), (21, .bipush 43, 0, 0, 43, []), (23, .if_icmp .eq 15, 38, 0, 0, []), (26, .iload_n 0, 0, 0, 0, []), (27, .bipush 45, 0, 0, 45, []), (29, .if_icmp .eq 9, 38, 0, 0, []), (32, .iload_n 0, 0, 0, 0, []), (33, .bipush 42, 0, 0, 42, []), (35, .if_icmp .ne 5, 40, 0, 0, []), (38, .iconst 2, 0, 0, 2, []), (39, .ireturn, 0, 0, 0, []), (40, .iload_n 0, 0, 0, 0, []), (41, .bipush 63, 0, 0, 63, []), (43, .if_icmp .ne 7, 50, 0, 0, []), (46, .iconst 3, 0, 0, 3, []), (47, .goto 32, 79, 0, 0, []), (50, .iload_n 0, 0, 0, 0, []), (51, .bipush 103, 0, 0, 103, []), (53, .if_icmp .lt 9, 62, 0, 0, []), (56, .iload_n 0, 0, 0, 0, []), (57, .bipush 105, 0, 0, 105, []), (59, .if_icmp .le 15, 74, 0, 0, []), (62, .iload_n 0, 0, 0, 0, []), (63, .bipush 65, 0, 0, 65, []), (65, .if_icmp .lt 13, 78, 0, 0, []), (68, .iload_n 0, 0, 0, 0, []), (69, .bipush 70, 0, 0, 70, []), (71, .if_icmp .gt 7, 78, 0, 0, []), (74, .iconst 1, 0, 0, 1, []), (75, .goto 4, 79, 0, 0, []), (78, .iconst (-1), 0, 0, (-1), []), (79, .ireturn, 0, 0, 0, [])]
def tl_43 : List tb_Row := tl_43_0
def tl_44_0 : List tb_Row := [(0, .iconst 0, 0, 0, 0, []), (1, .istore_n 1, 0, 0, 0, []), (2, .iload_n 1, 0, 0, 0, []), (3, .bipush 96, 0, 0, 96, []), (5, .if_icmp .ge 16, 21, 0, 0, []), (8, .aload_n 0, 0, 0, 0, []), (9, .getfield 34, 7, 11, 0, []), (12, .iload_n 1, 0, 0, 0, []), (13, .iconst 0, 0, 0, 0, []), (14, .bastore, 0, 0, 0, []), (15, .iinc 1 1, 0, 0, 1, []), (18, .goto (-16), 2, 0, 0, []), (21, .return_, 0, 0, 0, [])]
def tl_44 : List tb_Row := tl_44_0
def tl_45_0 : List tb_Row := [(0, .aload_n 0, 0, 0, 0, []), (1, .iload_n 1, 0, 0, 0, []), (2, .ifCond .lt 8, 10, 0, 0, []), (5, .iload_n 1, 0, 0, 0, []), (6, .iconst 5, 0, 0, 5, []), (7, .if_icmp .le 7, 14, 0, 0, []), (10, .iconst 1, 0, 0, 1, []), (11, .goto 4, 15, 0, 0, []), (14, .iconst 0, 0, 0, 0, []), (15, .putfield 84, 7, 0, 0, []), (18, .aload_n 0, 0, 0, 0, []), (19, .getfield 84, 7, 0, 0, []), (22, .ifCond .le 5, 27, 0, 0, []), (25, .iconst 0, 0, 0, 0, []), (26, .ireturn, 0, 0, 0, []), (27, .iconst 1, 0, 0, 1, []), (28, .istore_n 2, 0, 0, 0, []), (29, .iconst 0, 0, 0, 0, []), (30, .istore_n 3, 0, 0, 0, []), (31, .iload_n 3, 0, 0, 0, []), (32, .aload_n 0, 0, 0, 0, []), (33, .getfield 89, 7, 2, 0, []), (36, .if_icmp .ge 41, 77, 0, 0, []), (39, .iload_n 2, 0, 0, 0, []), (40, .ifCond .eq 15, 55, 0, 0, []), (43, .aload_n 0, 0, 0, 0, []), (44, .getfield 7, 7, 1, 0, []), (47, .iload_n 3, 0, 0, 0, []), (48, .iaload, 0, 0, 0, []), (49, .invokestatic 92, 43, 1, 0, []), (52, .ifCond .ge 5, 57, 0, 0, []), (55, .iload_n 3, 0, 0, 0, []), (56, .ireturn, 0, 0, 0, []), (57, .iload_n 2, 0, 0, 0, []), (58, .aload_n 0, 0, 0, 0, []), (59, .getfield 7, 7, 1, 0, []), (62, .iload_n 3, 0, 0, 0, []), (63, .iaload, 0, 0, 0, []), (64, .invokestatic 92, 43, 1, 0, []), (67, .iadd, 0, 0, 0, []), (68, .iconst 1, 0, 0, 1, []), (69, .isub, 0, 0, 0, []), (70, .istore_n 2, 0, 0, 0, []), (71, .iinc 3 1, 0, 0, 1, []), (74, .goto (-43), 31, 0, 0, []), (77, .iload_n 2, 0, 0, 0, []), (78, .ifCond .le 8, 86, 0, 0, []), (81, .aload_n 0, 0, 0, 0, []), (82, .getfield 89, 7, 2, 0, []), (85, .ireturn, 0, 0, 0, []), (86, .iconst 0, 0, 0, 0, []), (87, .istore_n 3, 0, 0, 0, []), (88, .iload_n 3, 0, 0, 0, []), (89, .aload_n 0, 0, 0, 0, []), (90, .getfield 89, 7, 2, 0, []), (93, .if_icmp .ge 26, 119, 0, 0, []), (96, .aload_n 0, 0, 0, 0, []), (97, .getfield 13, 7, 3, 0, []), (100, .bipush 24, 0, 0, 24, []), (102, .iload_n 1, 0, 0, 0, [])]
def tl_45_1 : List tb_Row := [(103, .imul, 0, 0, 0, []), (104, .iload_n 3, 0, 0, 0, []), (105, .iadd, 0, 0, 0, []), (106, .aload_n 0, 0, 0, 0, []), (107, .getfield 7, 7, 1, 0, []), (110, .iload_n 3, 0, 0, 0, []), (111, .iaload, 0, 0, 0, []), (112, .iastore, 0, 0, 0, []), (113, .iinc 3 1, 0, 0, 1, []), (116, .goto (-28), 88, 0, 0, []), (119, .aload_n 0, 0, 0, 0, []), (120, .getfield 16, 7, 4, 0, []), (123, .iload_n 1, 0, 0, 0, []), (124, .aload_n 0, 0, 0, 0, []), (125, .getfield 89, 7, 2, 0, []), (128, .iastore, 0, 0, 0, []), (129, .aload_n 0, 0, 0, 0, []), (130, .iconst 0, 0, 0, 0, []), (131, .putfield 89, 7, 2, 0, []), (134, .aload_n 0, 0, 0, 0, []), (135, .invokevirtual 96, 44, 1, 0, []), (138, .iconst (-1), 0, 0, (-1), []), (139, .ireturn, 0, 0, 0, [])]
def tl_45 : List tb_Row := tl_45_0 ++ tl_45_1
def tl_46_0 : List tb_Row := [(0, .aload_n 0, 0, 0, 0, []), (1, .dup, 0, 0, 0, []), (2, .getfield 99, 7, 5, 0, []), (5, .iconst 1, 0, 0, 1, []), (6, .iadd, 0, 0, 0, []), (7, .putfield 99, 7, 5, 0, []), (10, .aload_n 0, 0, 0, 0, []), (11, .getfield 31, 7, 10, 0, []), (14, .iload_n 1, 0, 0, 0, []), (15, .aload_n 0, 0, 0, 0, []), (16, .getfield 99, 7, 5, 0, []), (19, .iastore, 0, 0, 0, []), (20, .iconst 0, 0, 0, 0, []), (21, .istore_n 2, 0, 0, 0, []), (22, .iload_n 2, 0, 0, 0, []), (23, .bipush 96, 0, 0, 96, []), (25, .if_icmp .ge 38, 63, 0, 0, []), (28, .aload_n 0, 0, 0, 0, []), (29, .getfield 34, 7, 11, 0, []), (32, .iload_n 2, 0, 0, 0, []), (33, .aload_n 0, 0, 0, 0, []), (34, .getfield 34, 7, 11, 0, []), (37, .iload_n 2, 0, 0, 0, []), (38, .baload, 0, 0, 0, []), (39, .ifCond .eq 16, 55, 0, 0, []), (42, .aload_n 0, 0, 0, 0, []), (43, .getfield 50, 7, 16, 0, []), (46, .iload_n 2, 0, 0, 0, []), (47, .baload, 0, 0, 0, []), (48, .ifCond .ne 7, 55, 0, 0, []), (51, .iconst 1, 0, 0, 1, []), (52, .goto 4, 56, 0, 0, []), (55, .iconst 0, 0, 0, 0, []), (56, .bastore, 0, 0, 0, []), (57, .iinc 2 1, 0, 0, 1, []), (60, .goto (-38), 22, 0, 0, []), (63, .return_, 0, 0, 0, [])]
def tl_46 : List tb_Row := tl_46_0
def tl_47_0 : List tb_Row := [(0, .iload_n 0, 0, 0, 0, []), (1, .ifCond .lt 9, 10, 0, 0, []), (4, .iload_n 0, 0, 0, 0, []), (5, .bipush 15, 0, 0, 15, []), (7, .if_icmp .le 7, 14, 0, 0, []), (10, .iconst 1, 0, 0, 1, []), (11, .goto 4, 15, 0, 0, []), (14, .iconst 0, 0, 0, 0, []), (15, .ireturn, 0, 0, 0, [])]
def tl_47 : List tb_Row := tl_47_0
def tl_48_0 : List tb_Row := [(0, .aload_n 0, 0, 0, 0, []), (1, .iload_n 1, 0, 0, 0, []), (2, .ifCond .lt 15, 17, 0, 0, []), (5, .iload_n 1, 0, 0, 0, []), (6, .iconst 2, 0, 0, 2, []), (7, .if_icmp .gt 10, 17, 0, 0, []), (10, .iload_n 2, 0, 0, 0, []), (11, .invokestatic 102, 47, 1, 0, []), (14, .ifCond .eq 7, 21, 0, 0, []), (17, .iconst 1, 0, 0, 1, []), (18, .goto 4, 22, 0, 0, []), (21, .iconst 0, 0, 0, 0, []), (22, .putfield 84, 7, 0, 0, []), (25, .aload_n 0, 0, 0, 0, []), (26, .getfield 84, 7, 0, 0, []), (29, .ifCond .gt 18, 47, 0, 0, []), (32, .aload_n 0, 0, 0, 0, []), (33, .getfield 19, 7, 6, 0, []), (36, .bipush 16, 0, 0, 16, []), (38, .iload_n 1, 0, 0, 0, []), (39, .imul, 0, 0, 0, []), (40, .iload_n 2, 0, 0, 0, []), (41, .iadd, 0, 0, 0, []), (42, .iaload, 0, 0, 0, []), (43, .iload_n 3, 0, 0, 0, []), (44, .if_icmp .ne 5, 49, 0, 0, []), (47, .iconst 0, 0, 0, 0, []), (48, .ireturn, 0, 0, 0, []), (49, .aload_n 0, 0, 0, 0, []), (50, .aload_n 0, 0, 0, 0, []), (51, .getfield 25, 7, 8, 0, []), (54, .iload_n 1, 0, 0, 0, []), (55, .iaload, 0, 0, 0, []), (56, .invokevirtual 106, 46, 2, 0, []), (59, .aload_n 0, 0, 0, 0, []), (60, .getfield 19, 7, 6, 0, []), (63, .bipush 16, 0, 0, 16, []), (65, .iload_n 1, 0, 0, 0, []), (66, .imul, 0, 0, 0, []), (67, .iload_n 2, 0, 0, 0, []), (68, .iadd, 0, 0, 0, []), (69, .iload_n 3, 0, 0, 0, []), (70, .iastore, 0, 0, 0, []), (71, .aload_n 0, 0, 0, 0, []), (72, .getfield 22, 7, 7, 0, []), (75, .bipush 16, 0, 0, 16, []), (77, .iload_n 1, 0, 0, 0, []), (78, .imul, 0, 0, 0, []), (79, .iload_n 2, 0, 0, 0, []), (80, .iadd, 0, 0, 0, []), (81, .aload_n 0, 0, 0, 0, []), (82, .getfield 99, 7, 5, 0, []), (85, .iastore, 0, 0, 0, []), (86, .iconst 1, 0, 0, 1, []), (87, .ireturn, 0, 0, 0, [])]
def tl_48 : List tb_Row := tl_48_0
def tl_49_0 : List tb_Row := [(0, .aload_n 0, 0, 0, 0, []), (1, .iload_n 1, 0, 0, 0, []), (2, .ifCond .lt 8, 10, 0, 0, []), (5, .iload_n 1, 0, 0, 0, []), (6, .iconst 5, 0, 0, 5, []), (7, .if_icmp .le 7, 14, 0, 0, []), (10, .iconst 1, 0, 0, 1, []), (11, .goto 4, 15, 0, 0, []), (14, .iconst 0, 0, 0, 0, []), (15, .putfield 84, 7, 0, 0, []), (18, .aload_n 0, 0, 0, 0, []), (19, .getfield 84, 7, 0, 0, []), (22, .ifCond .gt 13, 35, 0, 0, []), (25, .aload_n 0, 0, 0, 0, []), (26, .getfield 28, 7, 9, 0, []), (29, .iload_n 1, 0, 0, 0, []), (30, .iaload, 0, 0, 0, []), (31, .iload_n 2, 0, 0, 0, []), (32, .if_icmp .ne 5, 37, 0, 0, []), (35, .iconst 0, 0, 0, 0, []), (36, .ireturn, 0, 0, 0, []), (37, .aload_n 0, 0, 0, 0, []), (38, .iconst 0, 0, 0, 0, []), (39, .invokevirtual 106, 46, 2, 0, []), (42, .aload_n 0, 0, 0, 0, []), (43, .getfield 28, 7, 9, 0, []), (46, .iload_n 1, 0, 0, 0, []), (47, .iload_n 2, 0, 0, 0, []), (48, .iastore, 0, 0, 0, []), (49, .iconst 1, 0, 0, 1, []), (50, .ireturn, 0, 0, 0, [])]
def tl_49 : List tb_Row := tl_49_0
def tl_50_0 : List tb_Row := [(0, .aload_n 0, 0, 0, 0, []), (1, .iload_n 1, 0, 0, 0, []), (2, .ifCond .lt 17, 19, 0, 0, []), (5, .iload_n 1, 0, 0, 0, []), (6, .iconst 2, 0, 0, 2, []), (7, .if_icmp .gt 12, 19, 0, 0, []), (10, .iload_n 2, 0, 0, 0, []), (11, .ifCond .lt 8, 19, 0, 0, []), (14, .iload_n 2, 0, 0, 0, []), (15, .iconst 2, 0, 0, 2, []), (16, .if_icmp .le 7, 23, 0, 0, []), (19, .iconst 1, 0, 0, 1, []), (20, .goto 4, 24, 0, 0, []), (23, .iconst 0, 0, 0, 0, []), (24, .putfield 84, 7, 0, 0, []), (27, .aload_n 0, 0, 0, 0, []), (28, .getfield 84, 7, 0, 0, []), (31, .ifCond .ne 14, 45, 0, 0, []), (34, .aload_n 0, 0, 0, 0, []), (35, .getfield 25, 7, 8, 0, []), (38, .iload_n 1, 0, 0, 0, []), (39, .iload_n 2, 0, 0, 0, []), (40, .iastore, 0, 0, 0, []), (41, .aload_n 0, 0, 0, 0, []), (42, .invokevirtual 96, 44, 1, 0, []), (45, .return_, 0, 0, 0, [])]
def tl_50 : List tb_Row := tl_50_0
def tl_51_0 : List tb_Row := [(0, .aload_n 0, 0, 0, 0, []), (1, .dup, 0, 0, 0, []), (2, .getfield 110, 7, 20, 0, []), (5, .iconst 1, 0, 0, 1, []), (6, .iadd, 0, 0, 0, []), (7, .putfield 110, 7, 20, 0, []), (10, .aload_n 0, 0, 0, 0, []), (11, .getfield 59, 7, 19, 0, []), (14, .iload_n 1, 0, 0, 0, []), (15, .aload_n 0, 0, 0, 0, []), (16, .getfield 110, 7, 20, 0, []), (19, .iastore, 0, 0, 0, []), (20, .return_, 0, 0, 0, [])]
def tl_51 : List tb_Row := tl_51_0
def tl_52_0 : List tb_Row := [(0, .iconst 0, 0, 0, 0, []), (1, .istore_n 2, 0, 0, 0, []), (2, .iconst 0, 0, 0, 0, []), (3, .istore_n 3, 0, 0, 0, []), (4, .iload_n 3, 0, 0, 0, []), (5, .aload_n 0, 0, 0, 0, []), (6, .getfield 113, 7, 26, 0, []), (9, .if_icmp .ge 29, 38, 0, 0, []), (12, .iload_n 2, 0, 0, 0, []), (13, .ifCond .ne 13, 26, 0, 0, []), (16, .aload_n 0, 0, 0, 0, []), (17, .getfield 66, 7, 27, 0, []), (20, .iload_n 3, 0, 0, 0, []), (21, .iaload, 0, 0, 0, []), (22, .iload_n 1, 0, 0, 0, []), (23, .if_icmp .ne 7, 30, 0, 0, []), (26, .iconst 1, 0, 0, 1, []), (27, .goto 4, 31, 0, 0, []), (30, .iconst 0, 0, 0, 0, []), (31, .istore_n 2, 0, 0, 0, []), (32, .iinc 3 1, 0, 0, 1, []), (35, .goto (-31), 4, 0, 0, []), (38, .iload_n 2, 0, 0, 0, []), (39, .ireturn, 0, 0, 0, [])]
def tl_52 : List tb_Row := tl_52_0
def tl_53_0 : List tb_Row := [(0, .iconst 1, 0, 0, 1, []), (1, .istore_n 2, 0, 0, 0, []), (2, .aload_n 0, 0, 0, 0, []), (3, .getfield 47, 7, 15, 0, []), (6, .iload_n 1, 0, 0, 0, []), (7, .iaload, 0, 0, 0, []), (8, .istore_n 3, 0, 0, 0, []), (9, .iload_n 3, 0, 0, 0, []), (10, .iconst 3, 0, 0, 3, []), (11, .if_icmp .ge 34, 45, 0, 0, []), (14, .iload_n 2, 0, 0, 0, []), (15, .ifCond .eq 22, 37, 0, 0, []), (18, .aload_n 0, 0, 0, 0, []), (19, .getfield 31, 7, 10, 0, []), (22, .iload_n 3, 0, 0, 0, []), (23, .iaload, 0, 0, 0, []), (24, .aload_n 0, 0, 0, 0, []), (25, .getfield 41, 7, 13, 0, []), (28, .iload_n 1, 0, 0, 0, []), (29, .iaload, 0, 0, 0, []), (30, .if_icmp .gt 7, 37, 0, 0, []), (33, .iconst 1, 0, 0, 1, []), (34, .goto 4, 38, 0, 0, []), (37, .iconst 0, 0, 0, 0, []), (38, .istore_n 2, 0, 0, 0, []), (39, .iinc 3 1, 0, 0, 1, []), (42, .goto (-33), 9, 0, 0, []), (45, .iload_n 2, 0, 0, 0, []), (46, .ireturn, 0, 0, 0, [])]
def tl_53 : List tb_Row := tl_53_0
def tl_54_0 : List tb_Row := [(0, .iconst 0, 0, 0, 0, []), (1, .istore_n 2, 0, 0, 0, []), (2, .iconst 0, 0, 0, 0, []), (3, .istore_n 3, 0, 0, 0, []), (4, .iload_n 3, 0, 0, 0, []), (5, .aload_n 0, 0, 0, 0, []), (6, .getfield 113, 7, 26, 0, []), (9, .if_icmp .ge 124, 133, 0, 0, []), (12, .aload_n 0, 0, 0, 0, []), (13, .getfield 66, 7, 27, 0, []), (16, .iload_n 3, 0, 0, 0, []), (17, .iaload, 0, 0, 0, []), (18, .istore 4, 0, 0, 0, []), (20, .iload_n 2, 0, 0, 0, []), (21, .ifCond .ne 9, 30, 0, 0, []), (24, .iload 4, 0, 0, 0, []), (26, .iload_n 1, 0, 0, 0, []), (27, .if_icmp .ne 7, 34, 0, 0, []), (30, .iconst 1, 0, 0, 1, []), (31, .goto 4, 35, 0, 0, []), (34, .iconst 0, 0, 0, 0, []), (35, .istore_n 2, 0, 0, 0, []), (36, .iload_n 2, 0, 0, 0, []), (37, .ifCond .eq 90, 127, 0, 0, []), (40, .aload_n 0, 0, 0, 0, []), (41, .getfield 34, 7, 11, 0, []), (44, .iload 4, 0, 0, 0, []), (46, .iconst 1, 0, 0, 1, []), (47, .bastore, 0, 0, 0, []), (48, .aload_n 0, 0, 0, 0, []), (49, .getfield 38, 7, 12, 0, []), (52, .iload 4, 0, 0, 0, []), (54, .aload_n 0, 0, 0, 0, []), (55, .getfield 28, 7, 9, 0, []), (58, .iload 4, 0, 0, 0, []), (60, .bipush 16, 0, 0, 16, []), (62, .idiv, 0, 0, 0, []), (63, .iaload, 0, 0, 0, []), (64, .iastore, 0, 0, 0, []), (65, .aload_n 0, 0, 0, 0, []), (66, .getfield 41, 7, 13, 0, []), (69, .iload 4, 0, 0, 0, []), (71, .aload_n 0, 0, 0, 0, []), (72, .getfield 99, 7, 5, 0, []), (75, .iastore, 0, 0, 0, []), (76, .aload_n 0, 0, 0, 0, []), (77, .getfield 44, 7, 14, 0, []), (80, .iload 4, 0, 0, 0, []), (82, .aload_n 0, 0, 0, 0, []), (83, .getfield 99, 7, 5, 0, []), (86, .iastore, 0, 0, 0, []), (87, .aload_n 0, 0, 0, 0, []), (88, .getfield 47, 7, 15, 0, []), (91, .iload 4, 0, 0, 0, []), (93, .iconst 0, 0, 0, 0, []), (94, .iastore, 0, 0, 0, []), (95, .aload_n 0, 0, 0, 0, []), (96, .getfield 50, 7, 16, 0, []), (99, .iload 4, 0, 0, 0, []), (101, .iconst 1, 0, 0, 1, [])]
def tl_54_1 : List tb_Row := [(102, .bastore, 0, 0, 0, []), (103, .aload_n 0, 0, 0, 0, []), (104, .getfield 56, 7, 18, 0, []), (107, .iload 4, 0, 0, 0, []), (109, .iconst 0, 0, 0, 0, []), (110, .iastore, 0, 0, 0, []), (111, .aload_n 0, 0, 0, 0, []), (112, .dup, 0, 0, 0, []), (113, .getfield 116, 7, 25, 0, []), (116, .iconst 1, 0, 0, 1, []), (117, .iadd, 0, 0, 0, []), (118, .putfield 116, 7, 25, 0, []), (121, .aload_n 0, 0, 0, 0, []), (122, .iload 4, 0, 0, 0, []), (124, .invokevirtual 119, 51, 2, 0, []), (127, .iinc 3 1, 0, 0, 1, []), (130, .goto (-126), 4, 0, 0, []), (133, .aload_n 0, 0, 0, 0, []), (134, .iconst 0, 0, 0, 0, []), (135, .putfield 113, 7, 26, 0, []), (138, .return_, 0, 0, 0, [])]
def tl_54 : List tb_Row := tl_54_0 ++ tl_54_1
def tl_55_0 : List tb_Row := [(0, .aload_n 0, 0, 0, 0, []), (1, .iload_n 1, 0, 0, 0, []), (2, .invokevirtual 122, 52, 2, 0, []), (5, .ifCond .eq 10, 15, 0, 0, []), (8, .aload_n 0, 0, 0, 0, []), (9, .iload_n 1, 0, 0, 0, []), (10, .invokevirtual 125, 54, 2, 0, []), (13, .iconst 0, 0, 0, 0, []), (14, .ireturn, 0, 0, 0, []), (15, .aload_n 0, 0, 0, 0, []), (16, .getfield 34, 7, 11, 0, []), (19, .iload_n 1, 0, 0, 0, []), (20, .baload, 0, 0, 0, []), (21, .ifCond .eq 18, 39, 0, 0, []), (24, .aload_n 0, 0, 0, 0, []), (25, .getfield 41, 7, 13, 0, []), (28, .iload_n 1, 0, 0, 0, []), (29, .iaload, 0, 0, 0, []), (30, .aload_n 0, 0, 0, 0, []), (31, .getfield 99, 7, 5, 0, []), (34, .if_icmp .ne 5, 39, 0, 0, []), (37, .iconst 1, 0, 0, 1, []), (38, .ireturn, 0, 0, 0, []), (39, .aload_n 0, 0, 0, 0, []), (40, .getfield 34, 7, 11, 0, []), (43, .iload_n 1, 0, 0, 0, []), (44, .baload, 0, 0, 0, []), (45, .ifCond .eq 38, 83, 0, 0, []), (48, .aload_n 0, 0, 0, 0, []), (49, .iload_n 1, 0, 0, 0, []), (50, .invokevirtual 128, 53, 2, 0, []), (53, .ifCond .eq 30, 83, 0, 0, []), (56, .aload_n 0, 0, 0, 0, []), (57, .getfield 41, 7, 13, 0, []), (60, .iload_n 1, 0, 0, 0, []), (61, .aload_n 0, 0, 0, 0, []), (62, .getfield 99, 7, 5, 0, []), (65, .iastore, 0, 0, 0, []), (66, .aload_n 0, 0, 0, 0, []), (67, .dup, 0, 0, 0, []), (68, .getfield 131, 7, 24, 0, []), (71, .iconst 1, 0, 0, 1, []), (72, .iadd, 0, 0, 0, []), (73, .putfield 131, 7, 24, 0, []), (76, .aload_n 0, 0, 0, 0, []), (77, .iload_n 1, 0, 0, 0, []), (78, .invokevirtual 119, 51, 2, 0, []), (81, .iconst 1, 0, 0, 1, []), (82, .ireturn, 0, 0, 0, []), (83, .aload_n 0, 0, 0, 0, []), (84, .getfield 113, 7, 26, 0, []), (87, .bipush 20, 0, 0, 20, []), (89, .if_icmp .ne 10, 99, 0, 0, []), (92, .aload_n 0, 0, 0, 0, []), (93, .iconst 1, 0, 0, 1, []), (94, .putfield 134, 7, 29, 0, []), (97, .iconst 0, 0, 0, 0, []), (98, .ireturn, 0, 0, 0, []), (99, .aload_n 0, 0, 0, 0, []), (100, .getfield 66, 7, 27, 0, [])]
def tl_55_1 : List tb_Row := [(103, .aload_n 0, 0, 0, 0, []), (104, .getfield 113, 7, 26, 0, []), (107, .iload_n 1, 0, 0, 0, []), (108, .iastore, 0, 0, 0, []), (109, .aload_n 0, 0, 0, 0, []), (110, .getfield 69, 7, 28, 0, []), (113, .aload_n 0, 0, 0, 0, []), (114, .getfield 113, 7, 26, 0, []), (117, .aload_n 0, 0, 0, 0, []), (118, .getfield 34, 7, 11, 0, []), (121, .iload_n 1, 0, 0, 0, []), (122, .baload, 0, 0, 0, []), (123, .ifCond .ne 7, 130, 0, 0, []), (126, .iconst 1, 0, 0, 1, []), (127, .goto 4, 131, 0, 0, []), (130, .iconst 0, 0, 0, 0, []), (131, .bastore, 0, 0, 0, []), (132, .aload_n 0, 0, 0, 0, []), (133, .dup, 0, 0, 0, []), (134, .getfield 113, 7, 26, 0, []), (137, .iconst 1, 0, 0, 1, []), (138, .iadd, 0, 0, 0, []), (139, .putfield 113, 7, 26, 0, []), (142, .iconst 0, 0, 0, 0, []), (143, .ireturn, 0, 0, 0, [])]
def tl_55 : List tb_Row := tl_55_0 ++ tl_55_1
def tl_56_0 : List tb_Row := [(0, .iload_n 1, 0, 0, 0, []), (1, .bipush 100, 0, 0, 100, []), (3, .if_icmp .ge 15, 18, 0, 0, []), (6, .aload_n 0, 0, 0, 0, []), (7, .getfield 25, 7, 8, 0, []), (10, .iload_n 1, 0, 0, 0, []), (11, .bipush 16, 0, 0, 16, []), (13, .idiv, 0, 0, 0, []), (14, .iaload, 0, 0, 0, []), (15, .goto 12, 27, 0, 0, []), (18, .aload_n 0, 0, 0, 0, []), (19, .getfield 47, 7, 15, 0, []), (22, .iload_n 1, 0, 0, 0, []), (23, .bipush 100, 0, 0, 100, []), (25, .isub, 0, 0, 0, []), (26, .iaload, 0, 0, 0, []), (27, .ireturn, 0, 0, 0, [])]
def tl_56 : List tb_Row := tl_56_0
def tl_57_0 : List tb_Row := [(0, .aload_n 0, 0, 0, 0, []), (1, .getfield 113, 7, 26, 0, []), (4, .iconst 1, 0, 0, 1, []), (5, .isub, 0, 0, 0, []), (6, .istore_n 1, 0, 0, 0, []), (7, .aload_n 0, 0, 0, 0, []), (8, .getfield 66, 7, 27, 0, []), (11, .iload_n 1, 0, 0, 0, []), (12, .iaload, 0, 0, 0, []), (13, .istore_n 2, 0, 0, 0, []), (14, .iconst 2, 0, 0, 2, []), (15, .istore_n 3, 0, 0, 0, []), (16, .iconst 0, 0, 0, 0, []), (17, .istore 4, 0, 0, 0, []), (19, .iload 4, 0, 0, 0, []), (21, .aload_n 0, 0, 0, 0, []), (22, .getfield 56, 7, 18, 0, []), (25, .iload_n 2, 0, 0, 0, []), (26, .iaload, 0, 0, 0, []), (27, .if_icmp .ge 108, 135, 0, 0, []), (30, .aload_n 0, 0, 0, 0, []), (31, .getfield 53, 7, 17, 0, []), (34, .bipush 24, 0, 0, 24, []), (36, .iload_n 2, 0, 0, 0, []), (37, .imul, 0, 0, 0, []), (38, .iload 4, 0, 0, 0, []), (40, .iadd, 0, 0, 0, []), (41, .iaload, 0, 0, 0, []), (42, .istore 5, 0, 0, 0, []), (44, .iload 5, 0, 0, 0, []), (46, .bipush 100, 0, 0, 100, []), (48, .if_icmp .lt 16, 64, 0, 0, []), (51, .aload_n 0, 0, 0, 0, []), (52, .iload 5, 0, 0, 0, []), (54, .bipush 100, 0, 0, 100, []), (56, .isub, 0, 0, 0, []), (57, .invokevirtual 138, 55, 2, 0, []), (60, .ifCond .ne 4, 64, 0, 0, []), (63, .return_, 0, 0, 0, []), (64, .iload 5, 0, 0, 0, []), (66, .bipush 100, 0, 0, 100, []), (68, .if_icmp .ge 13, 81, 0, 0, []), (71, .aload_n 0, 0, 0, 0, []), (72, .getfield 22, 7, 7, 0, []), (75, .iload 5, 0, 0, 0, []), (77, .iaload, 0, 0, 0, []), (78, .goto 13, 91, 0, 0, []), (81, .aload_n 0, 0, 0, 0, []), (82, .getfield 44, 7, 14, 0, []), (85, .iload 5, 0, 0, 0, []), (87, .bipush 100, 0, 0, 100, []), (89, .isub, 0, 0, 0, []), (90, .iaload, 0, 0, 0, []), (91, .aload_n 0, 0, 0, 0, []), (92, .getfield 41, 7, 13, 0, []), (95, .iload_n 2, 0, 0, 0, []), (96, .iaload, 0, 0, 0, []), (97, .if_icmp .le 11, 108, 0, 0, []), (100, .aload_n 0, 0, 0, 0, []), (101, .getfield 69, 7, 28, 0, [])]
def tl_57_1 : List tb_Row := [(104, .iload_n 1, 0, 0, 0, []), (105, .iconst 1, 0, 0, 1, []), (106, .bastore, 0, 0, 0, []), (107, .return_, 0, 0, 0, []), (108, .aload_n 0, 0, 0, 0, []), (109, .iload 5, 0, 0, 0, []), (111, .invokevirtual 141, 56, 2, 0, []), (114, .iload_n 3, 0, 0, 0, []), (115, .if_icmp .ge 12, 127, 0, 0, []), (118, .aload_n 0, 0, 0, 0, []), (119, .iload 5, 0, 0, 0, []), (121, .invokevirtual 141, 56, 2, 0, []), (124, .goto 4, 128, 0, 0, []), (127, .iload_n 3, 0, 0, 0, []), (128, .istore_n 3, 0, 0, 0, []), (129, .iinc 4 1, 0, 0, 1, []), (132, .goto (-113), 19, 0, 0, []), (135, .aload_n 0, 0, 0, 0, []), (136, .getfield 41, 7, 13, 0, []), (139, .iload_n 2, 0, 0, 0, []), (140, .aload_n 0, 0, 0, 0, []), (141, .getfield 99, 7, 5, 0, []), (144, .iastore, 0, 0, 0, []), (145, .aload_n 0, 0, 0, 0, []), (146, .getfield 47, 7, 15, 0, []), (149, .iload_n 2, 0, 0, 0, []), (150, .iload_n 3, 0, 0, 0, []), (151, .iastore, 0, 0, 0, []), (152, .aload_n 0, 0, 0, 0, []), (153, .dup, 0, 0, 0, []), (154, .getfield 144, 7, 23, 0, []), (157, .iconst 1, 0, 0, 1, []), (158, .iadd, 0, 0, 0, []), (159, .putfield 144, 7, 23, 0, []), (162, .aload_n 0, 0, 0, 0, []), (163, .iload_n 2, 0, 0, 0, []), (164, .invokevirtual 119, 51, 2, 0, []), (167, .aload_n 0, 0, 0, 0, []), (168, .dup, 0, 0, 0, []), (169, .getfield 113, 7, 26, 0, []), (172, .iconst 1, 0, 0, 1, []), (173, .isub, 0, 0, 0, []), (174, .putfield 113, 7, 26, 0, []), (177, .return_, 0, 0, 0, [])]
def tl_57 : List tb_Row := tl_57_0 ++ tl_57_1
def tl_58_0 : List tb_Row := [(0, .iconst 0, 0, 0, 0, []), (1, .istore_n 2, 0, 0, 0, []), (2, .iload_n 2, 0, 0, 0, []), (3, .aload_n 0, 0, 0, 0, []), (4, .getfield 147, 7, 34, 0, []), (7, .if_icmp .ge 20, 27, 0, 0, []), (10, .aload_n 0, 0, 0, 0, []), (11, .getfield 81, 7, 35, 0, []), (14, .iload_n 2, 0, 0, 0, []), (15, .iaload, 0, 0, 0, []), (16, .iload_n 1, 0, 0, 0, []), (17, .if_icmp .ne 4, 21, 0, 0, []), (20, .return_, 0, 0, 0, []), (21, .iinc 2 1, 0, 0, 1, []), (24, .goto (-22), 2, 0, 0, []), (27, .aload_n 0, 0, 0, 0, []), (28, .getfield 81, 7, 35, 0, []), (31, .aload_n 0, 0, 0, 0, []), (32, .getfield 147, 7, 34, 0, []), (35, .iload_n 1, 0, 0, 0, []), (36, .iastore, 0, 0, 0, []), (37, .aload_n 0, 0, 0, 0, []), (38, .dup, 0, 0, 0, []), (39, .getfield 147, 7, 34, 0, []), (42, .iconst 1, 0, 0, 1, []), (43, .iadd, 0, 0, 0, []), (44, .putfield 147, 7, 34, 0, []), (47, .return_, 0, 0, 0, [])]
def tl_58 : List tb_Row := tl_58_0
def tl_59_0 : List tb_Row := [(0, .iconst 1, 0, 0, 1, []), (1, .istore_n 3, 0, 0, 0, []), (2, .iload_n 2, 0, 0, 0, []), (3, .istore 4, 0, 0, 0, []), (5, .iload_n 3, 0, 0, 0, []), (6, .ifCond .le 29, 35, 0, 0, []), (9, .iload_n 3, 0, 0, 0, []), (10, .aload_n 0, 0, 0, 0, []), (11, .getfield 13, 7, 3, 0, []), (14, .bipush 24, 0, 0, 24, []), (16, .iload_n 1, 0, 0, 0, []), (17, .imul, 0, 0, 0, []), (18, .iload 4, 0, 0, 0, []), (20, .iadd, 0, 0, 0, []), (21, .iaload, 0, 0, 0, []), (22, .invokestatic 92, 43, 1, 0, []), (25, .iadd, 0, 0, 0, []), (26, .iconst 1, 0, 0, 1, []), (27, .isub, 0, 0, 0, []), (28, .istore_n 3, 0, 0, 0, []), (29, .iinc 4 1, 0, 0, 1, []), (32, .goto (-27), 5, 0, 0, []), (35, .iload 4, 0, 0, 0, []), (37, .ireturn, 0, 0, 0, [])]
def tl_59 : List tb_Row := tl_59_0
def tl_60_0 : List tb_Row := [(0, .aload_n 0, 0, 0, 0, []), (1, .getfield 150, 7, 30, 0, []), (4, .iconst 1, 0, 0, 1, []), (5, .isub, 0, 0, 0, []), (6, .istore_n 3, 0, 0, 0, []), (7, .aload_n 0, 0, 0, 0, []), (8, .getfield 72, 7, 31, 0, []), (11, .iload_n 3, 0, 0, 0, []), (12, .iaload, 0, 0, 0, []), (13, .istore 4, 0, 0, 0, []), (15, .iload 4, 0, 0, 0, []), (17, .bipush 103, 0, 0, 103, []), (19, .if_icmp .lt 10, 29, 0, 0, []), (22, .iload 4, 0, 0, 0, []), (24, .bipush 105, 0, 0, 105, []), (26, .if_icmp .le 17, 43, 0, 0, []), (29, .iload 4, 0, 0, 0, []), (31, .bipush 65, 0, 0, 65, []), (33, .if_icmp .lt 139, 172, 0, 0, []), (36, .iload 4, 0, 0, 0, []), (38, .bipush 70, 0, 0, 70, []), (40, .if_icmp .gt 132, 172, 0, 0, []), (43, .iload 4, 0, 0, 0, []), (45, .bipush 70, 0, 0, 70, []), (47, .if_icmp .gt 7, 54, 0, 0, []), (50, .iconst 1, 0, 0, 1, []), (51, .goto 4, 55, 0, 0, []), (54, .iconst 0, 0, 0, 0, []), (55, .istore 5, 0, 0, 0, []), (57, .iload 5, 0, 0, 0, []), (59, .ifCond .eq 22, 81, 0, 0, []), (62, .bipush 16, 0, 0, 16, []), (64, .iload 4, 0, 0, 0, []), (66, .bipush 65, 0, 0, 65, []), (68, .isub, 0, 0, 0, []), (69, .imul, 0, 0, 0, []), (70, .aload_n 0, 0, 0, 0, []), (71, .getfield 153, 7, 36, 0, []), (74, .bipush 15, 0, 0, 15, []), (76, .iand, 0, 0, 0, []), (77, .iadd, 0, 0, 0, []), (78, .goto 19, 97, 0, 0, []), (81, .bipush 16, 0, 0, 16, []), (83, .iload 4, 0, 0, 0, []), (85, .bipush 103, 0, 0, 103, []), (87, .isub, 0, 0, 0, []), (88, .imul, 0, 0, 0, []), (89, .aload_n 0, 0, 0, 0, []), (90, .getfield 153, 7, 36, 0, []), (93, .bipush 15, 0, 0, 15, []), (95, .iand, 0, 0, 0, []), (96, .iadd, 0, 0, 0, []), (97, .istore 6, 0, 0, 0, []), (99, .iload 5, 0, 0, 0, []), (101, .ifCond .eq 14, 115, 0, 0, []), (104, .aload_n 0, 0, 0, 0, []), (105, .iload 6, 0, 0, 0, []), (107, .invokevirtual 138, 55, 2, 0, []), (110, .ifCond .ne 5, 115, 0, 0, []), (113, .iconst (-1), 0, 0, (-1), [])]
def tl_60_1 : List tb_Row := [(114, .ireturn, 0, 0, 0, []), (115, .aload_n 0, 0, 0, 0, []), (116, .iload 5, 0, 0, 0, []), (118, .ifCond .eq 11, 129, 0, 0, []), (121, .bipush 100, 0, 0, 100, []), (123, .iload 6, 0, 0, 0, []), (125, .iadd, 0, 0, 0, []), (126, .goto 5, 131, 0, 0, []), (129, .iload 6, 0, 0, 0, []), (131, .invokevirtual 156, 58, 2, 0, []), (134, .aload_n 0, 0, 0, 0, []), (135, .iload 5, 0, 0, 0, []), (137, .ifCond .eq 13, 150, 0, 0, []), (140, .aload_n 0, 0, 0, 0, []), (141, .getfield 38, 7, 12, 0, []), (144, .iload 6, 0, 0, 0, []), (146, .iaload, 0, 0, 0, []), (147, .goto 10, 157, 0, 0, []), (150, .aload_n 0, 0, 0, 0, []), (151, .getfield 19, 7, 6, 0, []), (154, .iload 6, 0, 0, 0, []), (156, .iaload, 0, 0, 0, []), (157, .putfield 153, 7, 36, 0, []), (160, .aload_n 0, 0, 0, 0, []), (161, .dup, 0, 0, 0, []), (162, .getfield 150, 7, 30, 0, []), (165, .iconst 1, 0, 0, 1, []), (166, .isub, 0, 0, 0, []), (167, .putfield 150, 7, 30, 0, []), (170, .iload_n 2, 0, 0, 0, []), (171, .ireturn, 0, 0, 0, []), (172, .iload 4, 0, 0, 0, []), (174, .bipush 63, 0, 0, 63, []), (176, .if_icmp .ne 48, 224, 0, 0, []), (179, .aload_n 0, 0, 0, 0, []), (180, .getfield 75, 7, 32, 0, []), (183, .iload_n 3, 0, 0, 0, []), (184, .iaload, 0, 0, 0, []), (185, .ifCond .ne 39, 224, 0, 0, []), (188, .aload_n 0, 0, 0, 0, []), (189, .getfield 75, 7, 32, 0, []), (192, .iload_n 3, 0, 0, 0, []), (193, .aload_n 0, 0, 0, 0, []), (194, .getfield 153, 7, 36, 0, []), (197, .ifCond .eq 7, 204, 0, 0, []), (200, .iconst 1, 0, 0, 1, []), (201, .goto 4, 205, 0, 0, []), (204, .iconst 2, 0, 0, 2, []), (205, .iastore, 0, 0, 0, []), (206, .aload_n 0, 0, 0, 0, []), (207, .getfield 153, 7, 36, 0, []), (210, .ifCond .eq 7, 217, 0, 0, []), (213, .iload_n 2, 0, 0, 0, []), (214, .goto 9, 223, 0, 0, []), (217, .aload_n 0, 0, 0, 0, []), (218, .iload_n 1, 0, 0, 0, []), (219, .iload_n 2, 0, 0, 0, []), (220, .invokevirtual 159, 59, 3, 0, []), (223, .ireturn, 0, 0, 0, []), (224, .iload 4, 0, 0, 0, [])]
def tl_60_2 : List tb_Row := [(226, .bipush 63, 0, 0, 63, []), (228, .if_icmp .ne 34, 262, 0, 0, []), (231, .aload_n 0, 0, 0, 0, []), (232, .dup, 0, 0, 0, []), (233, .getfield 150, 7, 30, 0, []), (236, .iconst 1, 0, 0, 1, []), (237, .isub, 0, 0, 0, []), (238, .putfield 150, 7, 30, 0, []), (241, .aload_n 0, 0, 0, 0, []), (242, .getfield 75, 7, 32, 0, []), (245, .iload_n 3, 0, 0, 0, []), (246, .iaload, 0, 0, 0, []), (247, .iconst 1, 0, 0, 1, []), (248, .if_icmp .ne 12, 260, 0, 0, []), (251, .aload_n 0, 0, 0, 0, []), (252, .iload_n 1, 0, 0, 0, []), (253, .iload_n 2, 0, 0, 0, []), (254, .invokevirtual 159, 59, 3, 0, []), (257, .goto 4, 261, 0, 0, []), (260, .iload_n 2, 0, 0, 0, []), (261, .ireturn, 0, 0, 0, []), (262, .aload_n 0, 0, 0, 0, []), (263, .getfield 75, 7, 32, 0, []), (266, .iload_n 3, 0, 0, 0, []), (267, .iaload, 0, 0, 0, []), (268, .ifCond .ne 22, 290, 0, 0, []), (271, .aload_n 0, 0, 0, 0, []), (272, .getfield 75, 7, 32, 0, []), (275, .iload_n 3, 0, 0, 0, []), (276, .iconst 1, 0, 0, 1, []), (277, .iastore, 0, 0, 0, []), (278, .aload_n 0, 0, 0, 0, []), (279, .getfield 78, 7, 33, 0, []), (282, .iload_n 3, 0, 0, 0, []), (283, .aload_n 0, 0, 0, 0, []), (284, .getfield 153, 7, 36, 0, []), (287, .iastore, 0, 0, 0, []), (288, .iload_n 2, 0, 0, 0, []), (289, .ireturn, 0, 0, 0, []), (290, .aload_n 0, 0, 0, 0, []), (291, .iload 4, 0, 0, 0, []), (293, .bipush 43, 0, 0, 43, []), (295, .if_icmp .ne 17, 312, 0, 0, []), (298, .aload_n 0, 0, 0, 0, []), (299, .getfield 78, 7, 33, 0, []), (302, .iload_n 3, 0, 0, 0, []), (303, .iaload, 0, 0, 0, []), (304, .aload_n 0, 0, 0, 0, []), (305, .getfield 153, 7, 36, 0, []), (308, .iadd, 0, 0, 0, []), (309, .goto 35, 344, 0, 0, []), (312, .iload 4, 0, 0, 0, []), (314, .bipush 45, 0, 0, 45, []), (316, .if_icmp .ne 17, 333, 0, 0, []), (319, .aload_n 0, 0, 0, 0, []), (320, .getfield 78, 7, 33, 0, []), (323, .iload_n 3, 0, 0, 0, []), (324, .iaload, 0, 0, 0, []), (325, .aload_n 0, 0, 0, 0, []), (326, .getfield 153, 7, 36, 0, [])]
def tl_60_3 : List tb_Row := [(329, .isub, 0, 0, 0, []), (330, .goto 14, 344, 0, 0, []), (333, .aload_n 0, 0, 0, 0, []), (334, .getfield 78, 7, 33, 0, []), (337, .iload_n 3, 0, 0, 0, []), (338, .iaload, 0, 0, 0, []), (339, .aload_n 0, 0, 0, 0, []), (340, .getfield 153, 7, 36, 0, []), (343, .imul, 0, 0, 0, []), (344, .putfield 153, 7, 36, 0, []), (347, .aload_n 0, 0, 0, 0, []), (348, .dup, 0, 0, 0, []), (349, .getfield 150, 7, 30, 0, []), (352, .iconst 1, 0, 0, 1, []), (353, .isub, 0, 0, 0, []), (354, .putfield 150, 7, 30, 0, []), (357, .iload_n 2, 0, 0, 0, []), (358, .ireturn, 0, 0, 0, [])]
def tl_60 : List tb_Row := tl_60_0 ++ tl_60_1 ++ tl_60_2 ++ tl_60_3
def tl_61_0 : List tb_Row := [(0, .aload_n 0, 0, 0, 0, []), (1, .iconst 0, 0, 0, 0, []), (2, .putfield 150, 7, 30, 0, []), (5, .aload_n 0, 0, 0, 0, []), (6, .iconst 0, 0, 0, 0, []), (7, .putfield 147, 7, 34, 0, []), (10, .iconst 0, 0, 0, 0, []), (11, .istore_n 3, 0, 0, 0, []), (12, .iconst 1, 0, 0, 1, []), (13, .istore 4, 0, 0, 0, []), (15, .iload 4, 0, 0, 0, []), (17, .ifCond .eq 141, 158, 0, 0, []), (20, .aload_n 0, 0, 0, 0, []), (21, .getfield 13, 7, 3, 0, []), (24, .bipush 24, 0, 0, 24, []), (26, .iload_n 1, 0, 0, 0, []), (27, .imul, 0, 0, 0, []), (28, .iload_n 3, 0, 0, 0, []), (29, .iadd, 0, 0, 0, []), (30, .iaload, 0, 0, 0, []), (31, .istore 5, 0, 0, 0, []), (33, .iinc 3 1, 0, 0, 1, []), (36, .iload 5, 0, 0, 0, []), (38, .invokestatic 92, 43, 1, 0, []), (41, .ifCond .le 37, 78, 0, 0, []), (44, .aload_n 0, 0, 0, 0, []), (45, .getfield 72, 7, 31, 0, []), (48, .aload_n 0, 0, 0, 0, []), (49, .getfield 150, 7, 30, 0, []), (52, .iload 5, 0, 0, 0, []), (54, .iastore, 0, 0, 0, []), (55, .aload_n 0, 0, 0, 0, []), (56, .getfield 75, 7, 32, 0, []), (59, .aload_n 0, 0, 0, 0, []), (60, .getfield 150, 7, 30, 0, []), (63, .iconst 0, 0, 0, 0, []), (64, .iastore, 0, 0, 0, []), (65, .aload_n 0, 0, 0, 0, []), (66, .dup, 0, 0, 0, []), (67, .getfield 150, 7, 30, 0, []), (70, .iconst 1, 0, 0, 1, []), (71, .iadd, 0, 0, 0, []), (72, .putfield 150, 7, 30, 0, []), (75, .goto 80, 155, 0, 0, []), (78, .aload_n 0, 0, 0, 0, []), (79, .iload 5, 0, 0, 0, []), (81, .bipush 107, 0, 0, 107, []), (83, .if_icmp .ne 7, 90, 0, 0, []), (86, .iload_n 2, 0, 0, 0, []), (87, .goto 8, 95, 0, 0, []), (90, .iload 5, 0, 0, 0, []), (92, .bipush 48, 0, 0, 48, []), (94, .isub, 0, 0, 0, []), (95, .putfield 153, 7, 36, 0, []), (98, .aload_n 0, 0, 0, 0, []), (99, .getfield 150, 7, 30, 0, []), (102, .iconst 1, 0, 0, 1, []), (103, .iadd, 0, 0, 0, []), (104, .istore 6, 0, 0, 0, []), (106, .aload_n 0, 0, 0, 0, [])]
def tl_61_1 : List tb_Row := [(107, .getfield 150, 7, 30, 0, []), (110, .ifCond .le 31, 141, 0, 0, []), (113, .aload_n 0, 0, 0, 0, []), (114, .getfield 150, 7, 30, 0, []), (117, .iload 6, 0, 0, 0, []), (119, .if_icmp .ge 22, 141, 0, 0, []), (122, .aload_n 0, 0, 0, 0, []), (123, .getfield 150, 7, 30, 0, []), (126, .istore 6, 0, 0, 0, []), (128, .aload_n 0, 0, 0, 0, []), (129, .iload_n 1, 0, 0, 0, []), (130, .iload_n 3, 0, 0, 0, []), (131, .invokevirtual 163, 60, 3, 0, []), (134, .istore_n 3, 0, 0, 0, []), (135, .iload_n 3, 0, 0, 0, []), (136, .ifCond .ge (-30), 106, 0, 0, []), (139, .iconst 0, 0, 0, 0, []), (140, .ireturn, 0, 0, 0, []), (141, .aload_n 0, 0, 0, 0, []), (142, .getfield 150, 7, 30, 0, []), (145, .ifCond .le 7, 152, 0, 0, []), (148, .iconst 1, 0, 0, 1, []), (149, .goto 4, 153, 0, 0, []), (152, .iconst 0, 0, 0, 0, []), (153, .istore 4, 0, 0, 0, []), (155, .goto (-140), 15, 0, 0, []), (158, .iconst 1, 0, 0, 1, []), (159, .ireturn, 0, 0, 0, [])]
def tl_61 : List tb_Row := tl_61_0 ++ tl_61_1
def tl_62_0 : List tb_Row := [(0, .aload_n 0, 0, 0, 0, []), (1, .getfield 66, 7, 27, 0, []), (4, .aload_n 0, 0, 0, 0, []), (5, .getfield 113, 7, 26, 0, []), (8, .iconst 1, 0, 0, 1, []), (9, .isub, 0, 0, 0, []), (10, .iaload, 0, 0, 0, []), (11, .istore_n 1, 0, 0, 0, []), (12, .aload_n 0, 0, 0, 0, []), (13, .iload_n 1, 0, 0, 0, []), (14, .bipush 16, 0, 0, 16, []), (16, .idiv, 0, 0, 0, []), (17, .iload_n 1, 0, 0, 0, []), (18, .bipush 16, 0, 0, 16, []), (20, .irem, 0, 0, 0, []), (21, .invokevirtual 166, 61, 3, 0, []), (24, .ifCond .ne 4, 28, 0, 0, []), (27, .return_, 0, 0, 0, []), (28, .iconst 2, 0, 0, 2, []), (29, .istore_n 2, 0, 0, 0, []), (30, .iconst 0, 0, 0, 0, []), (31, .istore_n 3, 0, 0, 0, []), (32, .iload_n 3, 0, 0, 0, []), (33, .aload_n 0, 0, 0, 0, []), (34, .getfield 147, 7, 34, 0, []), (37, .if_icmp .ge 55, 92, 0, 0, []), (40, .aload_n 0, 0, 0, 0, []), (41, .getfield 53, 7, 17, 0, []), (44, .bipush 24, 0, 0, 24, []), (46, .iload_n 1, 0, 0, 0, []), (47, .imul, 0, 0, 0, []), (48, .iload_n 3, 0, 0, 0, []), (49, .iadd, 0, 0, 0, []), (50, .aload_n 0, 0, 0, 0, []), (51, .getfield 81, 7, 35, 0, []), (54, .iload_n 3, 0, 0, 0, []), (55, .iaload, 0, 0, 0, []), (56, .iastore, 0, 0, 0, []), (57, .aload_n 0, 0, 0, 0, []), (58, .aload_n 0, 0, 0, 0, []), (59, .getfield 81, 7, 35, 0, []), (62, .iload_n 3, 0, 0, 0, []), (63, .iaload, 0, 0, 0, []), (64, .invokevirtual 141, 56, 2, 0, []), (67, .iload_n 2, 0, 0, 0, []), (68, .if_icmp .ge 16, 84, 0, 0, []), (71, .aload_n 0, 0, 0, 0, []), (72, .aload_n 0, 0, 0, 0, []), (73, .getfield 81, 7, 35, 0, []), (76, .iload_n 3, 0, 0, 0, []), (77, .iaload, 0, 0, 0, []), (78, .invokevirtual 141, 56, 2, 0, []), (81, .goto 4, 85, 0, 0, []), (84, .iload_n 2, 0, 0, 0, []), (85, .istore_n 2, 0, 0, 0, []), (86, .iinc 3 1, 0, 0, 1, []), (89, .goto (-57), 32, 0, 0, []), (92, .aload_n 0, 0, 0, 0, []), (93, .getfield 44, 7, 14, 0, []), (96, .iload_n 1, 0, 0, 0, [])]
def tl_62_1 : List tb_Row := [(97, .aload_n 0, 0, 0, 0, []), (98, .getfield 34, 7, 11, 0, []), (101, .iload_n 1, 0, 0, 0, []), (102, .baload, 0, 0, 0, []), (103, .ifCond .eq 25, 128, 0, 0, []), (106, .aload_n 0, 0, 0, 0, []), (107, .getfield 38, 7, 12, 0, []), (110, .iload_n 1, 0, 0, 0, []), (111, .iaload, 0, 0, 0, []), (112, .aload_n 0, 0, 0, 0, []), (113, .getfield 153, 7, 36, 0, []), (116, .if_icmp .ne 12, 128, 0, 0, []), (119, .aload_n 0, 0, 0, 0, []), (120, .getfield 44, 7, 14, 0, []), (123, .iload_n 1, 0, 0, 0, []), (124, .iaload, 0, 0, 0, []), (125, .goto 7, 132, 0, 0, []), (128, .aload_n 0, 0, 0, 0, []), (129, .getfield 99, 7, 5, 0, []), (132, .iastore, 0, 0, 0, []), (133, .aload_n 0, 0, 0, 0, []), (134, .getfield 34, 7, 11, 0, []), (137, .iload_n 1, 0, 0, 0, []), (138, .iconst 1, 0, 0, 1, []), (139, .bastore, 0, 0, 0, []), (140, .aload_n 0, 0, 0, 0, []), (141, .getfield 38, 7, 12, 0, []), (144, .iload_n 1, 0, 0, 0, []), (145, .aload_n 0, 0, 0, 0, []), (146, .getfield 153, 7, 36, 0, []), (149, .iastore, 0, 0, 0, []), (150, .aload_n 0, 0, 0, 0, []), (151, .getfield 56, 7, 18, 0, []), (154, .iload_n 1, 0, 0, 0, []), (155, .aload_n 0, 0, 0, 0, []), (156, .getfield 147, 7, 34, 0, []), (159, .iastore, 0, 0, 0, []), (160, .aload_n 0, 0, 0, 0, []), (161, .getfield 41, 7, 13, 0, []), (164, .iload_n 1, 0, 0, 0, []), (165, .aload_n 0, 0, 0, 0, []), (166, .getfield 99, 7, 5, 0, []), (169, .iastore, 0, 0, 0, []), (170, .aload_n 0, 0, 0, 0, []), (171, .getfield 47, 7, 15, 0, []), (174, .iload_n 1, 0, 0, 0, []), (175, .iload_n 2, 0, 0, 0, []), (176, .iastore, 0, 0, 0, []), (177, .aload_n 0, 0, 0, 0, []), (178, .getfield 50, 7, 16, 0, []), (181, .iload_n 1, 0, 0, 0, []), (182, .iconst 0, 0, 0, 0, []), (183, .bastore, 0, 0, 0, []), (184, .aload_n 0, 0, 0, 0, []), (185, .dup, 0, 0, 0, []), (186, .getfield 170, 7, 22, 0, []), (189, .iconst 1, 0, 0, 1, []), (190, .iadd, 0, 0, 0, []), (191, .putfield 170, 7, 22, 0, []), (194, .aload_n 0, 0, 0, 0, [])]
def tl_62_2 : List tb_Row := [(195, .iload_n 1, 0, 0, 0, []), (196, .invokevirtual 119, 51, 2, 0, []), (199, .aload_n 0, 0, 0, 0, []), (200, .dup, 0, 0, 0, []), (201, .getfield 113, 7, 26, 0, []), (204, .iconst 1, 0, 0, 1, []), (205, .isub, 0, 0, 0, []), (206, .putfield 113, 7, 26, 0, []), (209, .return_, 0, 0, 0, [])]
def tl_62 : List tb_Row := tl_62_0 ++ tl_62_1 ++ tl_62_2
def tl_63_0 : List tb_Row := [(0, .iload_n 0, 0, 0, 0, []), (1, .ifCond .lt 15, 16, 0, 0, []), (4, .iload_n 0, 0, 0, 0, []), (5, .iconst 5, 0, 0, 5, []), (6, .if_icmp .gt 10, 16, 0, 0, []), (9, .iload_n 1, 0, 0, 0, []), (10, .invokestatic 102, 47, 1, 0, []), (13, .ifCond .eq 7, 20, 0, 0, []), (16, .iconst 1, 0, 0, 1, []), (17, .goto 4, 21, 0, 0, []), (20, .iconst 0, 0, 0, 0, []), (21, .ireturn, 0, 0, 0, [])]
def tl_63 : List tb_Row := tl_63_0
def tl_64_0 : List tb_Row := [(0, .iconst 0, 0, 0, 0, []), (1, .istore_n 1, 0, 0, 0, []), (2, .iconst 0, 0, 0, 0, []), (3, .istore_n 2, 0, 0, 0, []), (4, .iload_n 2, 0, 0, 0, []), (5, .bipush 96, 0, 0, 96, []), (7, .if_icmp .ge 26, 33, 0, 0, []), (10, .aload_n 0, 0, 0, 0, []), (11, .getfield 34, 7, 11, 0, []), (14, .iload_n 2, 0, 0, 0, []), (15, .baload, 0, 0, 0, []), (16, .ifCond .eq 9, 25, 0, 0, []), (19, .iload_n 1, 0, 0, 0, []), (20, .iconst 1, 0, 0, 1, []), (21, .iadd, 0, 0, 0, []), (22, .goto 4, 26, 0, 0, []), (25, .iload_n 1, 0, 0, 0, []), (26, .istore_n 1, 0, 0, 0, []), (27, .iinc 2 1, 0, 0, 1, []), (30, .goto (-26), 4, 0, 0, []), (33, .iload_n 1, 0, 0, 0, []), (34, .ireturn, 0, 0, 0, [])]
def tl_64 : List tb_Row := tl_64_0
def tl_65_0 : List tb_Row := [(0, .iconst 0, 0, 0, 0, []), (1, .istore_n 2, 0, 0, 0, []), (2, .iload_n 2, 0, 0, 0, []), (3, .bipush 96, 0, 0, 96, []), (5, .if_icmp .ge 77, 82, 0, 0, []), (8, .iconst 0, 0, 0, 0, []), (9, .istore_n 3, 0, 0, 0, []), (10, .iconst 0, 0, 0, 0, []), (11, .istore 4, 0, 0, 0, []), (13, .iload 4, 0, 0, 0, []), (15, .bipush 96, 0, 0, 96, []), (17, .if_icmp .ge 43, 60, 0, 0, []), (20, .aload_n 0, 0, 0, 0, []), (21, .getfield 34, 7, 11, 0, []), (24, .iload 4, 0, 0, 0, []), (26, .baload, 0, 0, 0, []), (27, .ifCond .eq 25, 52, 0, 0, []), (30, .aload_n 0, 0, 0, 0, []), (31, .getfield 59, 7, 19, 0, []), (34, .iload 4, 0, 0, 0, []), (36, .iaload, 0, 0, 0, []), (37, .aload_n 0, 0, 0, 0, []), (38, .getfield 59, 7, 19, 0, []), (41, .iload_n 2, 0, 0, 0, []), (42, .iaload, 0, 0, 0, []), (43, .if_icmp .ge 9, 52, 0, 0, []), (46, .iload_n 3, 0, 0, 0, []), (47, .iconst 1, 0, 0, 1, []), (48, .iadd, 0, 0, 0, []), (49, .goto 4, 53, 0, 0, []), (52, .iload_n 3, 0, 0, 0, []), (53, .istore_n 3, 0, 0, 0, []), (54, .iinc 4 1, 0, 0, 1, []), (57, .goto (-44), 13, 0, 0, []), (60, .aload_n 0, 0, 0, 0, []), (61, .getfield 34, 7, 11, 0, []), (64, .iload_n 2, 0, 0, 0, []), (65, .baload, 0, 0, 0, []), (66, .ifCond .eq 10, 76, 0, 0, []), (69, .iload_n 3, 0, 0, 0, []), (70, .iload_n 1, 0, 0, 0, []), (71, .if_icmp .ne 5, 76, 0, 0, []), (74, .iload_n 2, 0, 0, 0, []), (75, .ireturn, 0, 0, 0, []), (76, .iinc 2 1, 0, 0, 1, []), (79, .goto (-77), 2, 0, 0, []), (82, .iconst (-1), 0, 0, (-1), []), (83, .ireturn, 0, 0, 0, [])]
def tl_65 : List tb_Row := tl_65_0
def tl_66_0 : List tb_Row := [(0, .iconst 0, 0, 0, 0, []), (1, .istore_n 1, 0, 0, 0, []), (2, .aload_n 0, 0, 0, 0, []), (3, .invokevirtual 173, 64, 1, 0, []), (6, .aload_n 0, 0, 0, 0, []), (7, .getfield 62, 7, 21, 0, []), (10, .if_icmp .le 20, 30, 0, 0, []), (13, .aload_n 0, 0, 0, 0, []), (14, .getfield 34, 7, 11, 0, []), (17, .aload_n 0, 0, 0, 0, []), (18, .iconst 0, 0, 0, 0, []), (19, .invokevirtual 177, 65, 2, 0, []), (22, .iconst 0, 0, 0, 0, []), (23, .bastore, 0, 0, 0, []), (24, .iinc 1 1, 0, 0, 1, []), (27, .goto (-25), 2, 0, 0, []), (30, .iload_n 1, 0, 0, 0, []), (31, .ireturn, 0, 0, 0, [])]
def tl_66 : List tb_Row := tl_66_0
def tl_67_0 : List tb_Row := [(0, .aload_n 0, 0, 0, 0, []), (1, .iload_n 1, 0, 0, 0, []), (2, .iload_n 2, 0, 0, 0, []), (3, .invokestatic 180, 63, 2, 0, []), (6, .ifCond .eq 7, 13, 0, 0, []), (9, .iconst 1, 0, 0, 1, []), (10, .goto 4, 14, 0, 0, []), (13, .iconst 0, 0, 0, 0, []), (14, .putfield 84, 7, 0, 0, []), (17, .aload_n 0, 0, 0, 0, []), (18, .getfield 84, 7, 0, 0, []), (21, .ifCond .le 5, 26, 0, 0, []), (24, .iconst 0, 0, 0, 0, []), (25, .ireturn, 0, 0, 0, []), (26, .bipush 16, 0, 0, 16, []), (28, .iload_n 1, 0, 0, 0, []), (29, .imul, 0, 0, 0, []), (30, .iload_n 2, 0, 0, 0, []), (31, .iadd, 0, 0, 0, []), (32, .istore_n 3, 0, 0, 0, []), (33, .aload_n 0, 0, 0, 0, []), (34, .iconst 0, 0, 0, 0, []), (35, .putfield 113, 7, 26, 0, []), (38, .aload_n 0, 0, 0, 0, []), (39, .iconst 0, 0, 0, 0, []), (40, .putfield 134, 7, 29, 0, []), (43, .aload_n 0, 0, 0, 0, []), (44, .getfield 134, 7, 29, 0, []), (47, .ifCond .ne 60, 107, 0, 0, []), (50, .aload_n 0, 0, 0, 0, []), (51, .getfield 113, 7, 26, 0, []), (54, .ifCond .gt 11, 65, 0, 0, []), (57, .aload_n 0, 0, 0, 0, []), (58, .iload_n 3, 0, 0, 0, []), (59, .invokevirtual 138, 55, 2, 0, []), (62, .ifCond .ne 45, 107, 0, 0, []), (65, .aload_n 0, 0, 0, 0, []), (66, .getfield 113, 7, 26, 0, []), (69, .ifCond .le 24, 93, 0, 0, []), (72, .aload_n 0, 0, 0, 0, []), (73, .getfield 69, 7, 28, 0, []), (76, .aload_n 0, 0, 0, 0, []), (77, .getfield 113, 7, 26, 0, []), (80, .iconst 1, 0, 0, 1, []), (81, .isub, 0, 0, 0, []), (82, .baload, 0, 0, 0, []), (83, .ifCond .eq 10, 93, 0, 0, []), (86, .aload_n 0, 0, 0, 0, []), (87, .invokevirtual 183, 62, 1, 0, []), (90, .goto (-47), 43, 0, 0, []), (93, .aload_n 0, 0, 0, 0, []), (94, .getfield 113, 7, 26, 0, []), (97, .ifCond .le (-54), 43, 0, 0, []), (100, .aload_n 0, 0, 0, 0, []), (101, .invokevirtual 186, 57, 1, 0, []), (104, .goto (-61), 43, 0, 0, []), (107, .aload_n 0, 0, 0, 0, []), (108, .iconst 0, 0, 0, 0, []), (109, .putfield 113, 7, 26, 0, []), (112, .aload_n 0, 0, 0, 0, [])]
def tl_67_1 : List tb_Row := [(113, .getfield 134, 7, 29, 0, []), (116, .ifCond .eq 10, 126, 0, 0, []), (119, .aload_n 0, 0, 0, 0, []), (120, .iconst 2, 0, 0, 2, []), (121, .putfield 84, 7, 0, 0, []), (124, .iconst 0, 0, 0, 0, []), (125, .ireturn, 0, 0, 0, []), (126, .aload_n 0, 0, 0, 0, []), (127, .iload_n 3, 0, 0, 0, []), (128, .invokevirtual 119, 51, 2, 0, []), (131, .aload_n 0, 0, 0, 0, []), (132, .invokevirtual 189, 66, 1, 0, []), (135, .istore 4, 0, 0, 0, []), (137, .aload_n 0, 0, 0, 0, []), (138, .getfield 38, 7, 12, 0, []), (141, .iload_n 3, 0, 0, 0, []), (142, .iaload, 0, 0, 0, []), (143, .ireturn, 0, 0, 0, [])]
def tl_67 : List tb_Row := tl_67_0 ++ tl_67_1
def tl_68_0 : List tb_Row := [(0, .aload_n 0, 0, 0, 0, []), (1, .iconst 0, 0, 0, 0, []), (2, .putfield 84, 7, 0, 0, []), (5, .iload_n 1, 0, 0, 0, []), (6, .tableswitch 68 0 5 #[38, 43, 48, 53, 58, 63], 74, 38, 0, [44, 49, 54, 59, 64, 69]), (44, .aload_n 0, 0, 0, 0, []), (45, .getfield 99, 7, 5, 0, []), (48, .ireturn, 0, 0, 0, []), (49, .aload_n 0, 0, 0, 0, []), (50, .getfield 170, 7, 22, 0, []), (53, .ireturn, 0, 0, 0, []), (54, .aload_n 0, 0, 0, 0, []), (55, .getfield 144, 7, 23, 0, []), (58, .ireturn, 0, 0, 0, []), (59, .aload_n 0, 0, 0, 0, []), (60, .getfield 131, 7, 24, 0, []), (63, .ireturn, 0, 0, 0, []), (64, .aload_n 0, 0, 0, 0, []), (65, .getfield 116, 7, 25, 0, []), (68, .ireturn, 0, 0, 0, []), (69, .aload_n 0, 0, 0, 0, []), (70, .invokevirtual 173, 64, 1, 0, []), (73, .ireturn, 0, 0, 0, []), (74, .iconst (-1), 0, 0, (-1), []), (75, .ireturn, 0, 0, 0, [])]
def tl_68 : List tb_Row := tl_68_0
def tl_69_0 : List tb_Row := [(0, .aload_n 0, 0, 0, 0, []), (1, .iload_n 1, 0, 0, 0, []), (2, .iload_n 2, 0, 0, 0, []), (3, .invokestatic 180, 63, 2, 0, []), (6, .ifCond .eq 7, 13, 0, 0, []), (9, .iconst 1, 0, 0, 1, []), (10, .goto 4, 14, 0, 0, []), (13, .iconst 0, 0, 0, 0, []), (14, .putfield 84, 7, 0, 0, []), (17, .aload_n 0, 0, 0, 0, []), (18, .getfield 84, 7, 0, 0, []), (21, .ifCond .ne 21, 42, 0, 0, []), (24, .aload_n 0, 0, 0, 0, []), (25, .getfield 34, 7, 11, 0, []), (28, .bipush 16, 0, 0, 16, []), (30, .iload_n 1, 0, 0, 0, []), (31, .imul, 0, 0, 0, []), (32, .iload_n 2, 0, 0, 0, []), (33, .iadd, 0, 0, 0, []), (34, .baload, 0, 0, 0, []), (35, .ifCond .eq 7, 42, 0, 0, []), (38, .iconst 1, 0, 0, 1, []), (39, .goto 4, 43, 0, 0, []), (42, .iconst 0, 0, 0, 0, []), (43, .ireturn, 0, 0, 0, [])]
def tl_69 : List tb_Row := tl_69_0
def tl_70_0 : List tb_Row := [(0, .bipush 16, 0, 0, 16, []), (2, .iload_n 1, 0, 0, 0, []), (3, .imul, 0, 0, 0, []), (4, .iload_n 2, 0, 0, 0, []), (5, .iadd, 0, 0, 0, []), (6, .istore 4, 0, 0, 0, []), (8, .aload_n 0, 0, 0, 0, []), (9, .iload_n 1, 0, 0, 0, []), (10, .iload_n 2, 0, 0, 0, []), (11, .invokestatic 180, 63, 2, 0, []), (14, .ifCond .ne 12, 26, 0, 0, []), (17, .iload_n 3, 0, 0, 0, []), (18, .ifCond .lt 8, 26, 0, 0, []), (21, .iload_n 3, 0, 0, 0, []), (22, .iconst 5, 0, 0, 5, []), (23, .if_icmp .le 7, 30, 0, 0, []), (26, .iconst 1, 0, 0, 1, []), (27, .goto 18, 45, 0, 0, []), (30, .aload_n 0, 0, 0, 0, []), (31, .getfield 34, 7, 11, 0, []), (34, .iload 4, 0, 0, 0, []), (36, .baload, 0, 0, 0, []), (37, .ifCond .ne 7, 44, 0, 0, []), (40, .iconst 2, 0, 0, 2, []), (41, .goto 4, 45, 0, 0, []), (44, .iconst 0, 0, 0, 0, []), (45, .putfield 84, 7, 0, 0, []), (48, .aload_n 0, 0, 0, 0, []), (49, .getfield 84, 7, 0, 0, []), (52, .ifCond .le 5, 57, 0, 0, []), (55, .iconst 0, 0, 0, 0, []), (56, .ireturn, 0, 0, 0, []), (57, .iload_n 3, 0, 0, 0, []), (58, .ifCond .ne 13, 71, 0, 0, []), (61, .aload_n 0, 0, 0, 0, []), (62, .getfield 38, 7, 12, 0, []), (65, .iload 4, 0, 0, 0, []), (67, .iaload, 0, 0, 0, []), (68, .goto 78, 146, 0, 0, []), (71, .iload_n 3, 0, 0, 0, []), (72, .iconst 1, 0, 0, 1, []), (73, .if_icmp .ne 13, 86, 0, 0, []), (76, .aload_n 0, 0, 0, 0, []), (77, .getfield 41, 7, 13, 0, []), (80, .iload 4, 0, 0, 0, []), (82, .iaload, 0, 0, 0, []), (83, .goto 63, 146, 0, 0, []), (86, .iload_n 3, 0, 0, 0, []), (87, .iconst 2, 0, 0, 2, []), (88, .if_icmp .ne 13, 101, 0, 0, []), (91, .aload_n 0, 0, 0, 0, []), (92, .getfield 44, 7, 14, 0, []), (95, .iload 4, 0, 0, 0, []), (97, .iaload, 0, 0, 0, []), (98, .goto 48, 146, 0, 0, []), (101, .iload_n 3, 0, 0, 0, []), (102, .iconst 3, 0, 0, 3, []), (103, .if_icmp .ne 13, 116, 0, 0, []), (106, .aload_n 0, 0, 0, 0, []), (107, .getfield 47, 7, 15, 0, [])]
def tl_70_1 : List tb_Row := [(110, .iload 4, 0, 0, 0, []), (112, .iaload, 0, 0, 0, []), (113, .goto 33, 146, 0, 0, []), (116, .iload_n 3, 0, 0, 0, []), (117, .iconst 4, 0, 0, 4, []), (118, .if_icmp .ne 21, 139, 0, 0, []), (121, .aload_n 0, 0, 0, 0, []), (122, .getfield 50, 7, 16, 0, []), (125, .iload 4, 0, 0, 0, []), (127, .baload, 0, 0, 0, []), (128, .ifCond .eq 7, 135, 0, 0, []), (131, .iconst 1, 0, 0, 1, []), (132, .goto 14, 146, 0, 0, []), (135, .iconst 0, 0, 0, 0, []), (136, .goto 10, 146, 0, 0, []), (139, .aload_n 0, 0, 0, 0, []), (140, .getfield 56, 7, 18, 0, []), (143, .iload 4, 0, 0, 0, []), (145, .iaload, 0, 0, 0, []), (146, .ireturn, 0, 0, 0, [])]
def tl_70 : List tb_Row := tl_70_0 ++ tl_70_1
def tl_71_0 : List tb_Row := [(0, .bipush 16, 0, 0, 16, []), (2, .iload_n 1, 0, 0, 0, []), (3, .imul, 0, 0, 0, []), (4, .iload_n 2, 0, 0, 0, []), (5, .iadd, 0, 0, 0, []), (6, .istore 4, 0, 0, 0, []), (8, .aload_n 0, 0, 0, 0, []), (9, .iload_n 1, 0, 0, 0, []), (10, .iload_n 2, 0, 0, 0, []), (11, .invokestatic 180, 63, 2, 0, []), (14, .ifCond .eq 7, 21, 0, 0, []), (17, .iconst 1, 0, 0, 1, []), (18, .goto 18, 36, 0, 0, []), (21, .aload_n 0, 0, 0, 0, []), (22, .getfield 34, 7, 11, 0, []), (25, .iload 4, 0, 0, 0, []), (27, .baload, 0, 0, 0, []), (28, .ifCond .ne 7, 35, 0, 0, []), (31, .iconst 2, 0, 0, 2, []), (32, .goto 4, 36, 0, 0, []), (35, .iconst 0, 0, 0, 0, []), (36, .putfield 84, 7, 0, 0, []), (39, .aload_n 0, 0, 0, 0, []), (40, .getfield 84, 7, 0, 0, []), (43, .ifCond .le 7, 50, 0, 0, []), (46, .iconst 0, 0, 0, 0, []), (47, .goto 34, 81, 0, 0, []), (50, .iload_n 3, 0, 0, 0, []), (51, .ifCond .lt 14, 65, 0, 0, []), (54, .iload_n 3, 0, 0, 0, []), (55, .aload_n 0, 0, 0, 0, []), (56, .getfield 56, 7, 18, 0, []), (59, .iload 4, 0, 0, 0, []), (61, .iaload, 0, 0, 0, []), (62, .if_icmp .lt 7, 69, 0, 0, []), (65, .iconst (-1), 0, 0, (-1), []), (66, .goto 15, 81, 0, 0, []), (69, .aload_n 0, 0, 0, 0, []), (70, .getfield 53, 7, 17, 0, []), (73, .bipush 24, 0, 0, 24, []), (75, .iload 4, 0, 0, 0, []), (77, .imul, 0, 0, 0, []), (78, .iload_n 3, 0, 0, 0, []), (79, .iadd, 0, 0, 0, []), (80, .iaload, 0, 0, 0, []), (81, .ireturn, 0, 0, 0, [])]
def tl_71 : List tb_Row := tl_71_0
def tl_72_0 : List tb_Row := [(0, .aload_n 0, 0, 0, 0, []), (1, .iconst 0, 0, 0, 0, []), (2, .putfield 84, 7, 0, 0, []), (5, .iload_n 1, 0, 0, 0, []), (6, .ifCond .ge 7, 13, 0, 0, []), (9, .iconst (-1), 0, 0, (-1), []), (10, .goto 8, 18, 0, 0, []), (13, .aload_n 0, 0, 0, 0, []), (14, .iload_n 1, 0, 0, 0, []), (15, .invokevirtual 177, 65, 2, 0, []), (18, .ireturn, 0, 0, 0, [])]
def tl_72 : List tb_Row := tl_72_0
def tl_73_0 : List tb_Row := [(0, .aload_n 0, 0, 0, 0, []), (1, .iload_n 1, 0, 0, 0, []), (2, .iconst 1, 0, 0, 1, []), (3, .if_icmp .lt 9, 12, 0, 0, []), (6, .iload_n 1, 0, 0, 0, []), (7, .bipush 96, 0, 0, 96, []), (9, .if_icmp .le 7, 16, 0, 0, []), (12, .iconst 1, 0, 0, 1, []), (13, .goto 4, 17, 0, 0, []), (16, .iconst 0, 0, 0, 0, []), (17, .putfield 84, 7, 0, 0, []), (20, .aload_n 0, 0, 0, 0, []), (21, .getfield 84, 7, 0, 0, []), (24, .ifCond .le 5, 29, 0, 0, []), (27, .iconst 0, 0, 0, 0, []), (28, .ireturn, 0, 0, 0, []), (29, .aload_n 0, 0, 0, 0, []), (30, .iload_n 1, 0, 0, 0, []), (31, .putfield 62, 7, 21, 0, []), (34, .aload_n 0, 0, 0, 0, []), (35, .invokevirtual 189, 66, 1, 0, []), (38, .ireturn, 0, 0, 0, [])]
def tl_73 : List tb_Row := tl_73_0
def tl_74_0 : List tb_Row := [(0, .aload_n 0, 0, 0, 0, []), (1, .iload_n 1, 0, 0, 0, []), (2, .iload_n 2, 0, 0, 0, []), (3, .invokestatic 180, 63, 2, 0, []), (6, .ifCond .eq 7, 13, 0, 0, []), (9, .iconst 1, 0, 0, 1, []), (10, .goto 4, 14, 0, 0, []), (13, .iconst 0, 0, 0, 0, []), (14, .putfield 84, 7, 0, 0, []), (17, .aload_n 0, 0, 0, 0, []), (18, .getfield 84, 7, 0, 0, []), (21, .ifCond .le 5, 26, 0, 0, []), (24, .iconst 0, 0, 0, 0, []), (25, .ireturn, 0, 0, 0, []), (26, .aload_n 0, 0, 0, 0, []), (27, .getfield 34, 7, 11, 0, []), (30, .bipush 16, 0, 0, 16, []), (32, .iload_n 1, 0, 0, 0, []), (33, .imul, 0, 0, 0, []), (34, .iload_n 2, 0, 0, 0, []), (35, .iadd, 0, 0, 0, []), (36, .baload, 0, 0, 0, []), (37, .istore_n 3, 0, 0, 0, []), (38, .aload_n 0, 0, 0, 0, []), (39, .getfield 34, 7, 11, 0, []), (42, .bipush 16, 0, 0, 16, []), (44, .iload_n 1, 0, 0, 0, []), (45, .imul, 0, 0, 0, []), (46, .iload_n 2, 0, 0, 0, []), (47, .iadd, 0, 0, 0, []), (48, .iconst 0, 0, 0, 0, []), (49, .bastore, 0, 0, 0, []), (50, .iload_n 3, 0, 0, 0, []), (51, .ireturn, 0, 0, 0, [])]
def tl_74 : List tb_Row := tl_74_0
def tl_75_0 : List tb_Row := [(0, .aload_n 0, 0, 0, 0, []), (1, .invokespecial 3, 1000, 0, 0, []), (4, .aload_n 0, 0, 0, 0, []), (5, .iconst 0, 0, 0, 0, []), (6, .putfield 9, 0, 0, 0, []), (9, .aload_n 0, 0, 0, 0, []), (10, .bipush 24, 0, 0, 24, []), (12, .newarray .int, 0, 0, 0, []), (14, .putfield 15, 0, 1, 0, []), (17, .aload_n 0, 0, 0, 0, []), (18, .iconst 0, 0, 0, 0, []), (19, .putfield 19, 0, 2, 0, []), (22, .aload_n 0, 0, 0, 0, []), (23, .iconst 0, 0, 0, 0, []), (24, .putfield 22, 0, 3, 0, []), (27, .aload_n 0, 0, 0, 0, []), (28, .iconst 0, 0, 0, 0, []), (29, .putfield 25, 0, 4, 0, []), (32, .aload_n 0, 0, 0, 0, []), (33, .iconst 2, 0, 0, 2, []), (34, .putfield 28, 0, 5, 0, []), (37, .aload_n 0, 0, 0, 0, []), (38, .iconst 0, 0, 0, 0, []), (39, .putfield 31, 0, 6, 0, []), (42, .return_, 0, 0, 0, [])]
def tl_75 : List tb_Row := tl_75_0
def tl_76_0 : List tb_Row := [(0, .aload_n 0, 0, 0, 0, []), (1, .invokespecial 3, 1000, 0, 0, []), (4, .aload_n 0, 0, 0, 0, []), (5, .iconst 0, 0, 0, 0, []), (6, .putfield 9, 1, 0, 0, []), (9, .aload_n 0, 0, 0, 0, []), (10, .iconst 3, 0, 0, 3, []), (11, .newarray .int, 0, 0, 0, []), (13, .putfield 15, 1, 1, 0, []), (16, .return_, 0, 0, 0, [])]
def tl_76 : List tb_Row := tl_76_0
def tl_77_0 : List tb_Row := [(0, .aload_n 0, 0, 0, 0, []), (1, .dup, 0, 0, 0, []), (2, .getfield 9, 1, 0, 0, []), (5, .iconst 1, 0, 0, 1, []), (6, .iadd, 0, 0, 0, []), (7, .putfield 9, 1, 0, 0, []), (10, .aload_n 0, 0, 0, 0, []), (11, .getfield 15, 1, 1, 0, []), (14, .iload_n 1, 0, 0, 0, []), (15, .aload_n 0, 0, 0, 0, []), (16, .getfield 9, 1, 0, 0, []), (19, .iastore, 0, 0, 0, []), (20, .return_, 0, 0, 0, [])]
def tl_77 : List tb_Row := tl_77_0
def tl_78_0 : List tb_Row := [(0, .iload_n 1, 0, 0, 0, []), (1, .istore_n 3, 0, 0, 0, []), (2, .iload_n 3, 0, 0, 0, []), (3, .iconst 2, 0, 0, 2, []), (4, .if_icmp .gt 21, 25, 0, 0, []), (7, .aload_n 0, 0, 0, 0, []), (8, .getfield 15, 1, 1, 0, []), (11, .iload_n 3, 0, 0, 0, []), (12, .iaload, 0, 0, 0, []), (13, .iload_n 2, 0, 0, 0, []), (14, .if_icmp .le 5, 19, 0, 0, []), (17, .iconst 1, 0, 0, 1, []), (18, .ireturn, 0, 0, 0, []), (19, .iinc 3 1, 0, 0, 1, []), (22, .goto (-20), 2, 0, 0, []), (25, .iconst 0, 0, 0, 0, []), (26, .ireturn, 0, 0, 0, [])]
def tl_78 : List tb_Row := tl_78_0
def tl_79_0 : List tb_Row := [(0, .aload_n 0, 0, 0, 0, []), (1, .invokespecial 3, 1000, 0, 0, []), (4, .aload_n 0, 0, 0, 0, []), (5, .bipush 48, 0, 0, 48, []), (7, .newarray .int, 0, 0, 0, []), (9, .putfield 9, 2, 0, 0, []), (12, .aload_n 0, 0, 0, 0, []), (13, .bipush 48, 0, 0, 48, []), (15, .newarray .int, 0, 0, 0, []), (17, .putfield 15, 2, 1, 0, []), (20, .aload_n 0, 0, 0, 0, []), (21, .iconst 3, 0, 0, 3, []), (22, .newarray .int, 0, 0, 0, []), (24, .putfield 18, 2, 2, 0, []), (27, .return_, 0, 0, 0, [])]
def tl_79 : List tb_Row := tl_79_0
def tl_80_0 : List tb_Row := [(0, .aload_n 0, 0, 0, 0, []), (1, .invokespecial 3, 1000, 0, 0, []), (4, .aload_n 0, 0, 0, 0, []), (5, .iconst 0, 0, 0, 0, []), (6, .putfield 9, 3, 0, 0, []), (9, .aload_n 0, 0, 0, 0, []), (10, .bipush 96, 0, 0, 96, []), (12, .newarray .boolean, 0, 0, 0, []), (14, .putfield 15, 3, 1, 0, []), (17, .aload_n 0, 0, 0, 0, []), (18, .bipush 97, 0, 0, 97, []), (20, .newarray .int, 0, 0, 0, []), (22, .putfield 19, 3, 2, 0, []), (25, .aload_n 0, 0, 0, 0, []), (26, .bipush 97, 0, 0, 97, []), (28, .newarray .int, 0, 0, 0, []), (30, .putfield 23, 3, 3, 0, []), (33, .aload_n 0, 0, 0, 0, []), (34, .getfield 19, 3, 2, 0, []), (37, .bipush 96, 0, 0, 96, []), (39, .bipush 96, 0, 0, 96, []), (41, .iastore, 0, 0, 0, []), (42, .aload_n 0, 0, 0, 0, []), (43, .getfield 23, 3, 3, 0, []), (46, .bipush 96, 0, 0, 96, []), (48, .bipush 96, 0, 0, 96, []), (50, .iastore, 0, 0, 0, []), (51, .return_, 0, 0, 0, [])]
def tl_80 : List tb_Row := tl_80_0
def tl_81_0 : List tb_Row := [(0, .aload_n 0, 0, 0, 0, []), (1, .getfield 15, 3, 1, 0, []), (4, .iload_n 1, 0, 0, 0, []), (5, .baload, 0, 0, 0, []), (6, .ireturn, 0, 0, 0, [])]
def tl_81 : List tb_Row := tl_81_0
def tl_82_0 : List tb_Row := [(0, .aload_n 0, 0, 0, 0, []), (1, .iload_n 1, 0, 0, 0, []), (2, .invokevirtual 26, 83, 2, 0, []), (5, .aload_n 0, 0, 0, 0, []), (6, .getfield 19, 3, 2, 0, []), (9, .bipush 96, 0, 0, 96, []), (11, .iaload, 0, 0, 0, []), (12, .istore_n 2, 0, 0, 0, []), (13, .aload_n 0, 0, 0, 0, []), (14, .iload_n 2, 0, 0, 0, []), (15, .iload_n 1, 0, 0, 0, []), (16, .invokevirtual 30, 86, 3, 0, []), (19, .aload_n 0, 0, 0, 0, []), (20, .iload_n 1, 0, 0, 0, []), (21, .bipush 96, 0, 0, 96, []), (23, .invokevirtual 30, 86, 3, 0, []), (26, .aload_n 0, 0, 0, 0, []), (27, .getfield 15, 3, 1, 0, []), (30, .iload_n 1, 0, 0, 0, []), (31, .iconst 1, 0, 0, 1, []), (32, .bastore, 0, 0, 0, []), (33, .aload_n 0, 0, 0, 0, []), (34, .dup, 0, 0, 0, []), (35, .getfield 9, 3, 0, 0, []), (38, .iconst 1, 0, 0, 1, []), (39, .iadd, 0, 0, 0, []), (40, .putfield 9, 3, 0, 0, []), (43, .return_, 0, 0, 0, [])]
def tl_82 : List tb_Row := tl_82_0
def tl_83_0 : List tb_Row := [(0, .aload_n 0, 0, 0, 0, []), (1, .getfield 15, 3, 1, 0, []), (4, .iload_n 1, 0, 0, 0, []), (5, .baload, 0, 0, 0, []), (6, .ifCond .eq 36, 42, 0, 0, []), (9, .aload_n 0, 0, 0, 0, []), (10, .aload_n 0, 0, 0, 0, []), (11, .getfield 19, 3, 2, 0, []), (14, .iload_n 1, 0, 0, 0, []), (15, .iaload, 0, 0, 0, []), (16, .aload_n 0, 0, 0, 0, []), (17, .getfield 23, 3, 3, 0, []), (20, .iload_n 1, 0, 0, 0, []), (21, .iaload, 0, 0, 0, []), (22, .invokevirtual 30, 86, 3, 0, []), (25, .aload_n 0, 0, 0, 0, []), (26, .getfield 15, 3, 1, 0, []), (29, .iload_n 1, 0, 0, 0, []), (30, .iconst 0, 0, 0, 0, []), (31, .bastore, 0, 0, 0, []), (32, .aload_n 0, 0, 0, 0, []), (33, .dup, 0, 0, 0, []), (34, .getfield 9, 3, 0, 0, []), (37, .iconst 1, 0, 0, 1, []), (38, .isub, 0, 0, 0, []), (39, .putfield 9, 3, 0, 0, []), (42, .return_, 0, 0, 0, [])]
def tl_83 : List tb_Row := tl_83_0
def tl_84_0 : List tb_Row := [(0, .iconst 0, 0, 0, 0, []), (1, .istore_n 1, 0, 0, 0, []), (2, .iload_n 1, 0, 0, 0, []), (3, .bipush 96, 0, 0, 96, []), (5, .if_icmp .ge 14, 19, 0, 0, []), (8, .aload_n 0, 0, 0, 0, []), (9, .iload_n 1, 0, 0, 0, []), (10, .invokevirtual 26, 83, 2, 0, []), (13, .iinc 1 1, 0, 0, 1, []), (16, .goto (-14), 2, 0, 0, []), (19, .return_, 0, 0, 0, [])]
def tl_84 : List tb_Row := tl_84_0
def tl_85_0 : List tb_Row := [(0, .aload_n 0, 0, 0, 0, []), (1, .getfield 23, 3, 3, 0, []), (4, .bipush 96, 0, 0, 96, []), (6, .iaload, 0, 0, 0, []), (7, .istore_n 2, 0, 0, 0, []), (8, .iconst 0, 0, 0, 0, []), (9, .istore_n 3, 0, 0, 0, []), (10, .iload_n 3, 0, 0, 0, []), (11, .iload_n 1, 0, 0, 0, []), (12, .if_icmp .ge 16, 28, 0, 0, []), (15, .aload_n 0, 0, 0, 0, []), (16, .getfield 23, 3, 3, 0, []), (19, .iload_n 2, 0, 0, 0, []), (20, .iaload, 0, 0, 0, []), (21, .istore_n 2, 0, 0, 0, []), (22, .iinc 3 1, 0, 0, 1, []), (25, .goto (-15), 10, 0, 0, []), (28, .iload_n 2, 0, 0, 0, []), (29, .ireturn, 0, 0, 0, [])]
def tl_85 : List tb_Row := tl_85_0
def tl_86_0 : List tb_Row := [(0, .aload_n 0, 0, 0, 0, []), (1, .getfield 23, 3, 3, 0, []), (4, .iload_n 1, 0, 0, 0, []), (5, .iload_n 2, 0, 0, 0, []), (6, .iastore, 0, 0, 0, []), (7, .aload_n 0, 0, 0, 0, []), (8, .getfield 19, 3, 2, 0, []), (11, .iload_n 2, 0, 0, 0, []), (12, .iload_n 1, 0, 0, 0, []), (13, .iastore, 0, 0, 0, []), (14, .return_, 0, 0, 0, [])]
def tl_86 : List tb_Row := tl_86_0
def tl_87_0 : List tb_Row := [(0, .aload_n 0, 0, 0, 0, []), (1, .invokespecial 3, 1000, 0, 0, []), (4, .aload_n 0, 0, 0, 0, []), (5, .bipush 24, 0, 0, 24, []), (7, .newarray .char, 0, 0, 0, []), (9, .putfield 9, 4, 0, 0, []), (12, .aload_n 0, 0, 0, 0, []), (13, .iconst 0, 0, 0, 0, []), (14, .putfield 15, 4, 1, 0, []), (17, .return_, 0, 0, 0, [])]
def tl_87 : List tb_Row := tl_87_0
def tl_88_0 : List tb_Row := [(0, .iload_n 0, 0, 0, 0, []), (1, .bipush 48, 0, 0, 48, []), (3, .if_icmp .lt 9, 12, 0, 0, []), (6, .iload_n 0, 0, 0, 0, []), (7, .bipush 57, 0, 0, 57, []), (9, .if_icmp .le 9, 18, 0, 0, []), (12, .iload_n 0, 0, 0, 0, []), (13, .bipush 107, 0, 0, 107, []), (15, .if_icmp .ne 5, 20, 0, 0, []), (18, .iconst 0, 0, 0, 0, []), (19, .ireturn, 0, 0, 0, []), (20, .iload_n 0, 0, 0, 0, []), (21, .bipush 103, 0, 0, 103, []), (23, .if_icmp .lt 9, 32, 0, 0, []), (26, .iload_n 0, 0, 0, 0, []), (27, .bipush 105, 0, 0, 105, []), (29, .if_icmp .le 15, 44, 0, 0, []), (32, .iload_n 0, 0, 0, 0, []), (33, .bipush 65, 0, 0, 65, []), (35, .if_icmp .lt 11, 46, 0, 0, []), (38, .iload_n 0, 0, 0, 0, []), (39, .bipush 70, 0, 0, 70, []), (41, .if_icmp .gt 5, 46, 0, 0, []), (44, .iconst 1, 0, 0, 1, []), (45, .ireturn, 0, 0, 0, []), (46, .iload_n 0, 0, 0, 0, []), (47, .bipush 43, 0, 0, 43, []), (49, .if_icmp .eq 15, 64, 0, 0, []), (52, .iload_n 0, 0, 0, 0, []), (53, .bipush 45, 0, 0, 45, []), (55, .if_icmp .eq 9, 64, 0, 0, []), (58, .iload_n 0, 0, 0, 0, []), (59, .bipush 42, 0, 0, 42, []), (61, .if_icmp .ne 5, 66, 0, 0, []), (64, .iconst 2, 0, 0, 2, []), (65, .ireturn, 0, 0, 0, []), (66, .iload_n 0, 0, 0, 0, []), (67, .bipush 63, 0, 0, 63, []), (69, .if_icmp .ne 7, 76, 0, 0, []), (72, .iconst 3, 0, 0, 3, []), (73, .goto 4, 77, 0, 0, []), (76, .iconst (-1), 0, 0, (-1), []), (77, .ireturn, 0, 0, 0, [])]
def tl_88 : List tb_Row := tl_88_0
def tl_89_0 : List tb_Row := [(0, .aload_n 0, 0, 0, 0, []), (1, .getfield 15, 4, 1, 0, []), (4, .bipush 24, 0, 0, 24, []), (6, .if_icmp .ge 23, 29, 0, 0, []), (9, .aload_n 0, 0, 0, 0, []), (10, .getfield 9, 4, 0, 0, []), (13, .aload_n 0, 0, 0, 0, []), (14, .getfield 15, 4, 1, 0, []), (17, .iload_n 1, 0, 0, 0, []), (18, .castore, 0, 0, 0, []), (19, .aload_n 0, 0, 0, 0, []), (20, .dup, 0, 0, 0, []), (21, .getfield 15, 4, 1, 0, []), (24, .iconst 1, 0, 0, 1, []), (25, .iadd, 0, 0, 0, []), (26, .putfield 15, 4, 1, 0, []), (29, .return_, 0, 0, 0, [])]
def tl_89 : List tb_Row := tl_89_0
def tl_90_0 : List tb_Row := [(0, .aload_n 0, 0, 0, 0, []), (1, .iconst 0, 0, 0, 0, []), (2, .putfield 15, 4, 1, 0, []), (5, .iconst 0, 0, 0, 0, []), (6, .istore_n 2, 0, 0, 0, []), (7, .iload_n 2, 0, 0, 0, []), (8, .aload_n 1, 0, 0, 0, []), (9, .getfield 15, 4, 1, 0, []), (12, .if_icmp .ge 19, 31, 0, 0, []), (15, .aload_n 0, 0, 0, 0, []), (16, .aload_n 1, 0, 0, 0, []), (17, .getfield 9, 4, 0, 0, []), (20, .iload_n 2, 0, 0, 0, []), (21, .caload, 0, 0, 0, []), (22, .invokevirtual 19, 89, 2, 0, []), (25, .iinc 2 1, 0, 0, 1, []), (28, .goto (-21), 7, 0, 0, []), (31, .return_, 0, 0, 0, [])]
def tl_90 : List tb_Row := tl_90_0
def tl_91_0 : List tb_Row := [(0, .iconst 1, 0, 0, 1, []), (1, .istore_n 1, 0, 0, 0, []), (2, .iconst 0, 0, 0, 0, []), (3, .istore_n 2, 0, 0, 0, []), (4, .iload_n 2, 0, 0, 0, []), (5, .aload_n 0, 0, 0, 0, []), (6, .getfield 15, 4, 1, 0, []), (9, .if_icmp .ge 36, 45, 0, 0, []), (12, .aload_n 0, 0, 0, 0, []), (13, .getfield 9, 4, 0, 0, []), (16, .iload_n 2, 0, 0, 0, []), (17, .caload, 0, 0, 0, []), (18, .invokestatic 23, 88, 1, 0, []), (21, .istore_n 3, 0, 0, 0, []), (22, .iload_n 1, 0, 0, 0, []), (23, .ifCond .eq 8, 31, 0, 0, []), (26, .iload_n 3, 0, 0, 0, []), (27, .iconst (-1), 0, 0, (-1), []), (28, .if_icmp .ne 5, 33, 0, 0, []), (31, .iload_n 2, 0, 0, 0, []), (32, .ireturn, 0, 0, 0, []), (33, .iload_n 1, 0, 0, 0, []), (34, .iload_n 3, 0, 0, 0, []), (35, .iconst 1, 0, 0, 1, []), (36, .isub, 0, 0, 0, []), (37, .iadd, 0, 0, 0, []), (38, .istore_n 1, 0, 0, 0, []), (39, .iinc 2 1, 0, 0, 1, []), (42, .goto (-38), 4, 0, 0, []), (45, .iload_n 1, 0, 0, 0, []), (46, .ifCond .ne 7, 53, 0, 0, []), (49, .iconst (-1), 0, 0, (-1), []), (50, .goto 7, 57, 0, 0, []), (53, .aload_n 0, 0, 0, 0, []), (54, .getfield 15, 4, 1, 0, []), (57, .ireturn, 0, 0, 0, [])]
def tl_91 : List tb_Row := tl_91_0
def tl_92_0 : List tb_Row := [(0, .iconst 1, 0, 0, 1, []), (1, .istore_n 2, 0, 0, 0, []), (2, .iload_n 1, 0, 0, 0, []), (3, .istore_n 3, 0, 0, 0, []), (4, .iload_n 2, 0, 0, 0, []), (5, .ifCond .le 31, 36, 0, 0, []), (8, .iload_n 3, 0, 0, 0, []), (9, .aload_n 0, 0, 0, 0, []), (10, .getfield 15, 4, 1, 0, []), (13, .if_icmp .ge 23, 36, 0, 0, []), (16, .iload_n 2, 0, 0, 0, []), (17, .aload_n 0, 0, 0, 0, []), (18, .getfield 9, 4, 0, 0, []), (21, .iload_n 3, 0, 0, 0, []), (22, .caload, 0, 0, 0, []), (23, .invokestatic 23, 88, 1, 0, []), (26, .iconst 1, 0, 0, 1, []), (27, .isub, 0, 0, 0, []), (28, .iadd, 0, 0, 0, []), (29, .istore_n 2, 0, 0, 0, []), (30, .iinc 3 1, 0, 0, 1, []), (33, .goto (-29), 4, 0, 0, []), (36, .iload_n 3, 0, 0, 0, []), (37, .ireturn, 0, 0, 0, [])]
def tl_92 : List tb_Row := tl_92_0
def tl_93_0 : List tb_Row := [(0, .aload_n 0, 0, 0, 0, []), (1, .invokespecial 3, 1000, 0, 0, []), (4, .aload_n 0, 0, 0, 0, []), (5, .iconst (-1), 0, 0, (-1), []), (6, .putfield 9, 5, 0, 0, []), (9, .aload_n 0, 0, 0, 0, []), (10, .iconst 0, 0, 0, 0, []), (11, .putfield 15, 5, 1, 0, []), (14, .aload_n 0, 0, 0, 0, []), (15, .bipush 24, 0, 0, 24, []), (17, .newarray .int, 0, 0, 0, []), (19, .putfield 18, 5, 2, 0, []), (22, .aload_n 0, 0, 0, 0, []), (23, .iconst 0, 0, 0, 0, []), (24, .putfield 22, 5, 3, 0, []), (27, .aload_n 0, 0, 0, 0, []), (28, .new 25, 4, 0, 0, []), (31, .dup, 0, 0, 0, []), (32, .invokespecial 27, 87, 1, 0, []), (35, .putfield 28, 5, 4, 0, []), (38, .aload_n 0, 0, 0, 0, []), (39, .iconst 0, 0, 0, 0, []), (40, .putfield 32, 5, 5, 0, []), (43, .aload_n 0, 0, 0, 0, []), (44, .iconst 0, 0, 0, 0, []), (45, .putfield 35, 5, 6, 0, []), (48, .aload_n 0, 0, 0, 0, []), (49, .bipush 24, 0, 0, 24, []), (51, .newarray .char, 0, 0, 0, []), (53, .putfield 38, 5, 7, 0, []), (56, .aload_n 0, 0, 0, 0, []), (57, .bipush 24, 0, 0, 24, []), (59, .newarray .boolean, 0, 0, 0, []), (61, .putfield 42, 5, 8, 0, []), (64, .aload_n 0, 0, 0, 0, []), (65, .bipush 24, 0, 0, 24, []), (67, .newarray .int, 0, 0, 0, []), (69, .putfield 46, 5, 9, 0, []), (72, .aload_n 0, 0, 0, 0, []), (73, .iconst 0, 0, 0, 0, []), (74, .putfield 49, 5, 10, 0, []), (77, .return_, 0, 0, 0, [])]
def tl_93 : List tb_Row := tl_93_0
def tl_94_0 : List tb_Row := [(0, .aload_n 0, 0, 0, 0, []), (1, .iconst (-1), 0, 0, (-1), []), (2, .putfield 9, 5, 0, 0, []), (5, .aload_n 0, 0, 0, 0, []), (6, .iconst 0, 0, 0, 0, []), (7, .putfield 22, 5, 3, 0, []), (10, .aload_n 0, 0, 0, 0, []), (11, .aload_n 1, 0, 0, 0, []), (12, .putfield 28, 5, 4, 0, []), (15, .aload_n 0, 0, 0, 0, []), (16, .iload_n 2, 0, 0, 0, []), (17, .putfield 32, 5, 5, 0, []), (20, .aload_n 0, 0, 0, 0, []), (21, .iconst 0, 0, 0, 0, []), (22, .putfield 35, 5, 6, 0, []), (25, .aload_n 0, 0, 0, 0, []), (26, .iconst 0, 0, 0, 0, []), (27, .putfield 49, 5, 10, 0, []), (30, .return_, 0, 0, 0, [])]
def tl_94 : List tb_Row := tl_94_0
def tl_95_0 : List tb_Row := [(0, .iconst 0, 0, 0, 0, []), (1, .istore_n 1, 0, 0, 0, []), (2, .iload_n 1, 0, 0, 0, []), (3, .bipush 24, 0, 0, 24, []), (5, .if_icmp .ge 90, 95, 0, 0, []), (8, .aload_n 0, 0, 0, 0, []), (9, .getfield 9, 5, 0, 0, []), (12, .iconst (-1), 0, 0, (-1), []), (13, .if_icmp .ne 82, 95, 0, 0, []), (16, .aload_n 0, 0, 0, 0, []), (17, .getfield 35, 5, 6, 0, []), (20, .aload_n 0, 0, 0, 0, []), (21, .getfield 28, 5, 4, 0, []), (24, .getfield 52, 4, 1, 0, []), (27, .if_icmp .ge 68, 95, 0, 0, []), (30, .aload_n 0, 0, 0, 0, []), (31, .getfield 28, 5, 4, 0, []), (34, .getfield 55, 4, 0, 0, []), (37, .aload_n 0, 0, 0, 0, []), (38, .getfield 35, 5, 6, 0, []), (41, .caload, 0, 0, 0, []), (42, .istore_n 2, 0, 0, 0, []), (43, .aload_n 0, 0, 0, 0, []), (44, .dup, 0, 0, 0, []), (45, .getfield 35, 5, 6, 0, []), (48, .iconst 1, 0, 0, 1, []), (49, .iadd, 0, 0, 0, []), (50, .putfield 35, 5, 6, 0, []), (53, .iload_n 2, 0, 0, 0, []), (54, .invokestatic 58, 88, 1, 0, []), (57, .ifCond .le 11, 68, 0, 0, []), (60, .aload_n 0, 0, 0, 0, []), (61, .iload_n 2, 0, 0, 0, []), (62, .invokevirtual 62, 98, 2, 0, []), (65, .goto 24, 89, 0, 0, []), (68, .aload_n 0, 0, 0, 0, []), (69, .iload_n 2, 0, 0, 0, []), (70, .bipush 107, 0, 0, 107, []), (72, .if_icmp .ne 10, 82, 0, 0, []), (75, .aload_n 0, 0, 0, 0, []), (76, .getfield 32, 5, 5, 0, []), (79, .goto 7, 86, 0, 0, []), (82, .iload_n 2, 0, 0, 0, []), (83, .bipush 48, 0, 0, 48, []), (85, .isub, 0, 0, 0, []), (86, .invokevirtual 66, 99, 2, 0, []), (89, .iinc 1 1, 0, 0, 1, []), (92, .goto (-90), 2, 0, 0, []), (95, .return_, 0, 0, 0, [])]
def tl_95 : List tb_Row := tl_95_0
def tl_96_0 : List tb_Row := [(0, .aload_n 0, 0, 0, 0, []), (1, .aload_n 0, 0, 0, 0, []), (2, .getfield 9, 5, 0, 0, []), (5, .invokevirtual 70, 97, 2, 0, []), (8, .aload_n 0, 0, 0, 0, []), (9, .iconst (-1), 0, 0, (-1), []), (10, .putfield 9, 5, 0, 0, []), (13, .aload_n 0, 0, 0, 0, []), (14, .iload_n 1, 0, 0, 0, []), (15, .invokevirtual 66, 99, 2, 0, []), (18, .return_, 0, 0, 0, [])]
def tl_96 : List tb_Row := tl_96_0
def tl_97_0 : List tb_Row := [(0, .iconst 0, 0, 0, 0, []), (1, .istore_n 2, 0, 0, 0, []), (2, .iload_n 2, 0, 0, 0, []), (3, .aload_n 0, 0, 0, 0, []), (4, .getfield 22, 5, 3, 0, []), (7, .if_icmp .ge 20, 27, 0, 0, []), (10, .aload_n 0, 0, 0, 0, []), (11, .getfield 18, 5, 2, 0, []), (14, .iload_n 2, 0, 0, 0, []), (15, .iaload, 0, 0, 0, []), (16, .iload_n 1, 0, 0, 0, []), (17, .if_icmp .ne 4, 21, 0, 0, []), (20, .return_, 0, 0, 0, []), (21, .iinc 2 1, 0, 0, 1, []), (24, .goto (-22), 2, 0, 0, []), (27, .aload_n 0, 0, 0, 0, []), (28, .getfield 18, 5, 2, 0, []), (31, .aload_n 0, 0, 0, 0, []), (32, .getfield 22, 5, 3, 0, []), (35, .iload_n 1, 0, 0, 0, []), (36, .iastore, 0, 0, 0, []), (37, .aload_n 0, 0, 0, 0, []), (38, .dup, 0, 0, 0, []), (39, .getfield 22, 5, 3, 0, []), (42, .iconst 1, 0, 0, 1, []), (43, .iadd, 0, 0, 0, []), (44, .putfield 22, 5, 3, 0, []), (47, .return_, 0, 0, 0, [])]
def tl_97 : List tb_Row := tl_97_0
def tl_98_0 : List tb_Row := [(0, .aload_n 0, 0, 0, 0, []), (1, .getfield 38, 5, 7, 0, []), (4, .aload_n 0, 0, 0, 0, []), (5, .getfield 49, 5, 10, 0, []), (8, .iload_n 1, 0, 0, 0, []), (9, .castore, 0, 0, 0, []), (10, .aload_n 0, 0, 0, 0, []), (11, .getfield 42, 5, 8, 0, []), (14, .aload_n 0, 0, 0, 0, []), (15, .getfield 49, 5, 10, 0, []), (18, .iconst 0, 0, 0, 0, []), (19, .bastore, 0, 0, 0, []), (20, .aload_n 0, 0, 0, 0, []), (21, .dup, 0, 0, 0, []), (22, .getfield 49, 5, 10, 0, []), (25, .iconst 1, 0, 0, 1, []), (26, .iadd, 0, 0, 0, []), (27, .putfield 49, 5, 10, 0, []), (30, .return_, 0, 0, 0, [])]
def tl_98 : List tb_Row := tl_98_0
def tl_99_0 : List tb_Row := [(0, .aload_n 0, 0, 0, 0, []), (1, .iload_n 1, 0, 0, 0, []), (2, .putfield 15, 5, 1, 0, []), (5, .aload_n 0, 0, 0, 0, []), (6, .getfield 49, 5, 10, 0, []), (9, .iconst 1, 0, 0, 1, []), (10, .isub, 0, 0, 0, []), (11, .istore_n 2, 0, 0, 0, []), (12, .iload_n 2, 0, 0, 0, []), (13, .ifCond .lt 81, 94, 0, 0, []), (16, .aload_n 0, 0, 0, 0, []), (17, .getfield 38, 5, 7, 0, []), (20, .iload_n 2, 0, 0, 0, []), (21, .caload, 0, 0, 0, []), (22, .istore_n 3, 0, 0, 0, []), (23, .aload_n 0, 0, 0, 0, []), (24, .iload_n 2, 0, 0, 0, []), (25, .putfield 49, 5, 10, 0, []), (28, .iload_n 3, 0, 0, 0, []), (29, .bipush 58, 0, 0, 58, []), (31, .if_icmp .ne 21, 52, 0, 0, []), (34, .aload_n 0, 0, 0, 0, []), (35, .aload_n 0, 0, 0, 0, []), (36, .getfield 28, 5, 4, 0, []), (39, .aload_n 0, 0, 0, 0, []), (40, .getfield 35, 5, 6, 0, []), (43, .invokevirtual 73, 92, 2, 0, []), (46, .putfield 35, 5, 6, 0, []), (49, .goto 39, 88, 0, 0, []), (52, .aload_n 0, 0, 0, 0, []), (53, .getfield 42, 5, 8, 0, []), (56, .iload_n 2, 0, 0, 0, []), (57, .baload, 0, 0, 0, []), (58, .ifCond .eq 24, 82, 0, 0, []), (61, .aload_n 0, 0, 0, 0, []), (62, .iload_n 3, 0, 0, 0, []), (63, .aload_n 0, 0, 0, 0, []), (64, .getfield 46, 5, 9, 0, []), (67, .iload_n 2, 0, 0, 0, []), (68, .iaload, 0, 0, 0, []), (69, .aload_n 0, 0, 0, 0, []), (70, .getfield 15, 5, 1, 0, []), (73, .invokestatic 77, 102, 3, 0, []), (76, .putfield 15, 5, 1, 0, []), (79, .goto 9, 88, 0, 0, []), (82, .aload_n 0, 0, 0, 0, []), (83, .iload_n 3, 0, 0, 0, []), (84, .invokevirtual 81, 100, 2, 0, []), (87, .return_, 0, 0, 0, []), (88, .iinc 2 (-1), 0, 0, (-1), []), (91, .goto (-79), 12, 0, 0, []), (94, .return_, 0, 0, 0, [])]
def tl_99 : List tb_Row := tl_99_0
def tl_100_0 : List tb_Row := [(0, .iload_n 1, 0, 0, 0, []), (1, .invokestatic 58, 88, 1, 0, []), (4, .iconst 1, 0, 0, 1, []), (5, .if_icmp .ne 21, 26, 0, 0, []), (8, .aload_n 0, 0, 0, 0, []), (9, .iload_n 1, 0, 0, 0, []), (10, .aload_n 0, 0, 0, 0, []), (11, .getfield 15, 5, 1, 0, []), (14, .bipush 15, 0, 0, 15, []), (16, .iand, 0, 0, 0, []), (17, .invokestatic 84, 101, 2, 0, []), (20, .putfield 9, 5, 0, 0, []), (23, .goto 76, 99, 0, 0, []), (26, .iload_n 1, 0, 0, 0, []), (27, .bipush 63, 0, 0, 63, []), (29, .if_icmp .eq 39, 68, 0, 0, []), (32, .aload_n 0, 0, 0, 0, []), (33, .getfield 46, 5, 9, 0, []), (36, .aload_n 0, 0, 0, 0, []), (37, .getfield 49, 5, 10, 0, []), (40, .aload_n 0, 0, 0, 0, []), (41, .getfield 15, 5, 1, 0, []), (44, .iastore, 0, 0, 0, []), (45, .aload_n 0, 0, 0, 0, []), (46, .getfield 42, 5, 8, 0, []), (49, .aload_n 0, 0, 0, 0, []), (50, .getfield 49, 5, 10, 0, []), (53, .iconst 1, 0, 0, 1, []), (54, .bastore, 0, 0, 0, []), (55, .aload_n 0, 0, 0, 0, []), (56, .dup, 0, 0, 0, []), (57, .getfield 49, 5, 10, 0, []), (60, .iconst 1, 0, 0, 1, []), (61, .iadd, 0, 0, 0, []), (62, .putfield 49, 5, 10, 0, []), (65, .goto 34, 99, 0, 0, []), (68, .aload_n 0, 0, 0, 0, []), (69, .getfield 15, 5, 1, 0, []), (72, .ifCond .eq 12, 84, 0, 0, []), (75, .aload_n 0, 0, 0, 0, []), (76, .bipush 58, 0, 0, 58, []), (78, .invokevirtual 62, 98, 2, 0, []), (81, .goto 18, 99, 0, 0, []), (84, .aload_n 0, 0, 0, 0, []), (85, .aload_n 0, 0, 0, 0, []), (86, .getfield 28, 5, 4, 0, []), (89, .aload_n 0, 0, 0, 0, []), (90, .getfield 35, 5, 6, 0, []), (93, .invokevirtual 73, 92, 2, 0, []), (96, .putfield 35, 5, 6, 0, []), (99, .return_, 0, 0, 0, [])]
def tl_100 : List tb_Row := tl_100_0
def tl_101_0 : List tb_Row := [(0, .iload_n 0, 0, 0, 0, []), (1, .bipush 103, 0, 0, 103, []), (3, .if_icmp .lt 15, 18, 0, 0, []), (6, .iload_n 0, 0, 0, 0, []), (7, .bipush 103, 0, 0, 103, []), (9, .isub, 0, 0, 0, []), (10, .bipush 16, 0, 0, 16, []), (12, .imul, 0, 0, 0, []), (13, .iload_n 1, 0, 0, 0, []), (14, .iadd, 0, 0, 0, []), (15, .goto 15, 30, 0, 0, []), (18, .bipush 100, 0, 0, 100, []), (20, .iload_n 0, 0, 0, 0, []), (21, .bipush 65, 0, 0, 65, []), (23, .isub, 0, 0, 0, []), (24, .bipush 16, 0, 0, 16, []), (26, .imul, 0, 0, 0, []), (27, .iadd, 0, 0, 0, []), (28, .iload_n 1, 0, 0, 0, []), (29, .iadd, 0, 0, 0, []), (30, .ireturn, 0, 0, 0, [])]
def tl_101 : List tb_Row := tl_101_0
def tl_102_0 : List tb_Row := [(0, .iload_n 0, 0, 0, 0, []), (1, .bipush 43, 0, 0, 43, []), (3, .if_icmp .ne 7, 10, 0, 0, []), (6, .iload_n 1, 0, 0, 0, []), (7, .iload_n 2, 0, 0, 0, []), (8, .iadd, 0, 0, 0, []), (9, .ireturn, 0, 0, 0, []), (10, .iload_n 0, 0, 0, 0, []), (11, .bipush 45, 0, 0, 45, []), (13, .if_icmp .ne 9, 22, 0, 0, []), (16, .iload_n 1, 0, 0, 0, []), (17, .iload_n 2, 0, 0, 0, []), (18, .isub, 0, 0, 0, []), (19, .goto 6, 25, 0, 0, []), (22, .iload_n 1, 0, 0, 0, []), (23, .iload_n 2, 0, 0, 0, []), (24, .imul, 0, 0, 0, []), (25, .ireturn, 0, 0, 0, [])]
def tl_102 : List tb_Row := tl_102_0
def tl_103_0 : List tb_Row := [(0, .aload_n 2, 0, 0, 0, []), (1, .iconst 0, 0, 0, 0, []), (2, .aload_n 0, 0, 0, 0, []), (3, .iload_n 1, 0, 0, 0, []), (4, .invokevirtual 7, 3, 2, 0, []), (7, .i2l, 0, 0, 0, []), (8, .lastore, 0, 0, 0, []), (9, .goto 6, 15, 0, 0, []), (12, .astore_n 3, 0, 0, 0, []), (13, .iconst 1, 0, 0, 1, []), (14, .ireturn, 0, 0, 0, []), (15, .iconst 0, 0, 0, 0, []), (16, .ireturn, 0, 0, 0, [])]
def tl_103 : List tb_Row := tl_103_0
def tl_104_0 : List tb_Row := [(0, .aload 4, 0, 0, 0, []), (2, .iconst 0, 0, 0, 0, []), (3, .aload_n 0, 0, 0, 0, []), (4, .iload_n 1, 0, 0, 0, []), (5, .iload_n 2, 0, 0, 0, []), (6, .iload_n 3, 0, 0, 0, []), (7, .invokevirtual 15, 4, 4, 0, []), (10, .ifCond .eq 7, 17, 0, 0, []), (13, .lconst 1, 0, 0, 0, []), (14, .goto 4, 18, 0, 0, []), (17, .lconst 0, 0, 0, 0, []), (18, .lastore, 0, 0, 0, []), (19, .goto 7, 26, 0, 0, []), (22, .astore 5, 0, 0, 0, []), (24, .iconst 1, 0, 0, 1, []), (25, .ireturn, 0, 0, 0, []), (26, .iconst 0, 0, 0, 0, []), (27, .ireturn, 0, 0, 0, [])]
def tl_104 : List tb_Row := tl_104_0
def tl_105_0 : List tb_Row := [(0, .aload_n 3, 0, 0, 0, []), (1, .iconst 0, 0, 0, 0, []), (2, .aload_n 0, 0, 0, 0, []), (3, .iload_n 1, 0, 0, 0, []), (4, .iload_n 2, 0, 0, 0, []), (5, .invokevirtual 19, 5, 3, 0, []), (8, .ifCond .eq 7, 15, 0, 0, []), (11, .lconst 1, 0, 0, 0, []), (12, .goto 4, 16, 0, 0, []), (15, .lconst 0, 0, 0, 0, []), (16, .lastore, 0, 0, 0, []), (17, .goto 7, 24, 0, 0, []), (20, .astore 4, 0, 0, 0, []), (22, .iconst 1, 0, 0, 1, []), (23, .ireturn, 0, 0, 0, []), (24, .iconst 0, 0, 0, 0, []), (25, .ireturn, 0, 0, 0, [])]
def tl_105 : List tb_Row := tl_105_0
def tl_106_0 : List tb_Row := [(0, .aload_n 0, 0, 0, 0, []), (1, .iload_n 1, 0, 0, 0, []), (2, .iload_n 2, 0, 0, 0, []), (3, .invokevirtual 23, 6, 3, 0, []), (6, .goto 6, 12, 0, 0, []), (9, .astore_n 3, 0, 0, 0, []), (10, .iconst 1, 0, 0, 1, []), (11, .ireturn, 0, 0, 0, []), (12, .iconst 0, 0, 0, 0, []), (13, .ireturn, 0, 0, 0, [])]
def tl_106 : List tb_Row := tl_106_0
def tl_107_0 : List tb_Row := [(0, .aload_n 3, 0, 0, 0, []), (1, .iconst 0, 0, 0, 0, []), (2, .aload_n 0, 0, 0, 0, []), (3, .iload_n 1, 0, 0, 0, []), (4, .iload_n 2, 0, 0, 0, []), (5, .invokevirtual 27, 7, 3, 0, []), (8, .i2l, 0, 0, 0, []), (9, .lastore, 0, 0, 0, []), (10, .goto 11, 21, 0, 0, []), (13, .astore 4, 0, 0, 0, []), (15, .iconst 1, 0, 0, 1, []), (16, .ireturn, 0, 0, 0, []), (17, .astore 4, 0, 0, 0, []), (19, .iconst 2, 0, 0, 2, []), (20, .ireturn, 0, 0, 0, []), (21, .iconst 0, 0, 0, 0, []), (22, .ireturn, 0, 0, 0, [])]
def tl_107 : List tb_Row := tl_107_0
def tl_108_0 : List tb_Row := [(0, .aload_n 3, 0, 0, 0, []), (1, .iconst 0, 0, 0, 0, []), (2, .aload_n 0, 0, 0, 0, []), (3, .iload_n 1, 0, 0, 0, []), (4, .iload_n 2, 0, 0, 0, []), (5, .invokevirtual 33, 9, 3, 0, []), (8, .ifCond .eq 7, 15, 0, 0, []), (11, .lconst 1, 0, 0, 0, []), (12, .goto 4, 16, 0, 0, []), (15, .lconst 0, 0, 0, 0, []), (16, .lastore, 0, 0, 0, []), (17, .goto 7, 24, 0, 0, []), (20, .astore 4, 0, 0, 0, []), (22, .iconst 1, 0, 0, 1, []), (23, .ireturn, 0, 0, 0, []), (24, .iconst 0, 0, 0, 0, []), (25, .ireturn, 0, 0, 0, [])]
def tl_108 : List tb_Row := tl_108_0
def tl_109_0 : List tb_Row := [(0, .aload 4, 0, 0, 0, []), (2, .iconst 0, 0, 0, 0, []), (3, .aload_n 0, 0, 0, 0, []), (4, .iload_n 1, 0, 0, 0, []), (5, .iload_n 2, 0, 0, 0, []), (6, .iload_n 3, 0, 0, 0, []), (7, .invokevirtual 36, 10, 4, 0, []), (10, .i2l, 0, 0, 0, []), (11, .lastore, 0, 0, 0, []), (12, .goto 11, 23, 0, 0, []), (15, .astore 5, 0, 0, 0, []), (17, .iconst 1, 0, 0, 1, []), (18, .ireturn, 0, 0, 0, []), (19, .astore 5, 0, 0, 0, []), (21, .iconst 2, 0, 0, 2, []), (22, .ireturn, 0, 0, 0, []), (23, .iconst 0, 0, 0, 0, []), (24, .ireturn, 0, 0, 0, [])]
def tl_109 : List tb_Row := tl_109_0
def tl_110_0 : List tb_Row := [(0, .aload 4, 0, 0, 0, []), (2, .iconst 0, 0, 0, 0, []), (3, .aload_n 0, 0, 0, 0, []), (4, .iload_n 1, 0, 0, 0, []), (5, .iload_n 2, 0, 0, 0, []), (6, .iload_n 3, 0, 0, 0, []), (7, .invokevirtual 42, 11, 4, 0, []), (10, .i2l, 0, 0, 0, []), (11, .lastore, 0, 0, 0, []), (12, .goto 11, 23, 0, 0, []), (15, .astore 5, 0, 0, 0, []), (17, .iconst 1, 0, 0, 1, []), (18, .ireturn, 0, 0, 0, []), (19, .astore 5, 0, 0, 0, []), (21, .iconst 2, 0, 0, 2, []), (22, .ireturn, 0, 0, 0, []), (23, .iconst 0, 0, 0, 0, []), (24, .ireturn, 0, 0, 0, [])]
def tl_110 : List tb_Row := tl_110_0
def tl_111_0 : List tb_Row := [(0, .aload_n 2, 0, 0, 0, []), (1, .iconst 0, 0, 0, 0, []), (2, .aload_n 0, 0, 0, 0, []), (3, .iload_n 1, 0, 0, 0, []), (4, .invokevirtual 45, 13, 2, 0, []), (7, .i2l, 0, 0, 0, []), (8, .lastore, 0, 0, 0, []), (9, .goto 6, 15, 0, 0, []), (12, .astore_n 3, 0, 0, 0, []), (13, .iconst 1, 0, 0, 1, []), (14, .ireturn, 0, 0, 0, []), (15, .iconst 0, 0, 0, 0, []), (16, .ireturn, 0, 0, 0, [])]
def tl_111 : List tb_Row := tl_111_0
def tl_112_0 : List tb_Row := [(0, .aload_n 3, 0, 0, 0, []), (1, .iconst 0, 0, 0, 0, []), (2, .aload_n 0, 0, 0, 0, []), (3, .iload_n 1, 0, 0, 0, []), (4, .iload_n 2, 0, 0, 0, []), (5, .invokevirtual 48, 14, 3, 0, []), (8, .ifCond .eq 7, 15, 0, 0, []), (11, .lconst 1, 0, 0, 0, []), (12, .goto 4, 16, 0, 0, []), (15, .lconst 0, 0, 0, 0, []), (16, .lastore, 0, 0, 0, []), (17, .goto 7, 24, 0, 0, []), (20, .astore 4, 0, 0, 0, []), (22, .iconst 1, 0, 0, 1, []), (23, .ireturn, 0, 0, 0, []), (24, .iconst 0, 0, 0, 0, []), (25, .ireturn, 0, 0, 0, [])]
def tl_112 : List tb_Row := tl_112_0
def tl_113_0 : List tb_Row := [(0, .new 8, 6, 0, 0, []), (3, .dup, 0, 0, 0, []), (4, .invokespecial 51, 0, 1, 0, []), (7, .astore_n 1, 0, 0, 0, []), (8, .new 52, 7, 0, 0, []), (11, .dup, 0, 0, 0, []), (12, .invokespecial 54, 39, 1, 0, []), (15, .astore_n 2, 0, 0, 0, []), (16, .iconst 1, 0, 0, 1, []), (17, .newarray .long, 0, 0, 0, []), (19, .astore_n 3, 0, 0, 0, []), (20, .iconst 0, 0, 0, 0, []), (21, .istore 4, 0, 0, 0, []), (23, .iload 4, 0, 0, 0, []), (25, .aload_n 0, 0, 0, 0, []), (26, .arraylength, 0, 0, 0, []), (27, .iconst 4, 0, 0, 4, []), (28, .isub, 0, 0, 0, []), (29, .if_icmp .gt 905, 934, 0, 0, []), (32, .aload_n 0, 0, 0, 0, []), (33, .iload 4, 0, 0, 0, []), (35, .iaload, 0, 0, 0, []), (36, .bipush 15, 0, 0, 15, []), (38, .iand, 0, 0, 0, []), (39, .tableswitch 889 0 13 #[69, 126, 139, 195, 282, 357, 405, 473, 498, 573, 653, 733, 758, 814], 928, 69, 0, [108, 165, 178, 234, 321, 396, 444, 512, 537, 612, 692, 772, 797, 853]), (108, .aload_n 1, 0, 0, 0, []), (109, .aload_n 0, 0, 0, 0, []), (110, .iload 4, 0, 0, 0, []), (112, .iconst 1, 0, 0, 1, []), (113, .iadd, 0, 0, 0, []), (114, .iaload, 0, 0, 0, []), (115, .i2l, 0, 0, 0, []), (116, .bipush 32, 0, 0, 32, []), (118, .lshl, 0, 0, 0, []), (119, .aload_n 0, 0, 0, 0, []), (120, .iload 4, 0, 0, 0, []), (122, .iconst 2, 0, 0, 2, []), (123, .iadd, 0, 0, 0, []), (124, .iaload, 0, 0, 0, []), (125, .i2l, 0, 0, 0, []), (126, .ldc2_w 55, 4294967295, 0, 0, []), (129, .land, 0, 0, 0, []), (130, .lor, 0, 0, 0, []), (131, .invokevirtual 57, 1, 2, 0, []), (134, .aload_n 2, 0, 0, 0, []), (135, .aload_n 0, 0, 0, 0, []), (136, .iload 4, 0, 0, 0, []), (138, .iconst 1, 0, 0, 1, []), (139, .iadd, 0, 0, 0, []), (140, .iaload, 0, 0, 0, []), (141, .i2l, 0, 0, 0, []), (142, .bipush 32, 0, 0, 32, []), (144, .lshl, 0, 0, 0, []), (145, .aload_n 0, 0, 0, 0, []), (146, .iload 4, 0, 0, 0, []), (148, .iconst 2, 0, 0, 2, []), (149, .iadd, 0, 0, 0, []), (150, .iaload, 0, 0, 0, []), (151, .i2l, 0, 0, 0, []), (152, .ldc2_w 55, 4294967295, 0, 0, [])]
def tl_113_1 : List tb_Row := [(155, .land, 0, 0, 0, []), (156, .lor, 0, 0, 0, []), (157, .invokevirtual 61, 41, 2, 0, []), (160, .if_icmp .eq 768, 928, 0, 0, []), (163, .iconst 0, 0, 0, 0, []), (164, .ireturn, 0, 0, 0, []), (165, .aload_n 1, 0, 0, 0, []), (166, .invokevirtual 62, 2, 1, 0, []), (169, .aload_n 2, 0, 0, 0, []), (170, .invokevirtual 66, 42, 1, 0, []), (173, .if_icmp .eq 755, 928, 0, 0, []), (176, .iconst 0, 0, 0, 0, []), (177, .ireturn, 0, 0, 0, []), (178, .aload_n 1, 0, 0, 0, []), (179, .aload_n 0, 0, 0, 0, []), (180, .iload 4, 0, 0, 0, []), (182, .iconst 1, 0, 0, 1, []), (183, .iadd, 0, 0, 0, []), (184, .iaload, 0, 0, 0, []), (185, .aload_n 3, 0, 0, 0, []), (186, .invokestatic 67, 103, 3, 0, []), (189, .istore 5, 0, 0, 0, []), (191, .aload_n 2, 0, 0, 0, []), (192, .aload_n 0, 0, 0, 0, []), (193, .iload 4, 0, 0, 0, []), (195, .iconst 1, 0, 0, 1, []), (196, .iadd, 0, 0, 0, []), (197, .iaload, 0, 0, 0, []), (198, .invokevirtual 72, 45, 2, 0, []), (201, .istore 6, 0, 0, 0, []), (203, .aload_n 2, 0, 0, 0, []), (204, .invokevirtual 73, 40, 1, 0, []), (207, .iload 5, 0, 0, 0, []), (209, .if_icmp .eq 5, 214, 0, 0, []), (212, .iconst 0, 0, 0, 0, []), (213, .ireturn, 0, 0, 0, []), (214, .iload 5, 0, 0, 0, []), (216, .ifCond .ne 15, 231, 0, 0, []), (219, .aload_n 3, 0, 0, 0, []), (220, .iconst 0, 0, 0, 0, []), (221, .laload, 0, 0, 0, []), (222, .iload 6, 0, 0, 0, []), (224, .i2l, 0, 0, 0, []), (225, .lcmp, 0, 0, 0, []), (226, .ifCond .eq 5, 231, 0, 0, []), (229, .iconst 0, 0, 0, 0, []), (230, .ireturn, 0, 0, 0, []), (231, .goto 697, 928, 0, 0, []), (234, .aload_n 1, 0, 0, 0, []), (235, .aload_n 0, 0, 0, 0, []), (236, .iload 4, 0, 0, 0, []), (238, .iconst 1, 0, 0, 1, []), (239, .iadd, 0, 0, 0, []), (240, .iaload, 0, 0, 0, []), (241, .aload_n 0, 0, 0, 0, []), (242, .iload 4, 0, 0, 0, []), (244, .iconst 2, 0, 0, 2, []), (245, .iadd, 0, 0, 0, []), (246, .iaload, 0, 0, 0, []), (247, .aload_n 0, 0, 0, 0, [])]
def tl_113_2 : List tb_Row := [(248, .iload 4, 0, 0, 0, []), (250, .iconst 3, 0, 0, 3, []), (251, .iadd, 0, 0, 0, []), (252, .iaload, 0, 0, 0, []), (253, .aload_n 3, 0, 0, 0, []), (254, .invokestatic 76, 104, 5, 0, []), (257, .istore 5, 0, 0, 0, []), (259, .aload_n 2, 0, 0, 0, []), (260, .aload_n 0, 0, 0, 0, []), (261, .iload 4, 0, 0, 0, []), (263, .iconst 1, 0, 0, 1, []), (264, .iadd, 0, 0, 0, []), (265, .iaload, 0, 0, 0, []), (266, .aload_n 0, 0, 0, 0, []), (267, .iload 4, 0, 0, 0, []), (269, .iconst 2, 0, 0, 2, []), (270, .iadd, 0, 0, 0, []), (271, .iaload, 0, 0, 0, []), (272, .aload_n 0, 0, 0, 0, []), (273, .iload 4, 0, 0, 0, []), (275, .iconst 3, 0, 0, 3, []), (276, .iadd, 0, 0, 0, []), (277, .iaload, 0, 0, 0, []), (278, .invokevirtual 79, 48, 4, 0, []), (281, .istore 6, 0, 0, 0, []), (283, .aload_n 2, 0, 0, 0, []), (284, .invokevirtual 73, 40, 1, 0, []), (287, .iload 5, 0, 0, 0, []), (289, .if_icmp .eq 5, 294, 0, 0, []), (292, .iconst 0, 0, 0, 0, []), (293, .ireturn, 0, 0, 0, []), (294, .iload 5, 0, 0, 0, []), (296, .ifCond .ne 22, 318, 0, 0, []), (299, .aload_n 3, 0, 0, 0, []), (300, .iconst 0, 0, 0, 0, []), (301, .laload, 0, 0, 0, []), (302, .iload 6, 0, 0, 0, []), (304, .ifCond .eq 7, 311, 0, 0, []), (307, .lconst 1, 0, 0, 0, []), (308, .goto 4, 312, 0, 0, []), (311, .lconst 0, 0, 0, 0, []), (312, .lcmp, 0, 0, 0, []), (313, .ifCond .eq 5, 318, 0, 0, []), (316, .iconst 0, 0, 0, 0, []), (317, .ireturn, 0, 0, 0, []), (318, .goto 610, 928, 0, 0, []), (321, .aload_n 1, 0, 0, 0, []), (322, .aload_n 0, 0, 0, 0, []), (323, .iload 4, 0, 0, 0, []), (325, .iconst 1, 0, 0, 1, []), (326, .iadd, 0, 0, 0, []), (327, .iaload, 0, 0, 0, []), (328, .aload_n 0, 0, 0, 0, []), (329, .iload 4, 0, 0, 0, []), (331, .iconst 2, 0, 0, 2, []), (332, .iadd, 0, 0, 0, []), (333, .iaload, 0, 0, 0, []), (334, .aload_n 3, 0, 0, 0, []), (335, .invokestatic 80, 105, 4, 0, []), (338, .istore 5, 0, 0, 0, [])]
def tl_113_3 : List tb_Row := [(340, .aload_n 2, 0, 0, 0, []), (341, .aload_n 0, 0, 0, 0, []), (342, .iload 4, 0, 0, 0, []), (344, .iconst 1, 0, 0, 1, []), (345, .iadd, 0, 0, 0, []), (346, .iaload, 0, 0, 0, []), (347, .aload_n 0, 0, 0, 0, []), (348, .iload 4, 0, 0, 0, []), (350, .iconst 2, 0, 0, 2, []), (351, .iadd, 0, 0, 0, []), (352, .iaload, 0, 0, 0, []), (353, .invokevirtual 83, 49, 3, 0, []), (356, .istore 6, 0, 0, 0, []), (358, .aload_n 2, 0, 0, 0, []), (359, .invokevirtual 73, 40, 1, 0, []), (362, .iload 5, 0, 0, 0, []), (364, .if_icmp .eq 5, 369, 0, 0, []), (367, .iconst 0, 0, 0, 0, []), (368, .ireturn, 0, 0, 0, []), (369, .iload 5, 0, 0, 0, []), (371, .ifCond .ne 22, 393, 0, 0, []), (374, .aload_n 3, 0, 0, 0, []), (375, .iconst 0, 0, 0, 0, []), (376, .laload, 0, 0, 0, []), (377, .iload 6, 0, 0, 0, []), (379, .ifCond .eq 7, 386, 0, 0, []), (382, .lconst 1, 0, 0, 0, []), (383, .goto 4, 387, 0, 0, []), (386, .lconst 0, 0, 0, 0, []), (387, .lcmp, 0, 0, 0, []), (388, .ifCond .eq 5, 393, 0, 0, []), (391, .iconst 0, 0, 0, 0, []), (392, .ireturn, 0, 0, 0, []), (393, .goto 535, 928, 0, 0, []), (396, .aload_n 1, 0, 0, 0, []), (397, .aload_n 0, 0, 0, 0, []), (398, .iload 4, 0, 0, 0, []), (400, .iconst 1, 0, 0, 1, []), (401, .iadd, 0, 0, 0, []), (402, .iaload, 0, 0, 0, []), (403, .aload_n 0, 0, 0, 0, []), (404, .iload 4, 0, 0, 0, []), (406, .iconst 2, 0, 0, 2, []), (407, .iadd, 0, 0, 0, []), (408, .iaload, 0, 0, 0, []), (409, .invokestatic 84, 106, 3, 0, []), (412, .istore 5, 0, 0, 0, []), (414, .aload_n 2, 0, 0, 0, []), (415, .aload_n 0, 0, 0, 0, []), (416, .iload 4, 0, 0, 0, []), (418, .iconst 1, 0, 0, 1, []), (419, .iadd, 0, 0, 0, []), (420, .iaload, 0, 0, 0, []), (421, .aload_n 0, 0, 0, 0, []), (422, .iload 4, 0, 0, 0, []), (424, .iconst 2, 0, 0, 2, []), (425, .iadd, 0, 0, 0, []), (426, .iaload, 0, 0, 0, []), (427, .invokevirtual 87, 50, 3, 0, []), (430, .aload_n 2, 0, 0, 0, [])]
def tl_113_4 : List tb_Row := [(431, .invokevirtual 73, 40, 1, 0, []), (434, .iload 5, 0, 0, 0, []), (436, .if_icmp .eq 5, 441, 0, 0, []), (439, .iconst 0, 0, 0, 0, []), (440, .ireturn, 0, 0, 0, []), (441, .goto 487, 928, 0, 0, []), (444, .aload_n 1, 0, 0, 0, []), (445, .aload_n 0, 0, 0, 0, []), (446, .iload 4, 0, 0, 0, []), (448, .iconst 1, 0, 0, 1, []), (449, .iadd, 0, 0, 0, []), (450, .iaload, 0, 0, 0, []), (451, .aload_n 0, 0, 0, 0, []), (452, .iload 4, 0, 0, 0, []), (454, .iconst 2, 0, 0, 2, []), (455, .iadd, 0, 0, 0, []), (456, .iaload, 0, 0, 0, []), (457, .aload_n 3, 0, 0, 0, []), (458, .invokestatic 88, 107, 4, 0, []), (461, .istore 5, 0, 0, 0, []), (463, .aload_n 2, 0, 0, 0, []), (464, .aload_n 0, 0, 0, 0, []), (465, .iload 4, 0, 0, 0, []), (467, .iconst 1, 0, 0, 1, []), (468, .iadd, 0, 0, 0, []), (469, .iaload, 0, 0, 0, []), (470, .aload_n 0, 0, 0, 0, []), (471, .iload 4, 0, 0, 0, []), (473, .iconst 2, 0, 0, 2, []), (474, .iadd, 0, 0, 0, []), (475, .iaload, 0, 0, 0, []), (476, .invokevirtual 90, 67, 3, 0, []), (479, .istore 6, 0, 0, 0, []), (481, .aload_n 2, 0, 0, 0, []), (482, .invokevirtual 73, 40, 1, 0, []), (485, .iload 5, 0, 0, 0, []), (487, .if_icmp .eq 5, 492, 0, 0, []), (490, .iconst 0, 0, 0, 0, []), (491, .ireturn, 0, 0, 0, []), (492, .iload 5, 0, 0, 0, []), (494, .ifCond .ne 15, 509, 0, 0, []), (497, .aload_n 3, 0, 0, 0, []), (498, .iconst 0, 0, 0, 0, []), (499, .laload, 0, 0, 0, []), (500, .iload 6, 0, 0, 0, []), (502, .i2l, 0, 0, 0, []), (503, .lcmp, 0, 0, 0, []), (504, .ifCond .eq 5, 509, 0, 0, []), (507, .iconst 0, 0, 0, 0, []), (508, .ireturn, 0, 0, 0, []), (509, .goto 419, 928, 0, 0, []), (512, .aload_n 1, 0, 0, 0, []), (513, .aload_n 0, 0, 0, 0, []), (514, .iload 4, 0, 0, 0, []), (516, .iconst 1, 0, 0, 1, []), (517, .iadd, 0, 0, 0, []), (518, .iaload, 0, 0, 0, []), (519, .invokevirtual 91, 8, 2, 0, []), (522, .aload_n 2, 0, 0, 0, []), (523, .aload_n 0, 0, 0, 0, [])]
def tl_113_5 : List tb_Row := [(524, .iload 4, 0, 0, 0, []), (526, .iconst 1, 0, 0, 1, []), (527, .iadd, 0, 0, 0, []), (528, .iaload, 0, 0, 0, []), (529, .invokevirtual 94, 68, 2, 0, []), (532, .if_icmp .eq 396, 928, 0, 0, []), (535, .iconst 0, 0, 0, 0, []), (536, .ireturn, 0, 0, 0, []), (537, .aload_n 1, 0, 0, 0, []), (538, .aload_n 0, 0, 0, 0, []), (539, .iload 4, 0, 0, 0, []), (541, .iconst 1, 0, 0, 1, []), (542, .iadd, 0, 0, 0, []), (543, .iaload, 0, 0, 0, []), (544, .aload_n 0, 0, 0, 0, []), (545, .iload 4, 0, 0, 0, []), (547, .iconst 2, 0, 0, 2, []), (548, .iadd, 0, 0, 0, []), (549, .iaload, 0, 0, 0, []), (550, .aload_n 3, 0, 0, 0, []), (551, .invokestatic 95, 108, 4, 0, []), (554, .istore 5, 0, 0, 0, []), (556, .aload_n 2, 0, 0, 0, []), (557, .aload_n 0, 0, 0, 0, []), (558, .iload 4, 0, 0, 0, []), (560, .iconst 1, 0, 0, 1, []), (561, .iadd, 0, 0, 0, []), (562, .iaload, 0, 0, 0, []), (563, .aload_n 0, 0, 0, 0, []), (564, .iload 4, 0, 0, 0, []), (566, .iconst 2, 0, 0, 2, []), (567, .iadd, 0, 0, 0, []), (568, .iaload, 0, 0, 0, []), (569, .invokevirtual 97, 69, 3, 0, []), (572, .istore 6, 0, 0, 0, []), (574, .aload_n 2, 0, 0, 0, []), (575, .invokevirtual 73, 40, 1, 0, []), (578, .iload 5, 0, 0, 0, []), (580, .if_icmp .eq 5, 585, 0, 0, []), (583, .iconst 0, 0, 0, 0, []), (584, .ireturn, 0, 0, 0, []), (585, .iload 5, 0, 0, 0, []), (587, .ifCond .ne 22, 609, 0, 0, []), (590, .aload_n 3, 0, 0, 0, []), (591, .iconst 0, 0, 0, 0, []), (592, .laload, 0, 0, 0, []), (593, .iload 6, 0, 0, 0, []), (595, .ifCond .eq 7, 602, 0, 0, []), (598, .lconst 1, 0, 0, 0, []), (599, .goto 4, 603, 0, 0, []), (602, .lconst 0, 0, 0, 0, []), (603, .lcmp, 0, 0, 0, []), (604, .ifCond .eq 5, 609, 0, 0, []), (607, .iconst 0, 0, 0, 0, []), (608, .ireturn, 0, 0, 0, []), (609, .goto 319, 928, 0, 0, []), (612, .aload_n 1, 0, 0, 0, []), (613, .aload_n 0, 0, 0, 0, []), (614, .iload 4, 0, 0, 0, []), (616, .iconst 1, 0, 0, 1, [])]
def tl_113_6 : List tb_Row := [(617, .iadd, 0, 0, 0, []), (618, .iaload, 0, 0, 0, []), (619, .aload_n 0, 0, 0, 0, []), (620, .iload 4, 0, 0, 0, []), (622, .iconst 2, 0, 0, 2, []), (623, .iadd, 0, 0, 0, []), (624, .iaload, 0, 0, 0, []), (625, .aload_n 0, 0, 0, 0, []), (626, .iload 4, 0, 0, 0, []), (628, .iconst 3, 0, 0, 3, []), (629, .iadd, 0, 0, 0, []), (630, .iaload, 0, 0, 0, []), (631, .aload_n 3, 0, 0, 0, []), (632, .invokestatic 98, 109, 5, 0, []), (635, .istore 5, 0, 0, 0, []), (637, .aload_n 2, 0, 0, 0, []), (638, .aload_n 0, 0, 0, 0, []), (639, .iload 4, 0, 0, 0, []), (641, .iconst 1, 0, 0, 1, []), (642, .iadd, 0, 0, 0, []), (643, .iaload, 0, 0, 0, []), (644, .aload_n 0, 0, 0, 0, []), (645, .iload 4, 0, 0, 0, []), (647, .iconst 2, 0, 0, 2, []), (648, .iadd, 0, 0, 0, []), (649, .iaload, 0, 0, 0, []), (650, .aload_n 0, 0, 0, 0, []), (651, .iload 4, 0, 0, 0, []), (653, .iconst 3, 0, 0, 3, []), (654, .iadd, 0, 0, 0, []), (655, .iaload, 0, 0, 0, []), (656, .invokevirtual 100, 70, 4, 0, []), (659, .istore 6, 0, 0, 0, []), (661, .aload_n 2, 0, 0, 0, []), (662, .invokevirtual 73, 40, 1, 0, []), (665, .iload 5, 0, 0, 0, []), (667, .if_icmp .eq 5, 672, 0, 0, []), (670, .iconst 0, 0, 0, 0, []), (671, .ireturn, 0, 0, 0, []), (672, .iload 5, 0, 0, 0, []), (674, .ifCond .ne 15, 689, 0, 0, []), (677, .aload_n 3, 0, 0, 0, []), (678, .iconst 0, 0, 0, 0, []), (679, .laload, 0, 0, 0, []), (680, .iload 6, 0, 0, 0, []), (682, .i2l, 0, 0, 0, []), (683, .lcmp, 0, 0, 0, []), (684, .ifCond .eq 5, 689, 0, 0, []), (687, .iconst 0, 0, 0, 0, []), (688, .ireturn, 0, 0, 0, []), (689, .goto 239, 928, 0, 0, []), (692, .aload_n 1, 0, 0, 0, []), (693, .aload_n 0, 0, 0, 0, []), (694, .iload 4, 0, 0, 0, []), (696, .iconst 1, 0, 0, 1, []), (697, .iadd, 0, 0, 0, []), (698, .iaload, 0, 0, 0, []), (699, .aload_n 0, 0, 0, 0, []), (700, .iload 4, 0, 0, 0, []), (702, .iconst 2, 0, 0, 2, [])]
def tl_113_7 : List tb_Row := [(703, .iadd, 0, 0, 0, []), (704, .iaload, 0, 0, 0, []), (705, .aload_n 0, 0, 0, 0, []), (706, .iload 4, 0, 0, 0, []), (708, .iconst 3, 0, 0, 3, []), (709, .iadd, 0, 0, 0, []), (710, .iaload, 0, 0, 0, []), (711, .aload_n 3, 0, 0, 0, []), (712, .invokestatic 101, 110, 5, 0, []), (715, .istore 5, 0, 0, 0, []), (717, .aload_n 2, 0, 0, 0, []), (718, .aload_n 0, 0, 0, 0, []), (719, .iload 4, 0, 0, 0, []), (721, .iconst 1, 0, 0, 1, []), (722, .iadd, 0, 0, 0, []), (723, .iaload, 0, 0, 0, []), (724, .aload_n 0, 0, 0, 0, []), (725, .iload 4, 0, 0, 0, []), (727, .iconst 2, 0, 0, 2, []), (728, .iadd, 0, 0, 0, []), (729, .iaload, 0, 0, 0, []), (730, .aload_n 0, 0, 0, 0, []), (731, .iload 4, 0, 0, 0, []), (733, .iconst 3, 0, 0, 3, []), (734, .iadd, 0, 0, 0, []), (735, .iaload, 0, 0, 0, []), (736, .invokevirtual 103, 71, 4, 0, []), (739, .istore 6, 0, 0, 0, []), (741, .aload_n 2, 0, 0, 0, []), (742, .invokevirtual 73, 40, 1, 0, []), (745, .iload 5, 0, 0, 0, []), (747, .if_icmp .eq 5, 752, 0, 0, []), (750, .iconst 0, 0, 0, 0, []), (751, .ireturn, 0, 0, 0, []), (752, .iload 5, 0, 0, 0, []), (754, .ifCond .ne 15, 769, 0, 0, []), (757, .aload_n 3, 0, 0, 0, []), (758, .iconst 0, 0, 0, 0, []), (759, .laload, 0, 0, 0, []), (760, .iload 6, 0, 0, 0, []), (762, .i2l, 0, 0, 0, []), (763, .lcmp, 0, 0, 0, []), (764, .ifCond .eq 5, 769, 0, 0, []), (767, .iconst 0, 0, 0, 0, []), (768, .ireturn, 0, 0, 0, []), (769, .goto 159, 928, 0, 0, []), (772, .aload_n 1, 0, 0, 0, []), (773, .aload_n 0, 0, 0, 0, []), (774, .iload 4, 0, 0, 0, []), (776, .iconst 1, 0, 0, 1, []), (777, .iadd, 0, 0, 0, []), (778, .iaload, 0, 0, 0, []), (779, .invokevirtual 104, 12, 2, 0, []), (782, .aload_n 2, 0, 0, 0, []), (783, .aload_n 0, 0, 0, 0, []), (784, .iload 4, 0, 0, 0, []), (786, .iconst 1, 0, 0, 1, []), (787, .iadd, 0, 0, 0, []), (788, .iaload, 0, 0, 0, []), (789, .invokevirtual 107, 72, 2, 0, [])]
def tl_113_8 : List tb_Row := [(792, .if_icmp .eq 136, 928, 0, 0, []), (795, .iconst 0, 0, 0, 0, []), (796, .ireturn, 0, 0, 0, []), (797, .aload_n 1, 0, 0, 0, []), (798, .aload_n 0, 0, 0, 0, []), (799, .iload 4, 0, 0, 0, []), (801, .iconst 1, 0, 0, 1, []), (802, .iadd, 0, 0, 0, []), (803, .iaload, 0, 0, 0, []), (804, .aload_n 3, 0, 0, 0, []), (805, .invokestatic 108, 111, 3, 0, []), (808, .istore 5, 0, 0, 0, []), (810, .aload_n 2, 0, 0, 0, []), (811, .aload_n 0, 0, 0, 0, []), (812, .iload 4, 0, 0, 0, []), (814, .iconst 1, 0, 0, 1, []), (815, .iadd, 0, 0, 0, []), (816, .iaload, 0, 0, 0, []), (817, .invokevirtual 110, 73, 2, 0, []), (820, .istore 6, 0, 0, 0, []), (822, .aload_n 2, 0, 0, 0, []), (823, .invokevirtual 73, 40, 1, 0, []), (826, .iload 5, 0, 0, 0, []), (828, .if_icmp .eq 5, 833, 0, 0, []), (831, .iconst 0, 0, 0, 0, []), (832, .ireturn, 0, 0, 0, []), (833, .iload 5, 0, 0, 0, []), (835, .ifCond .ne 15, 850, 0, 0, []), (838, .aload_n 3, 0, 0, 0, []), (839, .iconst 0, 0, 0, 0, []), (840, .laload, 0, 0, 0, []), (841, .iload 6, 0, 0, 0, []), (843, .i2l, 0, 0, 0, []), (844, .lcmp, 0, 0, 0, []), (845, .ifCond .eq 5, 850, 0, 0, []), (848, .iconst 0, 0, 0, 0, []), (849, .ireturn, 0, 0, 0, []), (850, .goto 78, 928, 0, 0, []), (853, .aload_n 1, 0, 0, 0, []), (854, .aload_n 0, 0, 0, 0, []), (855, .iload 4, 0, 0, 0, []), (857, .iconst 1, 0, 0, 1, []), (858, .iadd, 0, 0, 0, []), (859, .iaload, 0, 0, 0, []), (860, .aload_n 0, 0, 0, 0, []), (861, .iload 4, 0, 0, 0, []), (863, .iconst 2, 0, 0, 2, []), (864, .iadd, 0, 0, 0, []), (865, .iaload, 0, 0, 0, []), (866, .aload_n 3, 0, 0, 0, []), (867, .invokestatic 111, 112, 4, 0, []), (870, .istore 5, 0, 0, 0, []), (872, .aload_n 2, 0, 0, 0, []), (873, .aload_n 0, 0, 0, 0, []), (874, .iload 4, 0, 0, 0, []), (876, .iconst 1, 0, 0, 1, []), (877, .iadd, 0, 0, 0, []), (878, .iaload, 0, 0, 0, []), (879, .aload_n 0, 0, 0, 0, []), (880, .iload 4, 0, 0, 0, [])]
def tl_113_9 : List tb_Row := [(882, .iconst 2, 0, 0, 2, []), (883, .iadd, 0, 0, 0, []), (884, .iaload, 0, 0, 0, []), (885, .invokevirtual 113, 74, 3, 0, []), (888, .istore 6, 0, 0, 0, []), (890, .aload_n 2, 0, 0, 0, []), (891, .invokevirtual 73, 40, 1, 0, []), (894, .iload 5, 0, 0, 0, []), (896, .if_icmp .eq 5, 901, 0, 0, []), (899, .iconst 0, 0, 0, 0, []), (900, .ireturn, 0, 0, 0, []), (901, .iload 5, 0, 0, 0, []), (903, .ifCond .ne 22, 925, 0, 0, []), (906, .aload_n 3, 0, 0, 0, []), (907, .iconst 0, 0, 0, 0, []), (908, .laload, 0, 0, 0, []), (909, .iload 6, 0, 0, 0, []), (911, .ifCond .eq 7, 918, 0, 0, []), (914, .lconst 1, 0, 0, 0, []), (915, .goto 4, 919, 0, 0, []), (918, .lconst 0, 0, 0, 0, []), (919, .lcmp, 0, 0, 0, []), (920, .ifCond .eq 5, 925, 0, 0, []), (923, .iconst 0, 0, 0, 0, []), (924, .ireturn, 0, 0, 0, []), (925, .goto 3, 928, 0, 0, []), (928, .iinc 4 4, 0, 0, 4, []), (931, .goto (-908), 23, 0, 0, []), (934, .iconst 1, 0, 0, 1, []), (935, .ireturn, 0, 0, 0, [])]
def tl_113 : List tb_Row := tl_113_0 ++ tl_113_1 ++ tl_113_2 ++ tl_113_3 ++ tl_113_4 ++ tl_113_5 ++ tl_113_6 ++ tl_113_7 ++ tl_113_8 ++ tl_113_9
def tb_li : Nat → List tb_Row
  | 0 => tl_0
  | 1 => tl_1
  | 2 => tl_2
  | 3 => tl_3
  | 4 => tl_4
  | 5 => tl_5
  | 6 => tl_6
  | 7 => tl_7
  | 8 => tl_8
  | 9 => tl_9
  | 10 => tl_10
  | 11 => tl_11
  | 12 => tl_12
  | 13 => tl_13
  | 14 => tl_14
  | 15 => tl_15
  | 16 => tl_16
  | 17 => tl_17
  | 18 => tl_18
  | 19 => tl_19
  | 20 => tl_20
  | 21 => tl_21
  | 22 => tl_22
  | 23 => tl_23
  | 24 => tl_24
  | 25 => tl_25
  | 26 => tl_26
  | 27 => tl_27
  | 28 => tl_28
  | 29 => tl_29
  | 30 => tl_30
  | 31 => tl_31
  | 32 => tl_32
  | 33 => tl_33
  | 34 => tl_34
  | 35 => tl_35
  | 36 => tl_36
  | 37 => tl_37
  | 38 => tl_38
  | 39 => tl_39
  | 40 => tl_40
  | 41 => tl_41
  | 42 => tl_42
  | 43 => tl_43
  | 44 => tl_44
  | 45 => tl_45
  | 46 => tl_46
  | 47 => tl_47
  | 48 => tl_48
  | 49 => tl_49
  | 50 => tl_50
  | 51 => tl_51
  | 52 => tl_52
  | 53 => tl_53
  | 54 => tl_54
  | 55 => tl_55
  | 56 => tl_56
  | 57 => tl_57
  | 58 => tl_58
  | 59 => tl_59
  | 60 => tl_60
  | 61 => tl_61
  | 62 => tl_62
  | 63 => tl_63
  | 64 => tl_64
  | 65 => tl_65
  | 66 => tl_66
  | 67 => tl_67
  | 68 => tl_68
  | 69 => tl_69
  | 70 => tl_70
  | 71 => tl_71
  | 72 => tl_72
  | 73 => tl_73
  | 74 => tl_74
  | 75 => tl_75
  | 76 => tl_76
  | 77 => tl_77
  | 78 => tl_78
  | 79 => tl_79
  | 80 => tl_80
  | 81 => tl_81
  | 82 => tl_82
  | 83 => tl_83
  | 84 => tl_84
  | 85 => tl_85
  | 86 => tl_86
  | 87 => tl_87
  | 88 => tl_88
  | 89 => tl_89
  | 90 => tl_90
  | 91 => tl_91
  | 92 => tl_92
  | 93 => tl_93
  | 94 => tl_94
  | 95 => tl_95
  | 96 => tl_96
  | 97 => tl_97
  | 98 => tl_98
  | 99 => tl_99
  | 100 => tl_100
  | 101 => tl_101
  | 102 => tl_102
  | 103 => tl_103
  | 104 => tl_104
  | 105 => tl_105
  | 106 => tl_106
  | 107 => tl_107
  | 108 => tl_108
  | 109 => tl_109
  | 110 => tl_110
  | 111 => tl_111
  | 112 => tl_112
  | 113 => tl_113
  | _ => []
def tb_in (i pc : Nat) : Option (Instr × Nat × Nat × Int32 × List Nat) := ((tb_li i).find? (fun q => q.1 == pc)).map (fun q => q.2)
end
section
/-! A pure machine: the instructions that the law, the class and the reference use, over values whose references are the numbers of what was made (from 8 on; 0 is the script, 1 .. 4 the constants of the enum). What it says, the machine does (part 05). -/
/-- a row of an array: its type, its length, its values -/
abbrev pm_A : Type := FieldType × Nat × (Nat → Value)
abbrev pm_E : Type := pm_A ⊕ (Nat × List Value)
/-- cells made, slots made, contents -/
abbrev pm_M : Type := Nat × Nat × (Nat → pm_E)
abbrev pm_L : Type := List (Option Value)
abbrev pm_F : Type := Nat × pm_L × List Value × pm_M
abbrev pm_R : Type := Option Value ⊕ Nat
def pm_get (L : pm_L) (i : Nat) : Option Value := L.getD i none
def pm_set : pm_L → Nat → Value → pm_L
  | [], _, _ => []
  | _ :: t, 0, v => some v :: t
  | x :: t, 1, v => (match x with | some (.long _) => none | some (.double _) => none | y => y) :: pm_set t 0 v
  | x :: t, i + 2, v => x :: pm_set t (i + 1) v
def pm_up (M : pm_M) (p : Nat) (e : pm_E) : pm_M := (M.1, M.2.1, fun q => if q = p then e else M.2.2 q)
def pm_mk (M : pm_M) (n : Nat) (e : pm_E) : pm_M := (M.1 + 1, M.2.1 + n, fun q => if q = 8 + M.1 then e else M.2.2 q)
def pm_uv (f : Nat → Value) (k : Nat) (v : Value) : Nat → Value := fun j => if j = k then v else f j
def pm_i1 (st : List Value) (k : Int32 → List Value → Option pm_F) : Option pm_F := match st with
  | .int x :: r => k x r
  | _ => none
def pm_i2 (st : List Value) (k : Int32 → Int32 → List Value → Option pm_F) : Option pm_F := match st with
  | .int y :: .int x :: r => k x y r
  | _ => none
def pm_l1 (st : List Value) (k : Int64 → List Value → Option pm_F) : Option pm_F := match st with
  | .long x :: r => k x r
  | _ => none
def pm_l2 (st : List Value) (k : Int64 → Int64 → List Value → Option pm_F) : Option pm_F := match st with
  | .long y :: .long x :: r => k x y r
  | _ => none
def pm_li (st : List Value) (k : Int64 → Int32 → List Value → Option pm_F) : Option pm_F := match st with
  | .int y :: .long x :: r => k x y r
  | _ => none
def pm_r1 (st : List Value) (k : Nat → List Value → Option pm_F) : Option pm_F := match st with
  | .ref p :: r => k p r
  | _ => none
def pm_r2 (st : List Value) (k : Nat → Nat → List Value → Option pm_F) : Option pm_F := match st with
  | .ref q :: .ref p :: r => k p q r
  | _ => none
def pm_ir (st : List Value) (k : Nat → Int32 → List Value → Option pm_F) : Option pm_F := match st with
  | .int j :: .ref p :: r => k p j r
  | _ => none
def pm_vr (st : List Value) (k : Nat → Value → List Value → Option pm_F) : Option pm_F := match st with
  | v :: .ref p :: r => k p v r
  | _ => none
def pm_vir (st : List Value) (k : Nat → Int32 → Value → List Value → Option pm_F) : Option pm_F := match st with
  | v :: .int j :: .ref p :: r => k p j v r
  | _ => none
def pm_v1 (st : List Value) (k : Value → List Value → Option pm_F) : Option pm_F := match st with
  | v :: r => k v r
  | _ => none
def pm_cp (st : List Value) (k : Nat → Int32 → Nat → Int32 → Int32 → List Value → Option pm_F) : Option pm_F := match st with
  | .int n :: .int dp :: .ref q :: .int sp :: .ref p :: r => k p sp q dp n r
  | _ => none
def pm_arr (M : pm_M) (p : Nat) (k : FieldType → Nat → (Nat → Value) → Option pm_F) : Option pm_F := match M.2.2 p with
  | .inl (ty, n, f) => k ty n f
  | .inr _ => none
def pm_obj (M : pm_M) (p : Nat) (k : Nat → List Value → Option pm_F) : Option pm_F := match M.2.2 p with
  | .inl _ => none
  | .inr (c, fs) => k c fs
def pm_ld (L : pm_L) (i : Nat) (k : Value → Option pm_F) : Option pm_F := match pm_get L i with
  | some v => k v
  | none => none
/-- an element is read -/
def pm_al (M : pm_M) (L : pm_L) (st : List Value) (pc : Nat) (ok : FieldType → Bool) : Option pm_F :=
  pm_ir st fun p j r => pm_arr M p fun ty n f => if ok ty = true ∧ ¬ (j < 0 ∨ n ≤ j.toNatClampNeg) then some (pc + 1, L, f j.toNatClampNeg :: r, M) else none
/-- an element is written -/
def pm_as (M : pm_M) (L : pm_L) (st : List Value) (pc : Nat) (t : FieldType) (ok : Value → Bool) : Option pm_F :=
  pm_vir st fun p j v r => pm_arr M p fun ty n f => if ok v = true ∧ ty = t ∧ 8 ≤ p ∧ ¬ (j < 0 ∨ n ≤ j.toNatClampNeg) then some (pc + 1, L, r, pm_up M p (.inl (ty, n, pm_uv f j.toNatClampNeg (narrow t v)))) else none
def pm_isI : Value → Bool
  | .int _ => true
  | _ => false
def pm_isJ : Value → Bool
  | .long _ => true
  | _ => false
def pm_isA : Value → Bool
  | .ref _ => true
  | _ => false
def pm_isO : FieldType → Bool
  | .object _ => true
  | _ => false
/-- the instructions that go on in their own frame: a, b, v, ts is what the tables know of the instruction (targets, field, class, constant) -/
def pm_nx (ins : Instr) (a b : Nat) (v : Int32) (ts : List Nat) (pc : Nat) (L : pm_L) (st : List Value) (M : pm_M) : Option pm_F :=
  match ins with
  | .iconst _ => some (pc + 1, L, .int v :: st, M)
  | .bipush _ => some (pc + 2, L, .int v :: st, M)
  | .sipush _ => some (pc + 3, L, .int v :: st, M)
  | .lconst k => some (pc + 1, L, .long (Int64.ofNat (k : Nat)) :: st, M)
  | .ldc2_w _ => some (pc + 3, L, .long (Int64.ofNat a) :: st, M)
  | .iload_n k => pm_ld L k fun x => if pm_isI x = true then some (pc + 1, L, x :: st, M) else none
  | .iload i => pm_ld L i fun x => if pm_isI x = true then some (pc + 2, L, x :: st, M) else none
  | .lload_n k => pm_ld L k fun x => if pm_isJ x = true then some (pc + 1, L, x :: st, M) else none
  | .aload_n k => pm_ld L k fun x => if pm_isA x = true then some (pc + 1, L, x :: st, M) else none
  | .aload i => pm_ld L i fun x => if pm_isA x = true then some (pc + 2, L, x :: st, M) else none
  | .istore_n k => pm_v1 st fun x r => if pm_isI x = true ∧ (k : Nat) < L.length then some (pc + 1, pm_set L k x, r, M) else none
  | .istore i => pm_v1 st fun x r => if pm_isI x = true ∧ i < L.length then some (pc + 2, pm_set L i x, r, M) else none
  | .astore_n k => pm_v1 st fun x r => if pm_isA x = true ∧ (k : Nat) < L.length then some (pc + 1, pm_set L k x, r, M) else none
  | .astore i => pm_v1 st fun x r => if pm_isA x = true ∧ i < L.length then some (pc + 2, pm_set L i x, r, M) else none
  | .iinc i _ => pm_ld L i fun x => match x with
    | .int x => if i < L.length then some (pc + 3, pm_set L i (.int (x + v)), st, M) else none
    | _ => none
  | .iadd => pm_i2 st fun x y r => some (pc + 1, L, .int (x + y) :: r, M)
  | .isub => pm_i2 st fun x y r => some (pc + 1, L, .int (x - y) :: r, M)
  | .imul => pm_i2 st fun x y r => some (pc + 1, L, .int (x * y) :: r, M)
  | .iand => pm_i2 st fun x y r => some (pc + 1, L, .int (x &&& y) :: r, M)
  | .idiv => pm_i2 st fun x y r => if y = 0 then none else some (pc + 1, L, .int (x / y) :: r, M)
  | .irem => pm_i2 st fun x y r => if y = 0 then none else some (pc + 1, L, .int (x - x / y * y) :: r, M)
  | .i2l => pm_i1 st fun x r => some (pc + 1, L, .long x.toInt64 :: r, M)
  | .i2c => pm_i1 st fun x r => some (pc + 1, L, .int (x.toUInt32 % 65536).toInt32 :: r, M)
  | .l2i => pm_l1 st fun x r => some (pc + 1, L, .int x.toInt32 :: r, M)
  | .lcmp => pm_l2 st fun x y r => some (pc + 1, L, .int (lg_cmp x y) :: r, M)
  | .land => pm_l2 st fun x y r => some (pc + 1, L, .long (x &&& y) :: r, M)
  | .lor => pm_l2 st fun x y r => some (pc + 1, L, .long (x ||| y) :: r, M)
  | .lshl => pm_li st fun x y r => some (pc + 1, L, .long (x <<< (y.toInt64 &&& 63)) :: r, M)
  | .lshr => pm_li st fun x y r => some (pc + 1, L, .long (x >>> (y.toInt64 &&& 63)) :: r, M)
  | .lushr => pm_li st fun x y r => some (pc + 1, L, .long (x.toUInt64 >>> (y.toInt64.toUInt64 &&& Int64.toUInt64 63)).toInt64 :: r, M)
  | .dup => pm_v1 st fun x r => if x.category = 1 then some (pc + 1, L, x :: x :: r, M) else none
  | .pop => pm_v1 st fun x r => if x.category = 1 then some (pc + 1, L, r, M) else none
  | .goto _ => some (a, L, st, M)
  | .ifCond .eq _ => pm_i1 st fun x r => some (if x = 0 then a else pc + 3, L, r, M)
  | .ifCond .ne _ => pm_i1 st fun x r => some (if x = 0 then pc + 3 else a, L, r, M)
  | .ifCond .lt _ => pm_i1 st fun x r => some (if x < 0 then a else pc + 3, L, r, M)
  | .ifCond .ge _ => pm_i1 st fun x r => some (if 0 ≤ x then a else pc + 3, L, r, M)
  | .ifCond .gt _ => pm_i1 st fun x r => some (if 0 < x then a else pc + 3, L, r, M)
  | .ifCond .le _ => pm_i1 st fun x r => some (if x ≤ 0 then a else pc + 3, L, r, M)
  | .if_icmp .eq _ => pm_i2 st fun x y r => some (if x = y then a else pc + 3, L, r, M)
  | .if_icmp .ne _ => pm_i2 st fun x y r => some (if x = y then pc + 3 else a, L, r, M)
  | .if_icmp .lt _ => pm_i2 st fun x y r => some (if x < y then a else pc + 3, L, r, M)
  | .if_icmp .ge _ => pm_i2 st fun x y r => some (if y ≤ x then a else pc + 3, L, r, M)
  | .if_icmp .gt _ => pm_i2 st fun x y r => some (if y < x then a else pc + 3, L, r, M)
  | .if_icmp .le _ => pm_i2 st fun x y r => some (if x ≤ y then a else pc + 3, L, r, M)
  | .if_acmp .eq _ => pm_r2 st fun x y r => if (1 ≤ x ∧ x ≤ 4) ∧ 1 ≤ y ∧ y ≤ 4 then some (if x = y then a else pc + 3, L, r, M) else none
  | .if_acmp .ne _ => pm_r2 st fun x y r => if (1 ≤ x ∧ x ≤ 4) ∧ 1 ≤ y ∧ y ≤ 4 then some (if x = y then pc + 3 else a, L, r, M) else none
  | .tableswitch _ _ _ _ => pm_i1 st fun x r => some (if x < 0 ∨ ts.length ≤ x.toNatClampNeg then a else ts.getD x.toNatClampNeg 0, L, r, M)
  | .iaload => pm_al M L st pc (fun ty => ty == .int)
  | .baload => pm_al M L st pc (fun ty => ty == .boolean)
  | .caload => pm_al M L st pc (fun ty => ty == .char)
  | .laload => pm_al M L st pc (fun ty => ty == .long)
  | .aaload => pm_al M L st pc pm_isO
  | .iastore => pm_as M L st pc .int pm_isI
  | .bastore => pm_as M L st pc .boolean pm_isI
  | .castore => pm_as M L st pc .char pm_isI
  | .lastore => pm_as M L st pc .long pm_isJ
  | .aastore => pm_vir st fun p j v r => match v with
    | .ref w => pm_arr M p fun ty n f => pm_obj M w fun c _ => if (c < vwCl.length ∧ ty = .object (tb_cn c)) ∧ 8 ≤ p ∧ ¬ (j < 0 ∨ n ≤ j.toNatClampNeg) then some (pc + 1, L, r, pm_up M p (.inl (ty, n, pm_uv f j.toNatClampNeg (.ref w)))) else none
    | _ => none
  | .arraylength => pm_r1 st fun p r => pm_arr M p fun _ n _ => some (pc + 1, L, .int (Int32.ofNat n) :: r, M)
  | .getfield _ => pm_r1 st fun p r => pm_obj M p fun c fs => match fs[b]? with
    | some x => if c = a then some (pc + 3, L, x :: r, M) else none
    | none => none
  | .putfield _ => pm_vr st fun p x r => pm_obj M p fun c fs => if c = a ∧ 8 ≤ p ∧ b < fs.length ∧ narrow (tb_ft a b) x = x ∧ fits (tb_ft a b) x = true then some (pc + 3, L, r, pm_up M p (.inr (c, fs.set b x))) else none
  | .getstatic _ => some (pc + 3, L, .ref a :: st, M)
  | .new _ => some (pc + 3, L, .ref (8 + M.1) :: st, pm_mk M (tb_df a).length (.inr (a, tb_df a)))
  | .newarray t => pm_i1 st fun x r => if x < 0 ∨ 5000 < x.toNatClampNeg then none else some (pc + 2, L, .ref (8 + M.1) :: r, pm_mk M x.toNatClampNeg (.inl (newarray.typeOf t, x.toNatClampNeg, fun _ => defaultValue (newarray.typeOf t))))
  | .anewarray _ => pm_i1 st fun x r => if x < 0 ∨ 5000 < x.toNatClampNeg then none else some (pc + 3, L, .ref (8 + M.1) :: r, pm_mk M x.toNatClampNeg (.inl (.object (tb_cn a), x.toNatClampNeg, fun _ => .null)))
  | .invokespecial _ => pm_r1 st fun _ r => some (pc + 3, L, r, M)
  | .invokestatic _ =>
    if a = 1001 then pm_i2 st fun x y r => some (pc + 3, L, .int (if x < y then y else x) :: r, M)
    else if a = 1002 then pm_i2 st fun x y r => some (pc + 3, L, .int (if y < x then y else x) :: r, M)
    else pm_cp st fun p sp q dp n r => pm_arr M p fun t0 n0 f => pm_arr M q fun t1 n1 g =>
      if t0 = .int ∧ t1 = .int ∧ 8 ≤ q ∧ ¬ sp < 0 ∧ ¬ dp < 0 ∧ ¬ n < 0 ∧ sp.toNatClampNeg + n.toNatClampNeg ≤ n0 ∧ dp.toNatClampNeg + n.toNatClampNeg ≤ n1 ∧ (∀ k, k < n.toNatClampNeg → fits .int (f (sp.toNatClampNeg + k)) = true) then some (pc + 3, L, r, pm_up M q (.inl (t1, n1, va_cpy f g sp.toNatClampNeg dp.toNatClampNeg n.toNatClampNeg))) else none
  | _ => none
/-- the locals that a method begins with -/
def pm_la : List Value → pm_L
  | [] => []
  | .long x :: t => some (.long x) :: none :: pm_la t
  | .double x :: t => some (.double x) :: none :: pm_la t
  | v :: t => some v :: pm_la t
def pm_en (j : Nat) (as : List Value) : Option pm_L := if (pm_la as).length ≤ tb_mL j then some (pm_la as ++ List.replicate (tb_mL j - (pm_la as).length) none) else none
/-- the receiver's class is the method's own -/
def pm_rc (M : pm_M) (j : Nat) (as : List Value) : Bool := match as with
  | .ref p :: _ => (match M.2.2 p with
    | .inr (c, _) => decide (c < vwCl.length ∧ c = tb_rc j)
    | .inl _ => false)
  | _ => false
/-- a step: it goes on in the frame, or calls (method, arguments, the stack below), or the method is at its end -/
abbrev pm_S : Type := pm_F ⊕ ((Nat × List Value × List Value) ⊕ (pm_R × pm_M))
def pm_cs (st : List Value) : Nat := (st.map fun v => v.category).sum
def pm_cl (M : pm_M) (j b : Nat) (vt : Bool) (st : List Value) : Option pm_S :=
  if b ≤ st.length ∧ pm_cs (st.drop b) ≤ 8 ∧ (pm_en j (st.take b).reverse).isSome = true ∧ (vt = true → pm_rc M j (st.take b).reverse = true) then some (.inr (.inl (j, (st.take b).reverse, st.drop b))) else none
def pm_st (i pc : Nat) (L : pm_L) (st : List Value) (M : pm_M) : Option pm_S :=
  match tb_in i pc with
  | none => none
  | some (ins, a, b, v, ts) => match ins with
    | .ireturn => match st with
      | [.int x] => if tb_rI i x = true then some (.inr (.inr (.inl (some (.int x)), M))) else none
      | _ => none
    | .areturn => match st with
      | [.ref x] => if tb_rA i = true then some (.inr (.inr (.inl (some (.ref x)), M))) else none
      | _ => none
    | .return_ => match st with
      | [] => if tb_rV i = true then some (.inr (.inr (.inl none, M))) else none
      | _ => none
    | .new _ => if 1000 ≤ a then (if pm_cs st ≤ 8 then some (.inr (.inr (.inr a, pm_mk M 6 (.inr (1000, []))))) else none) else (pm_nx ins a b v ts pc L st M).map .inl
    | .invokevirtual _ => pm_cl M a b true st
    | .invokestatic _ => if 1001 ≤ a then (if pm_cs st ≤ 12 then (pm_nx ins a b v ts pc L st M).map .inl else none) else pm_cl M a b false st
    | .invokespecial _ => if 1000 ≤ a then (if pm_cs st ≤ 12 then (pm_nx ins a b v ts pc L st M).map .inl else none) else pm_cl M a b true st
    | _ => (pm_nx ins a b v ts pc L st M).map .inl
def pm_ex : Nat → Nat → Nat → Nat → pm_L → List Value → pm_M → Option (pm_R × pm_M)
  | 0, _, _, _, _, _, _ => none
  | n + 1, d, i, pc, L, st, M => match pm_st i pc L st M with
    | none => none
    | some (.inl F) => pm_ex n d i F.1 F.2.1 F.2.2.1 F.2.2.2
    | some (.inr (.inl (j, as, rest))) => match d with
      | 0 => none
      | d + 1 => match pm_ex n d j 0 ((pm_en j as).getD []) [] M with
        | none => none
        | some (.inl v, M') => pm_ex n (d + 1) i (pc + 3) L (v.toList ++ rest) M'
        | some (.inr x, M') => match tb_hn i pc x with
          | none => none
          | some none => some (.inr x, M')
          | some (some h) => pm_ex n (d + 1) i h L [.ref (7 + M'.1)] M'
    | some (.inr (.inr r)) => some r
end
section
-- ===== PART A: goes FIRST, ahead of the names: the tables' words, and 'selects' of the private methods out of them =====
/-- a private method of a class that the tables say can be made, by its rows of tables_1 -/
def lw_okq (q : MethodName × Nat) : Prop := (q.1.cls ≠ "java/lang/invoke/MethodHandle" ∧ q.1.cls ≠ "java/lang/invoke/VarHandle") ∧ Cond.instantiable q.1.cls q.2 ∈ tables_1 ∧ Cond.privateMethod q.1 ∈ tables_1 ∧ Cond.instanceMethod q.1 ∈ tables_1
theorem lw_p0 : lw_okq (⟨"java/lang/Throwable", "fillInStackTrace", "(I)Ljava/lang/Throwable;"⟩, 6) := ⟨⟨by decide +kernel, by decide +kernel⟩, List.mem_of_getElem? (i := 313) (by decide +kernel), List.mem_of_getElem? (i := 311) (by decide +kernel), List.mem_of_getElem? (i := 312) (by decide +kernel)⟩
theorem lw_p1 : lw_okq (⟨"MemoRuntime$RecentOrder", "join", "(II)V"⟩, 4) := ⟨⟨by decide +kernel, by decide +kernel⟩, List.mem_of_getElem? (i := 82) (by decide +kernel), List.mem_of_getElem? (i := 363) (by decide +kernel), List.mem_of_getElem? (i := 364) (by decide +kernel)⟩
theorem lw_p2 : lw_okq (⟨"MemoRuntime", "edit", "(I)V"⟩, 15) := ⟨⟨by decide +kernel, by decide +kernel⟩, List.mem_of_getElem? (i := 20) (by decide +kernel), List.mem_of_getElem? (i := 380) (by decide +kernel), List.mem_of_getElem? (i := 381) (by decide +kernel)⟩
theorem lw_p3 : lw_okq (⟨"MemoRuntime", "ask", "(I)LMemoRuntime$Outcome;"⟩, 15) := ⟨⟨by decide +kernel, by decide +kernel⟩, List.mem_of_getElem? (i := 20) (by decide +kernel), List.mem_of_getElem? (i := 416) (by decide +kernel), List.mem_of_getElem? (i := 417) (by decide +kernel)⟩
theorem lw_p4 : lw_okq (⟨"MemoRuntime", "placeUnderWay", "(I)I"⟩, 15) := ⟨⟨by decide +kernel, by decide +kernel⟩, List.mem_of_getElem? (i := 20) (by decide +kernel), List.mem_of_getElem? (i := 420) (by decide +kernel), List.mem_of_getElem? (i := 421) (by decide +kernel)⟩
theorem lw_p5 : lw_okq (⟨"MemoRuntime", "answerCircle", "(I)V"⟩, 15) := ⟨⟨by decide +kernel, by decide +kernel⟩, List.mem_of_getElem? (i := 20) (by decide +kernel), List.mem_of_getElem? (i := 424) (by decide +kernel), List.mem_of_getElem? (i := 425) (by decide +kernel)⟩
theorem lw_p6 : lw_okq (⟨"MemoRuntime", "isGood", "(I)Z"⟩, 15) := ⟨⟨by decide +kernel, by decide +kernel⟩, List.mem_of_getElem? (i := 20) (by decide +kernel), List.mem_of_getElem? (i := 432) (by decide +kernel), List.mem_of_getElem? (i := 433) (by decide +kernel)⟩
theorem lw_p7 : lw_okq (⟨"MemoRuntime", "skip", "(I)Z"⟩, 15) := ⟨⟨by decide +kernel, by decide +kernel⟩, List.mem_of_getElem? (i := 20) (by decide +kernel), List.mem_of_getElem? (i := 440) (by decide +kernel), List.mem_of_getElem? (i := 441) (by decide +kernel)⟩
theorem lw_p8 : lw_okq (⟨"MemoRuntime", "verify", "(I)LMemoRuntime$Outcome;"⟩, 15) := ⟨⟨by decide +kernel, by decide +kernel⟩, List.mem_of_getElem? (i := 20) (by decide +kernel), List.mem_of_getElem? (i := 452) (by decide +kernel), List.mem_of_getElem? (i := 453) (by decide +kernel)⟩
theorem lw_p9 : lw_okq (⟨"MemoRuntime", "askForRead", "(I)LMemoRuntime$Outcome;"⟩, 15) := ⟨⟨by decide +kernel, by decide +kernel⟩, List.mem_of_getElem? (i := 20) (by decide +kernel), List.mem_of_getElem? (i := 458) (by decide +kernel), List.mem_of_getElem? (i := 459) (by decide +kernel)⟩
theorem lw_p10 : lw_okq (⟨"MemoRuntime", "changedOf", "(I)I"⟩, 15) := ⟨⟨by decide +kernel, by decide +kernel⟩, List.mem_of_getElem? (i := 20) (by decide +kernel), List.mem_of_getElem? (i := 465) (by decide +kernel), List.mem_of_getElem? (i := 466) (by decide +kernel)⟩
theorem lw_p11 : lw_okq (⟨"MemoRuntime", "leastClassOfReads", "(LMemoRuntime$Cell;)I"⟩, 15) := ⟨⟨by decide +kernel, by decide +kernel⟩, List.mem_of_getElem? (i := 20) (by decide +kernel), List.mem_of_getElem? (i := 469) (by decide +kernel), List.mem_of_getElem? (i := 470) (by decide +kernel)⟩
theorem lw_p12 : lw_okq (⟨"MemoRuntime", "classOf", "(I)I"⟩, 15) := ⟨⟨by decide +kernel, by decide +kernel⟩, List.mem_of_getElem? (i := 20) (by decide +kernel), List.mem_of_getElem? (i := 473) (by decide +kernel), List.mem_of_getElem? (i := 474) (by decide +kernel)⟩
theorem lw_p13 : lw_okq (⟨"MemoRuntime", "run", "(ILMemoRuntime$Working;)LMemoRuntime$Outcome;"⟩, 15) := ⟨⟨by decide +kernel, by decide +kernel⟩, List.mem_of_getElem? (i := 20) (by decide +kernel), List.mem_of_getElem? (i := 480) (by decide +kernel), List.mem_of_getElem? (i := 481) (by decide +kernel)⟩
theorem lw_p14 : lw_okq (⟨"MemoRuntime$Working", "letWait", "(C)V"⟩, 11) := ⟨⟨by decide +kernel, by decide +kernel⟩, List.mem_of_getElem? (i := 142) (by decide +kernel), List.mem_of_getElem? (i := 493) (by decide +kernel), List.mem_of_getElem? (i := 494) (by decide +kernel)⟩
theorem lw_p15 : lw_okq (⟨"MemoRuntime$Working", "handOver", "(I)V"⟩, 11) := ⟨⟨by decide +kernel, by decide +kernel⟩, List.mem_of_getElem? (i := 142) (by decide +kernel), List.mem_of_getElem? (i := 497) (by decide +kernel), List.mem_of_getElem? (i := 498) (by decide +kernel)⟩
def lw_privs_1 : List (MethodName × Nat) := [(⟨"java/lang/Throwable", "fillInStackTrace", "(I)Ljava/lang/Throwable;"⟩, 6), (⟨"MemoRuntime$RecentOrder", "join", "(II)V"⟩, 4), (⟨"MemoRuntime", "edit", "(I)V"⟩, 15), (⟨"MemoRuntime", "ask", "(I)LMemoRuntime$Outcome;"⟩, 15), (⟨"MemoRuntime", "placeUnderWay", "(I)I"⟩, 15), (⟨"MemoRuntime", "answerCircle", "(I)V"⟩, 15), (⟨"MemoRuntime", "isGood", "(I)Z"⟩, 15), (⟨"MemoRuntime", "skip", "(I)Z"⟩, 15), (⟨"MemoRuntime", "verify", "(I)LMemoRuntime$Outcome;"⟩, 15), (⟨"MemoRuntime", "askForRead", "(I)LMemoRuntime$Outcome;"⟩, 15), (⟨"MemoRuntime", "changedOf", "(I)I"⟩, 15), (⟨"MemoRuntime", "leastClassOfReads", "(LMemoRuntime$Cell;)I"⟩, 15), (⟨"MemoRuntime", "classOf", "(I)I"⟩, 15), (⟨"MemoRuntime", "run", "(ILMemoRuntime$Working;)LMemoRuntime$Outcome;"⟩, 15), (⟨"MemoRuntime$Working", "letWait", "(C)V"⟩, 11), (⟨"MemoRuntime$Working", "handOver", "(I)V"⟩, 11)]
theorem lw_r1 : ∀ q ∈ lw_privs_1, lw_okq q := List.forall_mem_cons.mpr ⟨lw_p0, List.forall_mem_cons.mpr ⟨lw_p1, List.forall_mem_cons.mpr ⟨lw_p2, List.forall_mem_cons.mpr ⟨lw_p3, List.forall_mem_cons.mpr ⟨lw_p4, List.forall_mem_cons.mpr ⟨lw_p5, List.forall_mem_cons.mpr ⟨lw_p6, List.forall_mem_cons.mpr ⟨lw_p7, List.forall_mem_cons.mpr ⟨lw_p8, List.forall_mem_cons.mpr ⟨lw_p9, List.forall_mem_cons.mpr ⟨lw_p10, List.forall_mem_cons.mpr ⟨lw_p11, List.forall_mem_cons.mpr ⟨lw_p12, List.forall_mem_cons.mpr ⟨lw_p13, List.forall_mem_cons.mpr ⟨lw_p14, List.forall_mem_cons.mpr ⟨lw_p15, fun _ h => absurd h List.not_mem_nil⟩⟩⟩⟩⟩⟩⟩⟩⟩⟩⟩⟩⟩⟩⟩⟩
theorem lw_p16 : lw_okq (⟨"MemoRuntime$Working", "takeFirst", "(C)V"⟩, 11) := ⟨⟨by decide +kernel, by decide +kernel⟩, List.mem_of_getElem? (i := 142) (by decide +kernel), List.mem_of_getElem? (i := 508) (by decide +kernel), List.mem_of_getElem? (i := 509) (by decide +kernel)⟩
theorem lw_p17 : lw_okq (⟨"MemoRuntime", "valueOf", "(I)I"⟩, 15) := ⟨⟨by decide +kernel, by decide +kernel⟩, List.mem_of_getElem? (i := 20) (by decide +kernel), List.mem_of_getElem? (i := 515) (by decide +kernel), List.mem_of_getElem? (i := 516) (by decide +kernel)⟩
theorem lw_p18 : lw_okq (⟨"MemoRuntime$Working", "noteRead", "(I)V"⟩, 11) := ⟨⟨by decide +kernel, by decide +kernel⟩, List.mem_of_getElem? (i := 142) (by decide +kernel), List.mem_of_getElem? (i := 523) (by decide +kernel), List.mem_of_getElem? (i := 524) (by decide +kernel)⟩
theorem lw_p19 : lw_okq (⟨"MemoRuntime", "keep", "(ILMemoRuntime$Working;)V"⟩, 15) := ⟨⟨by decide +kernel, by decide +kernel⟩, List.mem_of_getElem? (i := 20) (by decide +kernel), List.mem_of_getElem? (i := 527) (by decide +kernel), List.mem_of_getElem? (i := 528) (by decide +kernel)⟩
theorem lw_p20 : lw_okq (⟨"MemoRuntime", "letFirstGo", "()I"⟩, 15) := ⟨⟨by decide +kernel, by decide +kernel⟩, List.mem_of_getElem? (i := 20) (by decide +kernel), List.mem_of_getElem? (i := 550) (by decide +kernel), List.mem_of_getElem? (i := 551) (by decide +kernel)⟩
theorem lw_p21 : lw_okq (⟨"MemoRuntime", "keptCell", "(I)LMemoRuntime$Cell;"⟩, 15) := ⟨⟨by decide +kernel, by decide +kernel⟩, List.mem_of_getElem? (i := 20) (by decide +kernel), List.mem_of_getElem? (i := 572) (by decide +kernel), List.mem_of_getElem? (i := 573) (by decide +kernel)⟩
theorem lw_p22 : lw_okq (⟨"MemoRuntimeModel", "forgetAll", "()V"⟩, 37) := ⟨⟨by decide +kernel, by decide +kernel⟩, List.mem_of_getElem? (i := 614) (by decide +kernel), List.mem_of_getElem? (i := 752) (by decide +kernel), List.mem_of_getElem? (i := 753) (by decide +kernel)⟩
theorem lw_p23 : lw_okq (⟨"MemoRuntimeModel", "edit", "(I)V"⟩, 37) := ⟨⟨by decide +kernel, by decide +kernel⟩, List.mem_of_getElem? (i := 614) (by decide +kernel), List.mem_of_getElem? (i := 763) (by decide +kernel), List.mem_of_getElem? (i := 764) (by decide +kernel)⟩
theorem lw_p24 : lw_okq (⟨"MemoRuntimeModel", "isGood", "(I)Z"⟩, 37) := ⟨⟨by decide +kernel, by decide +kernel⟩, List.mem_of_getElem? (i := 614) (by decide +kernel), List.mem_of_getElem? (i := 782) (by decide +kernel), List.mem_of_getElem? (i := 783) (by decide +kernel)⟩
theorem lw_p25 : lw_okq (⟨"MemoRuntimeModel", "isUnder", "(I)Z"⟩, 37) := ⟨⟨by decide +kernel, by decide +kernel⟩, List.mem_of_getElem? (i := 614) (by decide +kernel), List.mem_of_getElem? (i := 786) (by decide +kernel), List.mem_of_getElem? (i := 787) (by decide +kernel)⟩
theorem lw_p26 : lw_okq (⟨"MemoRuntimeModel", "close", "(I)V"⟩, 37) := ⟨⟨by decide +kernel, by decide +kernel⟩, List.mem_of_getElem? (i := 614) (by decide +kernel), List.mem_of_getElem? (i := 790) (by decide +kernel), List.mem_of_getElem? (i := 791) (by decide +kernel)⟩
theorem lw_p27 : lw_okq (⟨"MemoRuntimeModel", "end", "(I)V"⟩, 37) := ⟨⟨by decide +kernel, by decide +kernel⟩, List.mem_of_getElem? (i := 614) (by decide +kernel), List.mem_of_getElem? (i := 794) (by decide +kernel), List.mem_of_getElem? (i := 795) (by decide +kernel)⟩
theorem lw_p28 : lw_okq (⟨"MemoRuntimeModel", "isUntouched", "(I)Z"⟩, 37) := ⟨⟨by decide +kernel, by decide +kernel⟩, List.mem_of_getElem? (i := 614) (by decide +kernel), List.mem_of_getElem? (i := 798) (by decide +kernel), List.mem_of_getElem? (i := 799) (by decide +kernel)⟩
theorem lw_p29 : lw_okq (⟨"MemoRuntimeModel", "run", "()V"⟩, 37) := ⟨⟨by decide +kernel, by decide +kernel⟩, List.mem_of_getElem? (i := 614) (by decide +kernel), List.mem_of_getElem? (i := 802) (by decide +kernel), List.mem_of_getElem? (i := 803) (by decide +kernel)⟩
theorem lw_p30 : lw_okq (⟨"MemoRuntimeModel", "worksOut", "(II)Z"⟩, 37) := ⟨⟨by decide +kernel, by decide +kernel⟩, List.mem_of_getElem? (i := 614) (by decide +kernel), List.mem_of_getElem? (i := 806) (by decide +kernel), List.mem_of_getElem? (i := 807) (by decide +kernel)⟩
theorem lw_p31 : lw_okq (⟨"MemoRuntimeModel", "hand", "(II)I"⟩, 37) := ⟨⟨by decide +kernel, by decide +kernel⟩, List.mem_of_getElem? (i := 614) (by decide +kernel), List.mem_of_getElem? (i := 810) (by decide +kernel), List.mem_of_getElem? (i := 811) (by decide +kernel)⟩
def lw_privs_2 : List (MethodName × Nat) := [(⟨"MemoRuntime$Working", "takeFirst", "(C)V"⟩, 11), (⟨"MemoRuntime", "valueOf", "(I)I"⟩, 15), (⟨"MemoRuntime$Working", "noteRead", "(I)V"⟩, 11), (⟨"MemoRuntime", "keep", "(ILMemoRuntime$Working;)V"⟩, 15), (⟨"MemoRuntime", "letFirstGo", "()I"⟩, 15), (⟨"MemoRuntime", "keptCell", "(I)LMemoRuntime$Cell;"⟩, 15), (⟨"MemoRuntimeModel", "forgetAll", "()V"⟩, 37), (⟨"MemoRuntimeModel", "edit", "(I)V"⟩, 37), (⟨"MemoRuntimeModel", "isGood", "(I)Z"⟩, 37), (⟨"MemoRuntimeModel", "isUnder", "(I)Z"⟩, 37), (⟨"MemoRuntimeModel", "close", "(I)V"⟩, 37), (⟨"MemoRuntimeModel", "end", "(I)V"⟩, 37), (⟨"MemoRuntimeModel", "isUntouched", "(I)Z"⟩, 37), (⟨"MemoRuntimeModel", "run", "()V"⟩, 37), (⟨"MemoRuntimeModel", "worksOut", "(II)Z"⟩, 37), (⟨"MemoRuntimeModel", "hand", "(II)I"⟩, 37)]
theorem lw_r2 : ∀ q ∈ lw_privs_2, lw_okq q := List.forall_mem_cons.mpr ⟨lw_p16, List.forall_mem_cons.mpr ⟨lw_p17, List.forall_mem_cons.mpr ⟨lw_p18, List.forall_mem_cons.mpr ⟨lw_p19, List.forall_mem_cons.mpr ⟨lw_p20, List.forall_mem_cons.mpr ⟨lw_p21, List.forall_mem_cons.mpr ⟨lw_p22, List.forall_mem_cons.mpr ⟨lw_p23, List.forall_mem_cons.mpr ⟨lw_p24, List.forall_mem_cons.mpr ⟨lw_p25, List.forall_mem_cons.mpr ⟨lw_p26, List.forall_mem_cons.mpr ⟨lw_p27, List.forall_mem_cons.mpr ⟨lw_p28, List.forall_mem_cons.mpr ⟨lw_p29, List.forall_mem_cons.mpr ⟨lw_p30, List.forall_mem_cons.mpr ⟨lw_p31, fun _ h => absurd h List.not_mem_nil⟩⟩⟩⟩⟩⟩⟩⟩⟩⟩⟩⟩⟩⟩⟩⟩
theorem lw_p32 : lw_okq (⟨"MemoRuntimeModel", "note", "(I)V"⟩, 37) := ⟨⟨by decide +kernel, by decide +kernel⟩, List.mem_of_getElem? (i := 614) (by decide +kernel), List.mem_of_getElem? (i := 814) (by decide +kernel), List.mem_of_getElem? (i := 815) (by decide +kernel)⟩
theorem lw_p33 : lw_okq (⟨"MemoRuntimeModel", "behind", "(II)I"⟩, 37) := ⟨⟨by decide +kernel, by decide +kernel⟩, List.mem_of_getElem? (i := 614) (by decide +kernel), List.mem_of_getElem? (i := 818) (by decide +kernel), List.mem_of_getElem? (i := 819) (by decide +kernel)⟩
theorem lw_p34 : lw_okq (⟨"MemoRuntimeModel", "classOf", "(I)I"⟩, 37) := ⟨⟨by decide +kernel, by decide +kernel⟩, List.mem_of_getElem? (i := 614) (by decide +kernel), List.mem_of_getElem? (i := 822) (by decide +kernel), List.mem_of_getElem? (i := 823) (by decide +kernel)⟩
theorem lw_p35 : lw_okq (⟨"MemoRuntimeModel", "verify", "()V"⟩, 37) := ⟨⟨by decide +kernel, by decide +kernel⟩, List.mem_of_getElem? (i := 614) (by decide +kernel), List.mem_of_getElem? (i := 826) (by decide +kernel), List.mem_of_getElem? (i := 827) (by decide +kernel)⟩
theorem lw_p36 : lw_okq (⟨"MemoRuntimeModel", "shrink", "()I"⟩, 37) := ⟨⟨by decide +kernel, by decide +kernel⟩, List.mem_of_getElem? (i := 614) (by decide +kernel), List.mem_of_getElem? (i := 830) (by decide +kernel), List.mem_of_getElem? (i := 831) (by decide +kernel)⟩
theorem lw_p37 : lw_okq (⟨"MemoRuntimeModel", "keptCells", "()I"⟩, 37) := ⟨⟨by decide +kernel, by decide +kernel⟩, List.mem_of_getElem? (i := 614) (by decide +kernel), List.mem_of_getElem? (i := 834) (by decide +kernel), List.mem_of_getElem? (i := 835) (by decide +kernel)⟩
theorem lw_p38 : lw_okq (⟨"MemoRuntimeModel", "recentCell", "(I)I"⟩, 37) := ⟨⟨by decide +kernel, by decide +kernel⟩, List.mem_of_getElem? (i := 614) (by decide +kernel), List.mem_of_getElem? (i := 838) (by decide +kernel), List.mem_of_getElem? (i := 839) (by decide +kernel)⟩
def lw_privs_3 : List (MethodName × Nat) := [(⟨"MemoRuntimeModel", "note", "(I)V"⟩, 37), (⟨"MemoRuntimeModel", "behind", "(II)I"⟩, 37), (⟨"MemoRuntimeModel", "classOf", "(I)I"⟩, 37), (⟨"MemoRuntimeModel", "verify", "()V"⟩, 37), (⟨"MemoRuntimeModel", "shrink", "()I"⟩, 37), (⟨"MemoRuntimeModel", "keptCells", "()I"⟩, 37), (⟨"MemoRuntimeModel", "recentCell", "(I)I"⟩, 37)]
theorem lw_r3 : ∀ q ∈ lw_privs_3, lw_okq q := List.forall_mem_cons.mpr ⟨lw_p32, List.forall_mem_cons.mpr ⟨lw_p33, List.forall_mem_cons.mpr ⟨lw_p34, List.forall_mem_cons.mpr ⟨lw_p35, List.forall_mem_cons.mpr ⟨lw_p36, List.forall_mem_cons.mpr ⟨lw_p37, List.forall_mem_cons.mpr ⟨lw_p38, fun _ h => absurd h List.not_mem_nil⟩⟩⟩⟩⟩⟩⟩
def lw_privs : List (MethodName × Nat) := lw_privs_1 ++ (lw_privs_2 ++ (lw_privs_3))
def lw_tbl : List Cond := k2_sels lw_privs ++ tables_1
theorem lw_privs_ok : ∀ q ∈ lw_privs, lw_okq q := by
  show ∀ q ∈ lw_privs_1 ++ (lw_privs_2 ++ (lw_privs_3)), lw_okq q
  exact List.forall_mem_append.mpr ⟨lw_r1, List.forall_mem_append.mpr ⟨lw_r2, lw_r3⟩⟩
end
section
/-! What the pure machine's memory says of the machine's heap; a row for each instruction. -/
def pw_ad (s0 : State) (B : Nat → Nat) (p : Nat) : Nat := if p < 8 then B p else s0.heap.size + (p - 8)
def pw_tr (ad : Nat → Nat) : Value → Value
  | .ref p => .ref (ad p)
  | v => v
def pw_at (s0 : State) (D : va_G) (ad : Nat → Nat) (H : Heap) (p : Nat) : pm_E → Prop
  | .inl (ty, n, f) => ∃ cell : Cell, H[ad p]? = some cell ∧ s0.isArrayOf cell ty ∧ cell.vm ≠ .unknown ∧ cell.slots.size = n ∧ (∀ j : Nat, j < n → cell.slots[j]? = some (pw_tr ad (f j))) ∧ (∀ C, ty = .object C → ∃ (k : Class) (comp : ClassId), s0.vm.classes[cell.cls]? = some k ∧ k.kind = .array comp (.object C) ∧ s0.vm.findClass C = some comp)
  | .inr (c, fs) => ∀ r : vw_C, vwCl[c]? = some r → t_OB (ad p) (D.1 c) r.2.2 (D.2 c) H (fun k => pw_tr ad (vp_V fs k))
def pw_W (s0 : State) (D : va_G) (ad : Nat → Nat) (H : Heap) (M : pm_M) : Prop := H.size = s0.heap.size + M.1 ∧ (∀ q : Nat, q < s0.heap.size → H[q]? = s0.heap[q]?) ∧ ∀ p : Nat, pw_at s0 D ad H p (M.2.2 p)
def pw_L (ad : Nat → Nat) (ls : Array Slot) (L : pm_L) : Prop := ls.size = L.length ∧ lv_wf ls ∧ ∀ (j : Nat) (v : Value), pm_get L j = some v → ls[j]? = some (.val (pw_tr ad v))
theorem pw_tr_cat (ad : Nat → Nat) (v : Value) : (pw_tr ad v).category = v.category := by cases v <;> rfl
theorem pw_tr_fits (ad : Nat → Nat) (ty : FieldType) (v : Value) : fits ty (pw_tr ad v) = fits ty v := by cases v <;> cases ty <;> rfl
theorem pw_tr_narrow (ad : Nat → Nat) (ty : FieldType) (v : Value) : narrow ty (pw_tr ad v) = pw_tr ad (narrow ty v) := by cases v <;> cases ty <;> rfl
theorem pw_tr_def (ad : Nat → Nat) (ty : FieldType) : pw_tr ad (defaultValue ty) = defaultValue ty := by cases ty <;> rfl
theorem pw_tr_I {ad : Nat → Nat} {v : Value} (h : pm_isI v = true) : ∃ x, v = .int x := by cases v <;> first | exact ⟨_, rfl⟩ | cases h
theorem pw_tr_J {ad : Nat → Nat} {v : Value} (h : pm_isJ v = true) : ∃ x, v = .long x := by cases v <;> first | exact ⟨_, rfl⟩ | cases h
theorem pw_tr_A {ad : Nat → Nat} {v : Value} (h : pm_isA v = true) : ∃ x, v = .ref x := by cases v <;> first | exact ⟨_, rfl⟩ | cases h
theorem pw_cs (ad : Nat → Nat) (st : List Value) : ((st.map (pw_tr ad)).map fun v => v.category).sum = pm_cs st := by
  unfold pm_cs
  rw [List.map_map]
  congr 1
  exact List.map_congr_left (fun v _ => pw_tr_cat ad v)
theorem pm_set_len : ∀ (L : pm_L) (i : Nat) (v : Value), (pm_set L i v).length = L.length
  | [], _, _ => rfl
  | _ :: t, 0, v => rfl
  | x :: t, 1, v => by simp [pm_set, pm_set_len t 0 v]
  | x :: t, i + 2, v => by simp [pm_set, pm_set_len t (i + 1) v]
/-- what a variable holds behind a store of one word -/
theorem pm_set_get : ∀ (L : pm_L) (i : Nat) (v : Value) (j : Nat) (w : Value), pm_get (pm_set L i v) j = some w → (j = i ∧ w = v ∧ i < L.length) ∨ (j ≠ i ∧ pm_get L j = some w ∧ ¬ (j + 1 = i ∧ w.category = 2))
  | [], _, _, j, w, h => by simp [pm_set, pm_get] at h
  | _ :: t, 0, v, j, w, h => by
    cases j with
    | zero => simp [pm_set, pm_get] at h; exact Or.inl ⟨rfl, h.symm, by simp⟩
    | succ j => exact Or.inr ⟨by omega, by simpa [pm_set, pm_get] using h, by omega⟩
  | x :: t, 1, v, j, w, h => by
    cases j with
    | zero =>
      refine Or.inr ⟨by omega, ?_, ?_⟩
      · simp only [pm_set, pm_get, List.getD_cons_zero] at h ⊢
        split at h
        · cases h
        · cases h
        · exact h
      · simp only [pm_set, pm_get, List.getD_cons_zero] at h
        split at h
        · cases h
        · cases h
        · rintro ⟨-, h2⟩
          rename_i hn1 hn2
          subst h
          cases w with
          | long x => exact hn1 x rfl
          | double x => exact hn2 x rfl
          | _ => simp [Value.category] at h2
    | succ j =>
      have h' : pm_get (pm_set t 0 v) j = some w := by simpa [pm_set, pm_get] using h
      rcases pm_set_get t 0 v j w h' with ⟨a, b, c⟩ | ⟨a, b, c⟩
      · exact Or.inl ⟨by omega, b, by simp; omega⟩
      · exact Or.inr ⟨by omega, by simpa [pm_get] using b, by omega⟩
  | x :: t, i + 2, v, j, w, h => by
    cases j with
    | zero => exact Or.inr ⟨by omega, by simpa [pm_set, pm_get] using h, by omega⟩
    | succ j =>
      have h' : pm_get (pm_set t (i + 1) v) j = some w := by simpa [pm_set, pm_get] using h
      rcases pm_set_get t (i + 1) v j w h' with ⟨a, b, c⟩ | ⟨a, b, c⟩
      · exact Or.inl ⟨by omega, b, by simp; omega⟩
      · exact Or.inr ⟨by omega, by simpa [pm_get] using b, by omega⟩
def pw_ps (ad : Nat → Nat) (L : pm_L) : List (Nat × Value) := (List.range L.length).filterMap (fun j => (pm_get L j).map (fun v => (j, pw_tr ad v)))
theorem pm_get_lt {L : pm_L} {j : Nat} {v : Value} (h : pm_get L j = some v) : j < L.length := by
  unfold pm_get at h
  by_cases hj : j < L.length
  · exact hj
  · rw [List.getD_eq_getElem?_getD, List.getElem?_eq_none (by omega)] at h
    cases h
theorem pw_ps_mem {ad : Nat → Nat} {L : pm_L} {q : Nat × Value} : q ∈ pw_ps ad L ↔ ∃ v, pm_get L q.1 = some v ∧ q.2 = pw_tr ad v := by
  unfold pw_ps
  rw [List.mem_filterMap]
  constructor
  · rintro ⟨j, -, h⟩
    cases hg : pm_get L j with
    | none => rw [hg] at h; cases h
    | some v =>
      rw [hg] at h
      cases h
      exact ⟨v, hg, rfl⟩
  · rintro ⟨v, h1, h2⟩
    refine ⟨q.1, List.mem_range.mpr (pm_get_lt h1), ?_⟩
    rw [h1]
    exact congrArg some (Prod.ext rfl h2.symm)
theorem pw_L.has {ad : Nat → Nat} {ls : Array Slot} {L : pm_L} (h : pw_L ad ls L) : lv_has ls L.length (pw_ps ad L) := by
  refine ⟨h.1, h.2.1, fun q hq => ?_⟩
  obtain ⟨v, h1, h2⟩ := pw_ps_mem.mp hq
  rw [h2]
  exact h.2.2 q.1 v h1
theorem pw_L.st {ad : Nat → Nat} {ls' : Array Slot} {L : pm_L} {i : Nat} {v : Value} (h : lv_has ls' L.length ((i, pw_tr ad v) :: (pw_ps ad L).filter (fun q => !(q.1 == i) && !(q.1 + 1 == i && q.2.category == 2)))) : pw_L ad ls' (pm_set L i v) := by
  refine ⟨by rw [pm_set_len]; exact h.1, h.2.1, fun j w hw => ?_⟩
  rcases pm_set_get L i v j w hw with ⟨a, b, -⟩ | ⟨a, b, c⟩
  · subst a; subst b
    exact h.2.2 _ List.mem_cons_self
  · refine h.2.2 (j, pw_tr ad w) (List.mem_cons_of_mem _ (List.mem_filter.mpr ⟨pw_ps_mem.mpr ⟨w, b, rfl⟩, ?_⟩))
    simp only [pw_tr_cat]
    by_cases h1 : j + 1 = i
    · have h2 : ¬ w.category = 2 := fun z => c ⟨h1, z⟩
      simp [a, h2]
    · simp [a, h1]
/-- old places and new ones are apart -/
def pw_B (s0 : State) (B : Nat → Nat) : Prop := (∀ p, p < 8 → B p < s0.heap.size) ∧ ∀ p q, 1 ≤ p → p ≤ 4 → 1 ≤ q → q ≤ 4 → B p = B q → p = q
theorem pw_ad_ge {s0 : State} {B : Nat → Nat} {p : Nat} (h : 8 ≤ p) : pw_ad s0 B p = s0.heap.size + (p - 8) := by
  unfold pw_ad
  rw [if_neg (by omega)]
theorem pw_ad_ne {s0 : State} {B : Nat → Nat} (hB : pw_B s0 B) {p q : Nat} (hp : 8 ≤ p) (h : q ≠ p) : pw_ad s0 B q ≠ pw_ad s0 B p := by
  rw [pw_ad_ge hp]
  unfold pw_ad
  split
  · rename_i h1
    have := hB.1 q h1
    omega
  · omega
theorem pw_at.kept {s0 : State} {D : va_G} {ad : Nat → Nat} {H H1 : Heap} {p : Nat} {e : pm_E} (h : pw_at s0 D ad H p e) (hq : H1[ad p]? = H[ad p]?) : pw_at s0 D ad H1 p e := by
  rcases e with ⟨ty, n, f⟩ | ⟨c, fs⟩
  · obtain ⟨cell, h1, h2⟩ := h
    exact ⟨cell, by rw [hq]; exact h1, h2⟩
  · exact fun r hr => (h r hr).kept hq
theorem pw_at.keptN {s0 : State} {D : va_G} {ad : Nat → Nat} {H H1 : Heap} {p : Nat} {e : pm_E} (h : pw_at s0 D ad H p e) (hq : ∀ a, a < H.size → H1[a]? = H[a]?) : pw_at s0 D ad H1 p e := by
  rcases e with ⟨ty, n, f⟩ | ⟨c, fs⟩
  · obtain ⟨cell, h1, h2⟩ := h
    exact ⟨cell, by rw [hq _ (Array.getElem?_eq_some_iff.mp h1).1]; exact h1, h2⟩
  · intro r hr
    obtain ⟨cell, h1, h2⟩ := h r hr
    exact ⟨cell, by rw [hq _ (Array.getElem?_eq_some_iff.mp h1).1]; exact h1, h2⟩
/-- one cell is written -/
theorem pw_W.up {s0 : State} {D : va_G} {B : Nat → Nat} {H H1 : Heap} {M : pm_M} {p : Nat} {e : pm_E} (hB : pw_B s0 B) (h : pw_W s0 D (pw_ad s0 B) H M) (hp : 8 ≤ p) (hz : H1.size = H.size) (ho : ∀ q : Nat, q ≠ pw_ad s0 B p → H1[q]? = H[q]?) (he : pw_at s0 D (pw_ad s0 B) H1 p e) : pw_W s0 D (pw_ad s0 B) H1 (pm_up M p e) := by
  refine ⟨hz.trans h.1, fun q hq => (ho q ?_).trans (h.2.1 q hq), fun q => ?_⟩
  · rw [pw_ad_ge hp]; omega
  · show pw_at s0 D (pw_ad s0 B) H1 q (if q = p then e else M.2.2 q)
    by_cases hqp : q = p
    · subst hqp
      rw [if_pos rfl]
      exact he
    · rw [if_neg hqp]
      exact (h.2.2 q).kept (ho _ (pw_ad_ne hB hp hqp))
/-- one cell is made -/
theorem pw_W.mk {s0 : State} {D : va_G} {B : Nat → Nat} {H H1 : Heap} {M : pm_M} {n : Nat} {e : pm_E} (h : pw_W s0 D (pw_ad s0 B) H M) (hz : H1.size = H.size + 1) (ho : ∀ q : Nat, q < H.size → H1[q]? = H[q]?) (he : pw_at s0 D (pw_ad s0 B) H1 (8 + M.1) e) : pw_W s0 D (pw_ad s0 B) H1 (pm_mk M n e) := by
  refine ⟨by rw [hz, h.1]; rfl, fun q hq => (ho q (by rw [h.1]; omega)).trans (h.2.1 q hq), fun q => ?_⟩
  show pw_at s0 D (pw_ad s0 B) H1 q (if q = 8 + M.1 then e else M.2.2 q)
  by_cases hqp : q = 8 + M.1
  · subst hqp
    rw [if_pos rfl]
    exact he
  · rw [if_neg hqp]
    exact (h.2.2 q).keptN ho
theorem pw_ad_new {s0 : State} {D : va_G} {B : Nat → Nat} {H : Heap} {M : pm_M} (h : pw_W s0 D (pw_ad s0 B) H M) : pw_ad s0 B (8 + M.1) = H.size := by
  rw [pw_ad_ge (by omega), h.1]
  omega
/-! words at the start, and later -/
theorem pw_wd {s0 s : State} {w : Cond} {args : Array Value} (hW : s0.WarmedH s.vm) (hg : goodWord w = true) (h : w.before #[] s0 = true) : w.before args s = true := word_at hW (good_of_word hg) h
theorem pw_wdF {s0 s : State} {args : Array Value} {a : String} {i : Nat} {b n d h : String} (hW : s0.WarmedH s.vm) (hz : (Cond.fieldLinkNest a i b n d h).before #[] s0 = true) : (Cond.fieldLinkNest a i b n d h).before args s = true := (va_Nw.warmF hW hz).use rfl
theorem pw_wdM {s0 s : State} {args : Array Value} {a : String} {i : Nat} {x : MethodName} {h : String} (hW : s0.WarmedH s.vm) (hz : (Cond.methodLinkNest a i x h).before #[] s0 = true) : (Cond.methodLinkNest a i x h).before args s = true := (va_Nw.warmM hW hz).use rfl
theorem pw_wdA {s0 s : State} {args : Array Value} {C : String} (hW : s0.WarmedH s.vm) (hz : (Cond.arrayOver (.object C)).before #[] s0 = true) : (Cond.arrayOver (.object C)).before args s = true := (va_AO.moved hW.alike (va_AO.of hz)).use
def pw_U (s0 : State) : Prop := ∀ (c : Nat) (r : vw_C), vwCl[c]? = some r → ∀ w ∈ u_ws r.1 r.2.1 r.2.2, w.before #[] s0 = true
theorem pw_U.ws {s0 s : State} {args : Array Value} (h : pw_U s0) (hW : s0.WarmedH s.vm) {c : Nat} {r : vw_C} (hr : vwCl[c]? = some r) : ∀ w ∈ u_ws r.1 r.2.1 r.2.2, w.before args s = true := by
  intro w hw
  refine pw_wd hW ?_ (h c r hr w hw)
  obtain ⟨k, -, rfl⟩ := List.mem_map.mp hw
  unfold u_lay
  split <;> rfl
/-- the field b of the class a, as the method's own class links it at idx -/
def pw_fl (s0 : State) (own : String) (idx a b : Nat) : Prop := ∃ r : vw_C, vwCl[a]? = some r ∧ b < r.2.2 ∧ parseFieldDescriptor (r.2.1 b).2.2.1 = some (tb_ft a b) ∧ ((Cond.fieldLink own idx (r.2.1 b).1 (r.2.1 b).2.1 (r.2.1 b).2.2.1).before #[] s0 = true ∨ ∃ host, (Cond.fieldLinkNest own idx (r.2.1 b).1 (r.2.1 b).2.1 (r.2.1 b).2.2.1 host).before #[] s0 = true)
def pw_nm : Prop := ∀ (c : Nat) (r : vw_C), vwCl[c]? = some r → (∀ k, k < r.2.2 → parseFieldDescriptor (r.2.1 k).2.2.1 = some (tb_ft c k)) ∧ (∀ a, a < r.2.2 → ∀ b, b < r.2.2 → a ≠ b → (r.2.1 a).2.1 ≠ (r.2.1 b).2.1)
section PWR
variable {p : Program} {l : Launch} {e : Env} {R : Room} {s : State} {m : MethodId} {args : Array Value} {below : List Frame} {meth : Method} {c : Code} {H : Heap} {locs : List Loc} {cells slots : Nat} {Q : State → Prop} {pc : Nat} {ls : Array Slot} {rest : List Value} {s0 : State} {D : va_G} {B : Nat → Nat} {M : pm_M} {cc : ByteArray} {own : String} {idx a b : Nat}
theorem pw_get (hx : p.tables.exec = Jvm.exec) (hb : c.code = cc) (hW0 : s0.WarmedH s.vm) (hK : va_K D vwCl [] s0) (hU : pw_U s0) (hown : s.vm.findClass own = some m.cls) (hf : pw_fl s0 own idx a b) (hdg : decode cc pc = .ok (.getfield idx, 3)) (hW : pw_W s0 D (pw_ad s0 B) H M) {q : Nat} {fs : List Value} (hM : M.2.2 q = .inr (a, fs)) {x : Value} (hv : fs[b]? = some x)
    (kk : W p l e R s m args below meth c H locs cells slots Q (F0 m (pc + 3) ls (pw_tr (pw_ad s0 B) x :: rest))) : W p l e R s m args below meth c H locs cells slots Q (F0 m pc ls (.ref (pw_ad s0 B q) :: rest)) := by
  obtain ⟨r, hr, hbl, -, hlk⟩ := hf
  have hK' := va_K.moved hW0.alike hK
  have h1 := hW.2.2 q
  rw [hM] at h1
  obtain ⟨cell, q1, q2, q3, q4⟩ := h1 r hr
  obtain ⟨hS, hfc, kC, hkC, hkind⟩ := hK'.1 a _ hr
  obtain ⟨cf, kf, fi, f, hi, hsl⟩ := hS b hbl
  have hst := (u_facts (args := args) hfc hkC (u_lays (hU.ws hW0 hr) (fun _ h => h) hbl) hi).1
  have hslot : cell.slots[f.slot]? = some (pw_tr (pw_ad s0 B) x) := by
    rw [hsl, q4 b hbl]
    simp [vp_V, hv]
  rcases hlk with hl | ⟨host, hl⟩
  · exact W.getf hx hb hown (pw_wd hW0 rfl hl) hi hst q1 (by rw [q3]; exact fun h => by cases h) (v := pw_tr (pw_ad s0 B) x) hslot rfl rfl hdg kk
  · exact va_Wgetf hx hb hown (pw_wdF hW0 hl) hi hst q1 (by rw [q3]; exact fun h => by cases h) (v := pw_tr (pw_ad s0 B) x) hslot rfl rfl hdg kk
theorem pw_put (hx : p.tables.exec = Jvm.exec) (hb : c.code = cc) (hW0 : s0.WarmedH s.vm) (hB : pw_B s0 B) (hK : va_K D vwCl [] s0) (hU : pw_U s0) (hN : pw_nm) (hown : s.vm.findClass own = some m.cls) (hf : pw_fl s0 own idx a b) (hfin : ∀ r : vw_C, vwCl[a]? = some r → (r.2.1 b).2.2.2 = false ∨ (meth.name = "<init>" ∧ (r.2.1 b).1 = own)) (hdg : decode cc pc = .ok (.putfield idx, 3)) (hW : pw_W s0 D (pw_ad s0 B) H M) {q : Nat} (hq : 8 ≤ q) {fs : List Value} (hM : M.2.2 q = .inr (a, fs)) {x : Value} (hl : b < fs.length) (hn : narrow (tb_ft a b) x = x) (hv : fits (tb_ft a b) x = true) (hlc : ∀ y ∈ locs, s0.heap.size ≤ y.base)
    (kk : ∀ (H1 : Heap) (locs1 : List Loc), pw_W s0 D (pw_ad s0 B) H1 (pm_up M q (.inr (a, fs.set b x))) → (∀ y ∈ locs1, s0.heap.size ≤ y.base) → W p l e R s m args below meth c H1 locs1 cells slots Q (F0 m (pc + 3) ls rest)) : W p l e R s m args below meth c H locs cells slots Q (F0 m pc ls (pw_tr (pw_ad s0 B) x :: .ref (pw_ad s0 B q) :: rest)) := by
  obtain ⟨r, hr, hbl, hd, hlk⟩ := hf
  obtain ⟨hty, hnm⟩ := hN a r hr
  have hK' := va_K.moved hW0.alike hK
  have hws : ∀ w ∈ u_ws r.1 r.2.1 r.2.2, w.before args s = true := hU.ws hW0 hr
  have h1 := hW.2.2 q
  rw [hM] at h1
  obtain ⟨cell, q1, q2, q3, q4⟩ := h1 r hr
  obtain ⟨hS, hfc, kC, hkC, hkind⟩ := hK'.1 a _ hr
  obtain ⟨cf, kf, fi, f, hi, hsl⟩ := hS b hbl
  have hap := va_apart (own := own) (D := D) (cl := vwCl) (tys := []) (ci := a) hws (fun _ h => h) (tb_ft a) hty hnm hK' hr
  have hst := (u_facts (args := args) hfc hkC (u_lays hws (fun _ h => h) hbl) hi).1
  have hn' : narrow (tb_ft a b) (pw_tr (pw_ad s0 B) x) = pw_tr (pw_ad s0 B) x := by rw [pw_tr_narrow, hn]
  have hv' : fits (tb_ft a b) (pw_tr (pw_ad s0 B) x) = true := by rw [pw_tr_fits, hv]
  have hfit := u_fits (args := args) hfc hkC hkind (u_lays hws (fun _ h => h) hbl) hi hd hn' hv'
  have hlay := hws _ (u_in_lay hbl)
  have hfl : hasFlag f.accessFlags Acc.final = false ∨ (m.cls = cf ∧ meth.name = "<init>") := by
    rcases hfin r hr with h | ⟨h, h2⟩
    · unfold u_lay at hlay
      rw [if_neg (by rw [h]; decide)] at hlay
      exact Or.inl (u_store hfc hkC hkind hlay hi hd hn' hv').1
    · by_cases h3 : (r.2.1 b).2.2.2 = true
      · unfold u_lay at hlay
        rw [if_pos h3] at hlay
        obtain ⟨_, _, c', _, _, _, -, -, hf', -, -, -, hown2, -⟩ := Cond.laysFinal_spec hlay
        have e1 : c' = cf := by have := hi.symm.trans hf'; simp at this; exact this.1.symm
        rw [h2] at hown2
        exact Or.inr ⟨by rw [← e1]; exact Option.some.inj (hown.symm.trans hown2), h⟩
      · unfold u_lay at hlay
        rw [if_neg h3] at hlay
        exact Or.inl (u_store hfc hkC hkind hlay hi hd hn' hv').1
  have hlt : f.slot < cell.slots.size := by rw [hsl]; exact k2_hasslot (q4 b hbl)
  have ha : pw_ad s0 B q < H.size := (Array.getElem?_eq_some_iff.mp q1).1
  have key : W p l e R s m args below meth c (H.setIfInBounds (pw_ad s0 B q) (cell.setSlot f.slot (pw_tr (pw_ad s0 B) x))) (locs ++ [⟨pw_ad s0 B q, f.slot⟩]) cells slots Q (F0 m (pc + 3) ls rest) := by
    refine kk _ _ (hW.up hB hq (by simp) (fun y hy => by simp [Array.getElem?_setIfInBounds, Ne.symm hy]) ?_) ?_
    · intro r' hr'
      cases hr.symm.trans hr'
      refine t_OB.to (V := updV (fun k => pw_tr (pw_ad s0 B) (vp_V fs k)) b (pw_tr (pw_ad s0 B) x)) ⟨cell.setSlot f.slot (pw_tr (pw_ad s0 B) x), by simp [Array.getElem?_setIfInBounds, ha], q2, q3, ?_⟩ (fun j _ => ?_)
      · rw [hsl]
        exact t_set q4 hap hbl _
      · rw [← vp_updV_set hl x j]
        unfold updV
        split <;> rfl
    · intro y hy
      rcases List.mem_append.mp hy with h | h
      · exact hlc y h
      · rw [List.mem_singleton.mp h, pw_ad_ge hq]
        exact Nat.le_add_right _ _
  rcases hlk with hl' | ⟨host, hl'⟩
  · exact W.putf hx hb hown (pw_wd hW0 rfl hl') hi hst hfl q1 (by rw [q3]; exact fun h => by cases h) hlt hfit.1 (by rw [q3, q2]; exact hfit.2) rfl rfl hdg key
  · exact va_Wputf hx hb hown (pw_wdF hW0 hl') hi hst hfl q1 (by rw [q3]; exact fun h => by cases h) hlt hfit.1 (by rw [q3, q2]; exact hfit.2) rfl rfl hdg key
/-- an array's cell, as the rows want it -/
theorem pw_arr (hW0 : s0.WarmedH s.vm) (hW : pw_W s0 D (pw_ad s0 B) H M) {q n : Nat} {ty : FieldType} {f : Nat → Value} (hM : M.2.2 q = .inl (ty, n, f)) : ∃ cell : Cell, H[pw_ad s0 B q]? = some cell ∧ s.isArrayOf cell ty ∧ cell.vm ≠ .unknown ∧ cell.slots.size = n ∧ (∀ j : Nat, j < n → cell.slots[j]? = some (pw_tr (pw_ad s0 B) (f j))) ∧ s0.isArrayOf cell ty ∧ (∀ C, ty = .object C → ∃ (k : Class) (comp : ClassId), s0.vm.classes[cell.cls]? = some k ∧ k.kind = .array comp (.object C) ∧ s0.vm.findClass C = some comp) := by
  have h1 := hW.2.2 q
  rw [hM] at h1
  obtain ⟨cell, h2, h3, h4, h5, h6, h7⟩ := h1
  exact ⟨cell, h2, State.isArrayOf_alike hW0.alike h3, h4, h5, h6, h3, h7⟩
/-- an element is written -/
theorem pw_arrS (hB : pw_B s0 B) (hW : pw_W s0 D (pw_ad s0 B) H M) {q n j : Nat} (hq : 8 ≤ q) {ty : FieldType} {f : Nat → Value} {v : Value} {cell : Cell} (h1 : H[pw_ad s0 B q]? = some cell) (h2 : s0.isArrayOf cell ty) (h3 : cell.vm ≠ .unknown) (h4 : cell.slots.size = n) (h5 : ∀ j : Nat, j < n → cell.slots[j]? = some (pw_tr (pw_ad s0 B) (f j))) (h6 : ∀ C, ty = .object C → ∃ (k : Class) (comp : ClassId), s0.vm.classes[cell.cls]? = some k ∧ k.kind = .array comp (.object C) ∧ s0.vm.findClass C = some comp) {H1 : Heap} (e1 : H1[pw_ad s0 B q]? = some (cell.setSlot j (pw_tr (pw_ad s0 B) v))) (e2 : H1.size = H.size) (e3 : ∀ y, y ≠ pw_ad s0 B q → H1[y]? = H[y]?) : pw_W s0 D (pw_ad s0 B) H1 (pm_up M q (.inl (ty, n, pm_uv f j v))) := by
  refine hW.up hB hq e2 e3 ⟨_, e1, h2, h3, by simp [Cell.setSlot, h4], fun k hk => ?_, h6⟩
  show (cell.slots.setIfInBounds j _)[k]? = some (pw_tr _ (if k = j then v else f k))
  rw [Array.getElem?_setIfInBounds]
  by_cases hkj : j = k
  · subst hkj
    rw [if_pos rfl, if_pos rfl, if_pos (by omega)]
  · rw [if_neg hkj, if_neg (Ne.symm hkj)]
    exact h5 k hk
theorem pw_lc1 {a1 : Nat} {i1 : Nat} (hlc : ∀ y ∈ locs, s0.heap.size ≤ y.base) (h : s0.heap.size ≤ a1) : ∀ y ∈ locs ++ [⟨a1, i1⟩], s0.heap.size ≤ y.base := by
  intro y hy
  rcases List.mem_append.mp hy with h1 | h1
  · exact hlc y h1
  · rw [List.mem_singleton.mp h1]
    exact h
theorem pw_int {v : Value} (h : fits .int v = true) : ∃ x, v = .int x := by cases v <;> first | exact ⟨_, rfl⟩ | cases h
theorem pw_pairs (at_ : Nat) : ∀ (xs : List Value) (i : Nat) (cl : Cell), ((cl.storePairs at_ (xs.zipIdx i)).cls = cl.cls ∧ (cl.storePairs at_ (xs.zipIdx i)).vm = cl.vm ∧ (cl.storePairs at_ (xs.zipIdx i)).slots.size = cl.slots.size) ∧ ∀ k, k < cl.slots.size → (cl.storePairs at_ (xs.zipIdx i)).slots[k]? = if at_ + i ≤ k ∧ k < at_ + i + xs.length then some (xs.getD (k - (at_ + i)) .null) else cl.slots[k]?
  | [], i, cl => by
    refine ⟨⟨rfl, rfl, rfl⟩, fun k hk => ?_⟩
    rw [if_neg (by simp only [List.length_nil]; omega)]
    rfl
  | x :: xs, i, cl => by
    rw [List.zipIdx_cons]
    show (((cl.setSlot (at_ + i) x).storePairs at_ (xs.zipIdx (i + 1))).cls = cl.cls ∧ ((cl.setSlot (at_ + i) x).storePairs at_ (xs.zipIdx (i + 1))).vm = cl.vm ∧ ((cl.setSlot (at_ + i) x).storePairs at_ (xs.zipIdx (i + 1))).slots.size = cl.slots.size) ∧ ∀ k, k < cl.slots.size → ((cl.setSlot (at_ + i) x).storePairs at_ (xs.zipIdx (i + 1))).slots[k]? = _
    obtain ⟨⟨h1, h2, h3⟩, h4⟩ := pw_pairs at_ xs (i + 1) (cl.setSlot (at_ + i) x)
    have hz : (cl.setSlot (at_ + i) x).slots.size = cl.slots.size := by simp [Cell.setSlot]
    refine ⟨⟨h1, h2, h3.trans hz⟩, fun k hk => ?_⟩
    rw [h4 k (by omega)]
    by_cases hki : k = at_ + i
    · subst hki
      rw [if_neg (by omega), if_pos (by simp only [List.length_cons]; omega)]
      simp [Cell.setSlot, hk]
    · by_cases h : at_ + (i + 1) ≤ k ∧ k < at_ + (i + 1) + xs.length
      · rw [if_pos h, if_pos (by simp only [List.length_cons]; omega)]
        rw [show k - (at_ + i) = (k - (at_ + (i + 1))) + 1 by omega, List.getD_cons_succ]
      · rw [if_neg h, if_neg (by simp only [List.length_cons]; omega)]
        simp [Cell.setSlot, Array.getElem?_setIfInBounds, Ne.symm hki]
theorem pw_copied {cs cd : Cell} {ad : Nat → Nat} {f g : Nat → Value} {n0 n1 sp dp n : Nat} (hs : ∀ j : Nat, j < n0 → cs.slots[j]? = some (pw_tr ad (f j))) (hd : ∀ j : Nat, j < n1 → cd.slots[j]? = some (pw_tr ad (g j))) (hz : cd.slots.size = n1) (h : sp + n ≤ n0) : ((cd.storeRun dp (cs.stretch sp n)).cls = cd.cls ∧ (cd.storeRun dp (cs.stretch sp n)).vm = cd.vm ∧ (cd.storeRun dp (cs.stretch sp n)).slots.size = n1) ∧ ∀ k, k < n1 → (cd.storeRun dp (cs.stretch sp n)).slots[k]? = some (pw_tr ad (va_cpy f g sp dp n k)) := by
  have e : cs.stretch sp n = (List.range n).map (fun i => pw_tr ad (f (sp + i))) := by
    unfold Cell.stretch
    apply List.map_congr_left
    intro i hi
    have hi' := List.mem_range.mp hi
    rw [Array.getD_eq_getD_getElem?, hs _ (by omega)]
    rfl
  rw [e, Cell.storeRun]
  obtain ⟨⟨h1, h2, h3⟩, h4⟩ := pw_pairs dp ((List.range n).map (fun i => pw_tr ad (f (sp + i)))) 0 cd
  refine ⟨⟨h1, h2, h3.trans hz⟩, fun k hk => ?_⟩
  rw [h4 k (by omega)]
  simp only [va_cpy, List.length_map, List.length_range, Nat.add_zero]
  by_cases h9 : dp ≤ k ∧ k < dp + n
  · rw [if_pos h9, if_pos h9, List.getD_eq_getElem?_getD, List.getElem?_map, List.getElem?_range (by omega)]
    rfl
  · rw [if_neg h9, if_neg h9]
    exact hd k hk
theorem pw_copy (hx : p.tables.exec = Jvm.exec) (hb : c.code = cc) (hml : c.maxLocals = ls.size) (hW0 : s0.WarmedH s.vm) (hB : pw_B s0 B) (hown : s.vm.findClass own = some m.cls) (hlink : (Cond.methodLink own idx arraycopyName).before args s = true) (hnat : (Cond.native arraycopyName).before args s = true) (hstat : (Cond.static arraycopyName).before args s = true) (hini : (Cond.initialized "java/lang/System").before args s = true) (hW : pw_W s0 D (pw_ad s0 B) H M) {q0 q1 n0 n1 : Nat} {f g : Nat → Value} (hM0 : M.2.2 q0 = .inl (.int, n0, f)) (hM1 : M.2.2 q1 = .inl (.int, n1, g)) (hq : 8 ≤ q1)
    {sp dp n : Int32} (h1 : ¬ sp < 0) (h2 : ¬ dp < 0) (h3 : ¬ n < 0) (h4 : sp.toNatClampNeg + n.toNatClampNeg ≤ n0) (h5 : dp.toNatClampNeg + n.toNatClampNeg ≤ n1) (h6 : ∀ k, k < n.toNatClampNeg → fits .int (f (sp.toNatClampNeg + k)) = true) (hlc : ∀ y ∈ locs, s0.heap.size ≤ y.base)
    (hframes : 1 ≤ R.frames) (hlocals : (rest.map fun v => v.category).sum + (nativeFrameWords "java/lang/System" "arraycopy" 5 + 11) ≤ R.locals) (hdg : decode cc pc = .ok (.invokestatic idx, 3))
    (kk : ∀ (H1 : Heap) (locs1 : List Loc), pw_W s0 D (pw_ad s0 B) H1 (pm_up M q1 (.inl (.int, n1, va_cpy f g sp.toNatClampNeg dp.toNatClampNeg n.toNatClampNeg))) → (∀ y ∈ locs1, s0.heap.size ≤ y.base) → W p l e R s m args below meth c H1 locs1 cells slots Q (F0 m (pc + 3) ls rest)) : W p l e R s m args below meth c H locs cells slots Q (F0 m pc ls (.int n :: .int dp :: .ref (pw_ad s0 B q1) :: .int sp :: .ref (pw_ad s0 B q0) :: rest)) := by
  have nn : ∀ z : Int32, ¬ z < 0 → z.toInt = (z.toNatClampNeg : Int) := by
    intro z hz
    have hz0 : (0 : Int) ≤ z.toInt := by
      have := Int32.not_lt.mp hz
      simpa using Int32.le_iff_toInt_le.mp this
    show z.toInt = ((z.toInt.toNat : Nat) : Int)
    omega
  intro T hT X
  obtain ⟨cs, a1, a2, a3, a4, a5, -⟩ := pw_arr hW0 hW hM0
  obtain ⟨cd, b1, b2, b3, b4, b5, b6, b7⟩ := pw_arr hW0 hW hM1
  obtain ⟨a21, k0, hk0, cm0, hkk0⟩ := a2
  obtain ⟨b21, k1, hk1, cm1, hkk1⟩ := b2
  obtain ⟨vm', X', step⟩ := X.arraycopy hx hown hlink hnat hstat hini (src := pw_ad s0 B q0) (dst := pw_ad s0 B q1) (cs := cs) (cd := cd) (srcPos := sp) (destPos := dp) (n := n) (by rw [hT]; exact a1) (by rw [hT]; exact b1)
    a21 b21 a3 b3 hk0 hk1 hkk0 hkk1 (by simp [refKind]) h1 h2 h3
    (by rw [nn sp h1, nn n h3, a4]; omega)
    (by rw [nn dp h2, nn n h3, b4]; omega)
    (fun vm₁ _ i hi => by
      have e : cs.slots.getD (sp.toNatClampNeg + i) .null = pw_tr (pw_ad s0 B) (f (sp.toNatClampNeg + i)) := by
        rw [Array.getD_eq_getD_getElem?, a5 _ (by omega)]
        rfl
      obtain ⟨x, hx9⟩ := pw_int (h6 i hi)
      rw [hx9] at e
      refine ⟨?_, ?_⟩
      · rw [e]
        rfl
      · rw [e]
        exact trivial)
    (g := F0 m pc ls (.int n :: .int dp :: .ref (pw_ad s0 B q1) :: .int sp :: .ref (pw_ad s0 B q0) :: rest)) rfl (by rw [hml]) (rest := rest) rfl (by rw [hb]; exact hdg) hframes (by show 2 * 0 + _ + _ ≤ _; omega)
  obtain ⟨⟨c1, c2, c3⟩, c4⟩ := pw_copied (dp := dp.toNatClampNeg) a5 b5 b4 h4
  have hl : pw_ad s0 B q1 < H.size := (Array.getElem?_eq_some_iff.mp b1).1
  have hheap : ((T.setVm vm').setCell (pw_ad s0 B q1) (copied cs cd sp dp n)).heap = H.setIfInBounds (pw_ad s0 B q1) (copied cs cd sp dp n) := by rw [← hT]; rfl
  have oq : ∀ q : Nat, q ≠ pw_ad s0 B q1 → (H.setIfInBounds (pw_ad s0 B q1) (copied cs cd sp dp n))[q]? = H[q]? := fun q hq => by simp [Array.getElem?_setIfInBounds, Ne.symm hq]
  have he : pw_at s0 D (pw_ad s0 B) (H.setIfInBounds (pw_ad s0 B q1) (copied cs cd sp dp n)) q1 (.inl (.int, n1, va_cpy f g sp.toNatClampNeg dp.toNatClampNeg n.toNatClampNeg)) := by
    refine ⟨copied cs cd sp dp n, by simp [Array.getElem?_setIfInBounds, hl], ?_, ?_, c3, c4, fun C hC => by cases hC⟩
    · obtain ⟨b61, kd, hkd, cm, hkk⟩ := b6
      exact ⟨fun k => by show (cd.storeRun _ _).vm ≠ _; rw [c2]; exact b61 k, kd, by show s0.vm.classes[(cd.storeRun _ _).cls]? = _; rw [c1]; exact hkd, cm, hkk⟩
    · show (cd.storeRun _ _).vm ≠ _
      rw [c2]
      exact b3
  obtain ⟨t, t1, t2⟩ := kk _ _ (hW.up hB hq (by simp) oq he) (fun y hy => by
      rcases List.mem_append.mp hy with h | h
      · exact hlc y h
      · obtain ⟨z, -, hz⟩ := List.mem_map.mp h
        rw [← hz]
        show _ ≤ pw_ad s0 B q1
        rw [pw_ad_ge hq]
        exact Nat.le_add_right _ _) _ hheap X'
  exact ⟨t, step t t1, t2⟩
end PWR
end
section
/-! Each instruction of the pure machine that goes on in its frame is the machine's. -/
def pk_len (b : Nat) : Instr → Nat
  | .bipush _ => 2
  | .sipush _ => 3
  | .ldc2_w _ => 3
  | .iload _ => 2
  | .aload _ => 2
  | .istore _ => 2
  | .astore _ => 2
  | .iinc _ _ => 3
  | .goto _ => 3
  | .ifCond _ _ => 3
  | .if_icmp _ _ => 3
  | .if_acmp _ _ => 3
  | .tableswitch _ _ _ _ => b
  | .getfield _ => 3
  | .putfield _ => 3
  | .getstatic _ => 3
  | .new _ => 3
  | .newarray _ => 2
  | .anewarray _ => 3
  | .invokespecial _ => 3
  | .invokestatic _ => 3
  | .invokevirtual _ => 3
  | _ => 1
/-- what the tables say of an instruction that goes on in its frame -/
def pk_w (s0 : State) (B : Nat → Nat) (i pc : Nat) (ins : Instr) (a b : Nat) (v : Int32) (ts : List Nat) : Prop := match ins with
  | .iconst n => Int32.ofInt n = v
  | .bipush n => (Int8.ofInt n).toInt32 = v
  | .sipush n => (Int16.ofInt n).toInt32 = v
  | .iinc _ n => Int32.ofInt n = v
  | .ldc2_w idx => (Cond.constantLong (tb_nm i).cls idx (Int64.ofNat a)).before #[] s0 = true
  | .goto off => (pc : Int) + off = (a : Int)
  | .ifCond _ off => (pc : Int) + off = (a : Int)
  | .if_icmp _ off => (pc : Int) + off = (a : Int)
  | .if_acmp _ off => (pc : Int) + off = (a : Int)
  | .tableswitch d lo hi offs => lo = 0 ∧ hi + 1 = (ts.length : Int) ∧ (pc : Int) + d = (a : Int) ∧ ∀ k, k < ts.length → ∃ off, offs[k]? = some off ∧ (pc : Int) + off = ((ts.getD k 0 : Nat) : Int)
  | .getfield idx => pw_fl s0 (tb_nm i).cls idx a b
  | .putfield idx => pw_fl s0 (tb_nm i).cls idx a b ∧ ∀ r : vw_C, vwCl[a]? = some r → (r.2.1 b).2.2.2 = false ∨ ((tb_nm i).name = "<init>" ∧ (r.2.1 b).1 = (tb_nm i).cls)
  | .getstatic idx => a < 8 ∧ ∃ C n d, va_Z C n d (.ref (B a)) (fun q => s0.heap.size ≤ q) s0 s0.heap ∧ (Cond.fieldLink (tb_nm i).cls idx C n d).before #[] s0 = true
  | .new idx => a < 1000 → ∃ r : vw_C, vwCl[a]? = some r ∧ (Cond.classLink (tb_nm i).cls idx r.1).before #[] s0 = true ∧ (Cond.instantiable r.1 r.2.2).before #[] s0 = true ∧ (Cond.initialized r.1).before #[] s0 = true ∧ (tb_df a).length = r.2.2 ∧ ∀ j, j < r.2.2 → defaultValue (tb_ft a j) = vp_V (tb_df a) j
  | .newarray t => (Cond.arrayClass (newarray.typeOf t)).before #[] s0 = true
  | .anewarray idx => (Cond.classLink (tb_nm i).cls idx (tb_cn a)).before #[] s0 = true ∧ (Cond.arrayOver (.object (tb_cn a))).before #[] s0 = true
  | .invokespecial idx => 1000 ≤ a → (Cond.methodLink (tb_nm i).cls idx Lib.objectInit).before #[] s0 = true ∧ (Cond.instanceMethod Lib.objectInit).before #[] s0 = true ∧ (Cond.code Lib.objectInit ⟨#[0xb1]⟩ 1 none).before #[] s0 = true
  | .invokestatic idx =>
    (a = 1001 → (Cond.methodLink (tb_nm i).cls idx Lib.Math.max.name).before #[] s0 = true ∧ (Cond.static Lib.Math.max.name).before #[] s0 = true ∧ (Cond.initialized "java/lang/Math").before #[] s0 = true ∧ (Cond.code Lib.Math.max.name Lib.Math.max.code 2 (some .int)).before #[] s0 = true) ∧
    (a = 1002 → (Cond.methodLink (tb_nm i).cls idx Lib.Math.min.name).before #[] s0 = true ∧ (Cond.static Lib.Math.min.name).before #[] s0 = true ∧ (Cond.initialized "java/lang/Math").before #[] s0 = true ∧ (Cond.code Lib.Math.min.name Lib.Math.min.code 2 (some .int)).before #[] s0 = true) ∧
    (1003 ≤ a → (Cond.methodLink (tb_nm i).cls idx arraycopyName).before #[] s0 = true ∧ (Cond.native arraycopyName).before #[] s0 = true ∧ (Cond.static arraycopyName).before #[] s0 = true ∧ (Cond.initialized "java/lang/System").before #[] s0 = true)
  | _ => True
/-- what holds of the method that is walked -/
def pw_C (s0 : State) (i : Nat) (p : Program) (s : State) (m : MethodId) (meth : Method) (c : Code) : Prop :=
  p.tables.exec = Jvm.exec ∧ c.code = tb_by i ∧ c.maxLocals = tb_mL i ∧ s.vm.findClass (tb_nm i).cls = some m.cls ∧ meth.sig.returnType = tb_re i ∧ meth.locks = false ∧ meth.name = (tb_nm i).name ∧ c.exceptionTable.toList = tableOf (tb_hh i) ∧ s0.WarmedH s.vm
def pw_G (s0 : State) (D : va_G) (B : Nat → Nat) : Prop := pw_B s0 B ∧ va_K D vwCl [] s0 ∧ pw_U s0 ∧ pw_nm ∧ ∀ (c : Nat) (r : vw_C), vwCl[c]? = some r → r.1 = tb_cn c
section PWN
variable {p : Program} {l : Launch} {e : Env} {R : Room} {s : State} {m : MethodId} {args : Array Value} {below : List Frame} {meth : Method} {c : Code} {H : Heap} {locs : List Loc} {Q : State → Prop} {pc : Nat} {ls : Array Slot} {s0 : State} {D : va_G} {B : Nat → Nat} {M : pm_M} {i a b : Nat} {v : Int32} {ts : List Nat} {ins : Instr} {L : pm_L} {st : List Value} {F : pm_F} {m0 k0 : Nat}
/-- an element is read -/
theorem pw_al {G : Prop} (hW0 : s0.WarmedH s.vm) (hW : pw_W s0 D (pw_ad s0 B) H M) {ok : FieldType → Bool} (h : pm_al M L st pc ok = some F)
    (row : ∀ (q : Nat) (j : Int32) (r : List Value) (ty : FieldType) (n : Nat) (f : Nat → Value) (cell : Cell), st = .int j :: .ref q :: r → ok ty = true → H[pw_ad s0 B q]? = some cell → s.isArrayOf cell ty → cell.vm ≠ .unknown → ¬ (j < 0 ∨ cell.slots.size ≤ j.toNatClampNeg) → cell.slots[j.toNatClampNeg]? = some (pw_tr (pw_ad s0 B) (f j.toNatClampNeg)) → F = (pc + 1, L, f j.toNatClampNeg :: r, M) → G) : G := by
  simp only [pm_al, pm_ir] at h
  split at h
  · rename_i j q r
    simp only [pm_arr] at h
    split at h
    · rename_i ty n f hM
      split at h
      · rename_i hc
        cases h
        obtain ⟨cell, h1, h2, h3, h4, h5, -⟩ := pw_arr hW0 hW hM
        have hlt : j.toNatClampNeg < n := Nat.not_le.mp fun q => hc.2 (Or.inr q)
        exact row q j r ty n f cell rfl hc.1 h1 h2 h3 (by rw [h4]; exact hc.2) (h5 _ hlt) rfl
      · cases h
    · cases h
  · cases h
/-- an element is written -/
theorem pw_as {G : Prop} (hW0 : s0.WarmedH s.vm) (hB : pw_B s0 B) (hW : pw_W s0 D (pw_ad s0 B) H M) {t : FieldType} {ok : Value → Bool} (h : pm_as M L st pc t ok = some F)
    (row : ∀ (q : Nat) (j : Int32) (x : Value) (r : List Value) (cell : Cell), st = x :: .int j :: .ref q :: r → ok x = true → s0.heap.size ≤ pw_ad s0 B q → H[pw_ad s0 B q]? = some cell → s.isArrayOf cell t → cell.vm ≠ .unknown → ¬ (j < 0 ∨ cell.slots.size ≤ j.toNatClampNeg) → F.1 = pc + 1 → F.2.1 = L → F.2.2.1 = r → F.2.2.2.1 = M.1 → F.2.2.2.2.1 = M.2.1 → (∀ H1 : Heap, H1[pw_ad s0 B q]? = some (cell.setSlot j.toNatClampNeg (narrow t (pw_tr (pw_ad s0 B) x))) → H1.size = H.size → (∀ y, y ≠ pw_ad s0 B q → H1[y]? = H[y]?) → pw_W s0 D (pw_ad s0 B) H1 F.2.2.2) → G) : G := by
  simp only [pm_as, pm_vir] at h
  split at h
  · rename_i x j q r
    simp only [pm_arr] at h
    split at h
    · rename_i ty n f hM
      split at h
      · rename_i hc
        obtain ⟨hc1, rfl, hc3, hc4⟩ := hc
        cases h
        obtain ⟨cell, h1, h2, h3, h4, h5, h6, h7⟩ := pw_arr hW0 hW hM
        exact row q j x r cell rfl hc1 (by rw [pw_ad_ge hc3]; exact Nat.le_add_right _ _) h1 h2 h3 (by rw [h4]; exact hc4) rfl rfl rfl rfl rfl (fun H1 e1 e2 e3 => pw_arrS hB hW hc3 h1 h6 h3 h4 h5 h7 (by rw [← pw_tr_narrow]; exact e1) e2 e3)
      · cases h
    · cases h
  · cases h
set_option maxHeartbeats 4000000 in
theorem pw_nx (hC : pw_C s0 i p s m meth c) (hG : pw_G s0 D B) (hd : decode (tb_by i) pc = .ok (ins, pk_len b ins)) (hw : pk_w s0 B i pc ins a b v ts) (h : pm_nx ins a b v ts pc L st M = some F) (hn1 : (∃ k, ins = .new k) → a < 1000) (hn2 : (∃ k, ins = .invokespecial k) → 1000 ≤ a) (hn3 : (∃ k, ins = .invokestatic k) → 1001 ≤ a) (hn4 : ((∃ k, ins = .invokespecial k) ∨ ∃ k, ins = .invokestatic k) → pm_cs st ≤ 12) (hLn : L.length = tb_mL i) (hL : pw_L (pw_ad s0 B) ls L) (hW : pw_W s0 D (pw_ad s0 B) H M) (hlc : ∀ y ∈ locs, s0.heap.size ≤ y.base) (hm : m0 ≤ M.1) (hk : k0 ≤ M.2.1) (hR : 4 ≤ R.frames ∧ 100 ≤ R.locals) (hc1 : F.2.2.2.1 - m0 ≤ R.cells) (hc2 : F.2.2.2.2.1 - k0 ≤ R.slots)
    (kk : ∀ (ls' : Array Slot) (H' : Heap) (locs' : List Loc), pw_L (pw_ad s0 B) ls' F.2.1 → F.2.1.length = tb_mL i → pw_W s0 D (pw_ad s0 B) H' F.2.2.2 → (∀ y ∈ locs', s0.heap.size ≤ y.base) → W p l e R s m args below meth c H' locs' (F.2.2.2.1 - m0) (F.2.2.2.2.1 - k0) Q (F0 m F.1 ls' (F.2.2.1.map (pw_tr (pw_ad s0 B))))) :
    W p l e R s m args below meth c H locs (M.1 - m0) (M.2.1 - k0) Q (F0 m pc ls (st.map (pw_tr (pw_ad s0 B)))) := by
  obtain ⟨hx, hb, hml, hown, hret, hlk, hname, htab, hW0⟩ := hC
  obtain ⟨hB, hK, hU, hN, hcn⟩ := hG
  cases ins with
  | iconst n =>
    cases h
    exact lv_iconst hx hb hd hw (kk ls H locs hL hLn hW hlc)
  | bipush n =>
    cases h
    exact lv_bipush hx hb hd hw (kk ls H locs hL hLn hW hlc)
  | sipush n =>
    cases h
    exact lv_sipush hx hb hd hw (kk ls H locs hL hLn hW hlc)
  | lconst n =>
    cases h
    exact lv_lconst hx hb hd rfl (kk ls H locs hL hLn hW hlc)
  | ldc2_w idx =>
    cases h
    exact lv_ldc2 hx hb hown (pw_wd hW0 rfl hw) hd (kk ls H locs hL hLn hW hlc)
  | iload_n k =>
    simp only [pm_nx, pm_ld] at h
    split at h
    · rename_i x hx1
      split at h
      · rename_i hI
        obtain ⟨y, rfl⟩ := pw_tr_I (ad := pw_ad s0 B) hI
        cases h
        exact lv_iload_n hx hb hd rfl (hL.2.2 _ _ hx1) (kk ls H locs hL hLn hW hlc)
      · cases h
    · cases h
  | iload k =>
    simp only [pm_nx, pm_ld] at h
    split at h
    · rename_i x hx1
      split at h
      · rename_i hI
        obtain ⟨y, rfl⟩ := pw_tr_I (ad := pw_ad s0 B) hI
        cases h
        exact lv_iload hx hb hd (hL.2.2 _ _ hx1) (kk ls H locs hL hLn hW hlc)
      · cases h
    · cases h
  | lload_n k =>
    simp only [pm_nx, pm_ld] at h
    split at h
    · rename_i x hx1
      split at h
      · rename_i hI
        obtain ⟨y, rfl⟩ := pw_tr_J (ad := pw_ad s0 B) hI
        cases h
        exact lv_lload_n hx hb hd rfl (hL.2.2 _ _ hx1) (kk ls H locs hL hLn hW hlc)
      · cases h
    · cases h
  | aload_n k =>
    simp only [pm_nx, pm_ld] at h
    split at h
    · rename_i x hx1
      split at h
      · rename_i hI
        obtain ⟨y, rfl⟩ := pw_tr_A (ad := pw_ad s0 B) hI
        cases h
        exact lv_aload_n hx hb hd rfl (hL.2.2 _ _ hx1) (kk ls H locs hL hLn hW hlc)
      · cases h
    · cases h
  | aload k =>
    simp only [pm_nx, pm_ld] at h
    split at h
    · rename_i x hx1
      split at h
      · rename_i hI
        obtain ⟨y, rfl⟩ := pw_tr_A (ad := pw_ad s0 B) hI
        cases h
        exact lv_aload hx hb hd (hL.2.2 _ _ hx1) (kk ls H locs hL hLn hW hlc)
      · cases h
    · cases h
  | istore_n k =>
    simp only [pm_nx, pm_v1] at h
    split at h
    · rename_i x r
      split at h
      · rename_i hI
        obtain ⟨y, rfl⟩ := pw_tr_I (ad := pw_ad s0 B) hI.1
        cases h
        exact lv_istore_n hx hb hd rfl hL.has hI.2 rfl (fun ls' h' => kk ls' H locs (pw_L.st h') (by rw [pm_set_len]; exact hLn) hW hlc)
      · cases h
    · cases h
  | istore k =>
    simp only [pm_nx, pm_v1] at h
    split at h
    · rename_i x r
      split at h
      · rename_i hI
        obtain ⟨y, rfl⟩ := pw_tr_I (ad := pw_ad s0 B) hI.1
        cases h
        exact lv_istore hx hb hd hL.has hI.2 rfl (fun ls' h' => kk ls' H locs (pw_L.st h') (by rw [pm_set_len]; exact hLn) hW hlc)
      · cases h
    · cases h
  | astore_n k =>
    simp only [pm_nx, pm_v1] at h
    split at h
    · rename_i x r
      split at h
      · rename_i hI
        obtain ⟨y, rfl⟩ := pw_tr_A (ad := pw_ad s0 B) hI.1
        cases h
        exact lv_astore_n hx hb hd rfl hL.has hI.2 rfl (fun ls' h' => kk ls' H locs (pw_L.st h') (by rw [pm_set_len]; exact hLn) hW hlc)
      · cases h
    · cases h
  | astore k =>
    simp only [pm_nx, pm_v1] at h
    split at h
    · rename_i x r
      split at h
      · rename_i hI
        obtain ⟨y, rfl⟩ := pw_tr_A (ad := pw_ad s0 B) hI.1
        cases h
        exact lv_astore hx hb hd hL.has hI.2 rfl (fun ls' h' => kk ls' H locs (pw_L.st h') (by rw [pm_set_len]; exact hLn) hW hlc)
      · cases h
    · cases h
  | iinc k n =>
    simp only [pm_nx, pm_ld] at h
    split at h
    · rename_i x0 hx1
      split at h
      · rename_i x
        split at h
        · rename_i hk9
          cases h
          obtain ⟨j, hj⟩ := List.getElem?_of_mem (pw_ps_mem (ad := pw_ad s0 B) (q := (k, .int x)).mpr ⟨_, hx1, rfl⟩)
          exact lv_iinc hx hb hd hL.has hj (by rw [hw]) hk9 rfl (fun ls' h' => kk ls' H locs (pw_L.st (v := .int (x + v)) h') (by rw [pm_set_len]; exact hLn) hW hlc)
        · cases h
      · cases h
    · cases h
  | iadd =>
    simp only [pm_nx, pm_i2] at h
    split at h
    · cases h
      exact lv_iadd hx hb hd (kk ls H locs hL hLn hW hlc)
    · cases h
  | isub =>
    simp only [pm_nx, pm_i2] at h
    split at h
    · cases h
      exact lv_isub hx hb hd (kk ls H locs hL hLn hW hlc)
    · cases h
  | imul =>
    simp only [pm_nx, pm_i2] at h
    split at h
    · cases h
      exact lv_imul hx hb hd (kk ls H locs hL hLn hW hlc)
    · cases h
  | iand =>
    simp only [pm_nx, pm_i2] at h
    split at h
    · cases h
      exact lv_iand hx hb hd (kk ls H locs hL hLn hW hlc)
    · cases h
  | idiv =>
    simp only [pm_nx, pm_i2] at h
    split at h
    · split at h
      · cases h
      · rename_i hne
        cases h
        exact lv_idiv hx hb hd hne (kk ls H locs hL hLn hW hlc)
    · cases h
  | irem =>
    simp only [pm_nx, pm_i2] at h
    split at h
    · split at h
      · cases h
      · rename_i hne
        cases h
        exact lv_irem hx hb hd hne (kk ls H locs hL hLn hW hlc)
    · cases h
  | i2l =>
    simp only [pm_nx, pm_i1] at h
    split at h
    · cases h
      exact lv_i2l hx hb hd rfl (kk ls H locs hL hLn hW hlc)
    · cases h
  | i2c =>
    simp only [pm_nx, pm_i1] at h
    split at h
    · cases h
      exact lv_i2c hx hb hd rfl (kk ls H locs hL hLn hW hlc)
    · cases h
  | l2i =>
    simp only [pm_nx, pm_l1] at h
    split at h
    · cases h
      exact lv_l2i hx hb hd rfl (kk ls H locs hL hLn hW hlc)
    · cases h
  | lcmp =>
    simp only [pm_nx, pm_l2] at h
    split at h
    · cases h
      exact W.lcmp hx hb hd (kk ls H locs hL hLn hW hlc)
    · cases h
  | land =>
    simp only [pm_nx, pm_l2] at h
    split at h
    · cases h
      exact lv_land hx hb hd (kk ls H locs hL hLn hW hlc)
    · cases h
  | lor =>
    simp only [pm_nx, pm_l2] at h
    split at h
    · cases h
      exact lv_lor hx hb hd (kk ls H locs hL hLn hW hlc)
    · cases h
  | lshl =>
    simp only [pm_nx, pm_li] at h
    split at h
    · cases h
      exact lv_lshl hx hb hd rfl (kk ls H locs hL hLn hW hlc)
    · cases h
  | lshr =>
    simp only [pm_nx, pm_li] at h
    split at h
    · cases h
      exact lv_lshr hx hb hd rfl (kk ls H locs hL hLn hW hlc)
    · cases h
  | lushr =>
    simp only [pm_nx, pm_li] at h
    split at h
    · cases h
      exact lv_lushr hx hb hd rfl (kk ls H locs hL hLn hW hlc)
    · cases h
  | dup =>
    simp only [pm_nx, pm_v1] at h
    split at h
    · split at h
      · rename_i hc9
        cases h
        exact lv_dup hx hb hd (by rw [pw_tr_cat]; exact hc9) (kk ls H locs hL hLn hW hlc)
      · cases h
    · cases h
  | pop =>
    simp only [pm_nx, pm_v1] at h
    split at h
    · split at h
      · rename_i hc9
        cases h
        exact lv_pop hx hb hd (by rw [pw_tr_cat]; exact hc9) (kk ls H locs hL hLn hW hlc)
      · cases h
    · cases h
  | goto off =>
    cases h
    exact lv_goto hx hb hd hw (kk ls H locs hL hLn hW hlc)
  | ifCond cnd off =>
    cases cnd with
    | eq =>
      simp only [pm_nx, pm_i1] at h
      split at h
      · cases h
        have k1 := kk ls H locs hL hLn hW hlc
        dsimp only at k1
        exact lv_if_eq hx hb hd hw (fun h0 => by rw [if_pos h0] at k1; exact k1) (fun h0 => by rw [if_neg h0] at k1; exact k1)
      · cases h
    | ne =>
      simp only [pm_nx, pm_i1] at h
      split at h
      · cases h
        have k1 := kk ls H locs hL hLn hW hlc
        dsimp only at k1
        exact lv_if_ne hx hb hd hw (fun h0 => by rw [if_neg h0] at k1; exact k1) (fun h0 => by rw [if_pos h0] at k1; exact k1)
      · cases h
    | lt =>
      simp only [pm_nx, pm_i1] at h
      split at h
      · cases h
        have k1 := kk ls H locs hL hLn hW hlc
        dsimp only at k1
        exact lv_if_lt hx hb hd hw (fun h0 => by rw [if_pos h0] at k1; exact k1) (fun h0 => by rw [if_neg h0] at k1; exact k1)
      · cases h
    | ge =>
      simp only [pm_nx, pm_i1] at h
      split at h
      · cases h
        have k1 := kk ls H locs hL hLn hW hlc
        dsimp only at k1
        exact lv_if_ge hx hb hd hw (fun h0 => by rw [if_pos h0] at k1; exact k1) (fun h0 => by rw [if_neg h0] at k1; exact k1)
      · cases h
    | gt =>
      simp only [pm_nx, pm_i1] at h
      split at h
      · cases h
        have k1 := kk ls H locs hL hLn hW hlc
        dsimp only at k1
        exact lv_if_gt hx hb hd hw (fun h0 => by rw [if_pos h0] at k1; exact k1) (fun h0 => by rw [if_neg h0] at k1; exact k1)
      · cases h
    | le =>
      simp only [pm_nx, pm_i1] at h
      split at h
      · cases h
        have k1 := kk ls H locs hL hLn hW hlc
        dsimp only at k1
        exact lv_if_le hx hb hd hw (fun h0 => by rw [if_pos h0] at k1; exact k1) (fun h0 => by rw [if_neg h0] at k1; exact k1)
      · cases h
  | if_icmp cnd off =>
    cases cnd with
    | eq =>
      simp only [pm_nx, pm_i2] at h
      split at h
      · cases h
        have k1 := kk ls H locs hL hLn hW hlc
        dsimp only at k1
        exact lv_icmp_eq hx hb hd hw (fun h0 => by rw [if_pos h0] at k1; exact k1) (fun h0 => by rw [if_neg h0] at k1; exact k1)
      · cases h
    | ne =>
      simp only [pm_nx, pm_i2] at h
      split at h
      · cases h
        have k1 := kk ls H locs hL hLn hW hlc
        dsimp only at k1
        exact lv_icmp_ne hx hb hd hw (fun h0 => by rw [if_neg h0] at k1; exact k1) (fun h0 => by rw [if_pos h0] at k1; exact k1)
      · cases h
    | lt =>
      simp only [pm_nx, pm_i2] at h
      split at h
      · cases h
        have k1 := kk ls H locs hL hLn hW hlc
        dsimp only at k1
        exact lv_icmp_lt hx hb hd hw (fun h0 => by rw [if_pos h0] at k1; exact k1) (fun h0 => by rw [if_neg h0] at k1; exact k1)
      · cases h
    | ge =>
      simp only [pm_nx, pm_i2] at h
      split at h
      · cases h
        have k1 := kk ls H locs hL hLn hW hlc
        dsimp only at k1
        exact lv_icmp_ge hx hb hd hw (fun h0 => by rw [if_pos h0] at k1; exact k1) (fun h0 => by rw [if_neg h0] at k1; exact k1)
      · cases h
    | gt =>
      simp only [pm_nx, pm_i2] at h
      split at h
      · cases h
        have k1 := kk ls H locs hL hLn hW hlc
        dsimp only at k1
        exact lv_icmp_gt hx hb hd hw (fun h0 => by rw [if_pos h0] at k1; exact k1) (fun h0 => by rw [if_neg h0] at k1; exact k1)
      · cases h
    | le =>
      simp only [pm_nx, pm_i2] at h
      split at h
      · cases h
        have k1 := kk ls H locs hL hLn hW hlc
        dsimp only at k1
        exact lv_icmp_le hx hb hd hw (fun h0 => by rw [if_pos h0] at k1; exact k1) (fun h0 => by rw [if_neg h0] at k1; exact k1)
      · cases h
  | if_acmp cnd off =>
    cases cnd with
    | eq =>
      simp only [pm_nx, pm_r2] at h
      split at h
      · rename_i y x r
        split at h
        · rename_i hxy
          cases h
          have k1 := kk ls H locs hL hLn hW hlc
          dsimp only at k1
          have inj : (some (pw_ad s0 B x) = some (pw_ad s0 B y)) ↔ x = y := by
            constructor
            · intro h9
              have h8 := Option.some.inj h9
              unfold pw_ad at h8
              rw [if_pos (by omega), if_pos (by omega)] at h8
              exact hB.2 x y hxy.1.1 hxy.1.2 hxy.2.1 hxy.2.2 h8
            · rintro rfl
              rfl
          exact lv_acmp_eq (rx := some (pw_ad s0 B x)) (ry := some (pw_ad s0 B y)) hx hb hd hw (fun h0 => by rw [if_pos (inj.mp h0)] at k1; exact k1) (fun h0 => by rw [if_neg (fun z => h0 (inj.mpr z))] at k1; exact k1)
        · cases h
      · cases h
    | ne =>
      simp only [pm_nx, pm_r2] at h
      split at h
      · rename_i y x r
        split at h
        · rename_i hxy
          cases h
          have k1 := kk ls H locs hL hLn hW hlc
          dsimp only at k1
          have inj : (some (pw_ad s0 B x) = some (pw_ad s0 B y)) ↔ x = y := by
            constructor
            · intro h9
              have h8 := Option.some.inj h9
              unfold pw_ad at h8
              rw [if_pos (by omega), if_pos (by omega)] at h8
              exact hB.2 x y hxy.1.1 hxy.1.2 hxy.2.1 hxy.2.2 h8
            · rintro rfl
              rfl
          exact lv_acmp_ne (rx := some (pw_ad s0 B x)) (ry := some (pw_ad s0 B y)) hx hb hd hw (fun h0 => by rw [if_neg (fun z => h0 (inj.mpr z))] at k1; exact k1) (fun h0 => by rw [if_pos (inj.mp h0)] at k1; exact k1)
        · cases h
      · cases h
  | tableswitch d lo hi offs =>
    simp only [pm_nx, pm_i1] at h
    split at h
    · rename_i x r
      cases h
      have k1 := kk ls H locs hL hLn hW hlc
      dsimp only at k1
      obtain ⟨h1, h2, h3, h4⟩ := hw
      subst h1
      by_cases h0 : x < 0 ∨ ts.length ≤ x.toNatClampNeg
      · rw [if_pos h0] at k1
        refine lv_tableOut hx hb hd ?_ h3 k1
        have h5 : x.toNatClampNeg = x.toInt.toNat := rfl
        by_cases h6 : x.toInt < 0
        · exact Or.inl h6
        · refine Or.inr ?_
          rcases h0 with h0 | h0
          · exact absurd (by simpa using Int32.lt_iff_toInt_lt.mp h0) h6
          · omega
      · rw [if_neg h0] at k1
        have hx0 : ¬ x.toInt < 0 := fun h9 => h0 (Or.inl (Int32.lt_iff_toInt_lt.mpr (by simpa using h9)))
        have h5 : x.toNatClampNeg = x.toInt.toNat := rfl
        have hlt : x.toNatClampNeg < ts.length := Nat.not_le.mp fun h9 => h0 (Or.inr h9)
        obtain ⟨off, ho, ht⟩ := h4 _ hlt
        exact lv_tableIn hx hb hd hx0 (by omega) (by rw [show (x.toInt - 0).toNat = x.toNatClampNeg by rw [h5]; simp]; exact ho) ht k1
    · cases h
  | iaload =>
    refine pw_al (s := s) hW0 hW h (fun q j r ty n f cell e1 e2 e3 e4 e5 e6 e7 e8 => ?_)
    subst e1; subst e8
    cases (beq_iff_eq.mp e2)
    exact W.iald hx hb e3 e4 e5 e6 e7 rfl rfl hd (kk ls H locs hL hLn hW hlc)
  | baload =>
    refine pw_al (s := s) hW0 hW h (fun q j r ty n f cell e1 e2 e3 e4 e5 e6 e7 e8 => ?_)
    subst e1; subst e8
    cases (beq_iff_eq.mp e2)
    exact W.zald hx hb e3 e4 e5 e6 e7 rfl rfl hd (kk ls H locs hL hLn hW hlc)
  | caload =>
    refine pw_al (s := s) hW0 hW h (fun q j r ty n f cell e1 e2 e3 e4 e5 e6 e7 e8 => ?_)
    subst e1; subst e8
    cases (beq_iff_eq.mp e2)
    exact W.cald hx hb e3 e4 e5 e6 e7 rfl rfl hd (kk ls H locs hL hLn hW hlc)
  | laload =>
    refine pw_al (s := s) hW0 hW h (fun q j r ty n f cell e1 e2 e3 e4 e5 e6 e7 e8 => ?_)
    subst e1; subst e8
    cases (beq_iff_eq.mp e2)
    exact W.lald hx hb e3 e4 e5 e6 e7 rfl rfl hd (kk ls H locs hL hLn hW hlc)
  | aaload =>
    refine pw_al (s := s) hW0 hW h (fun q j r ty n f cell e1 e2 e3 e4 e5 e6 e7 e8 => ?_)
    subst e1; subst e8
    exact W.aald hx hb e3 e4 (by cases ty <;> first | rfl | cases e2) e5 e6 e7 rfl rfl hd (kk ls H locs hL hLn hW hlc)
  | iastore =>
    refine pw_as (s := s) hW0 hB hW h (fun q j x r cell e1 e2 e3 e4 e5 e6 e7 f1 f2 f3 f4 f5 f6 => ?_)
    subst e1
    obtain ⟨y, rfl⟩ := pw_tr_I (ad := pw_ad s0 B) e2
    rw [f1, f2, f3, f4, f5] at kk
    refine W.iast hx hb e4 e5 e6 e7 rfl rfl hd (fun H1 g1 g2 g3 => kk ls H1 _ hL hLn (f6 H1 g1 g2 g3) (pw_lc1 hlc e3))
  | bastore =>
    refine pw_as (s := s) hW0 hB hW h (fun q j x r cell e1 e2 e3 e4 e5 e6 e7 f1 f2 f3 f4 f5 f6 => ?_)
    subst e1
    obtain ⟨y, rfl⟩ := pw_tr_I (ad := pw_ad s0 B) e2
    rw [f1, f2, f3, f4, f5] at kk
    refine W.zast hx hb e4 e5 e6 e7 rfl rfl hd (fun H1 g1 g2 g3 => kk ls H1 _ hL hLn (f6 H1 g1 g2 g3) (pw_lc1 hlc e3))
  | castore =>
    refine pw_as (s := s) hW0 hB hW h (fun q j x r cell e1 e2 e3 e4 e5 e6 e7 f1 f2 f3 f4 f5 f6 => ?_)
    subst e1
    obtain ⟨y, rfl⟩ := pw_tr_I (ad := pw_ad s0 B) e2
    rw [f1, f2, f3, f4, f5] at kk
    refine W.cast hx hb e4 e5 e6 e7 rfl rfl hd (fun H1 g1 g2 g3 => kk ls H1 _ hL hLn (f6 H1 g1 g2 g3) (pw_lc1 hlc e3))
  | lastore =>
    refine pw_as (s := s) hW0 hB hW h (fun q j x r cell e1 e2 e3 e4 e5 e6 e7 f1 f2 f3 f4 f5 f6 => ?_)
    subst e1
    obtain ⟨y, rfl⟩ := pw_tr_J (ad := pw_ad s0 B) e2
    rw [f1, f2, f3, f4, f5] at kk
    refine W.last hx hb e4 e5 e6 e7 rfl rfl hd (fun H1 g1 g2 g3 => kk ls H1 _ hL hLn (f6 H1 g1 g2 g3) (pw_lc1 hlc e3))
  | aastore =>
    simp only [pm_nx, pm_vir] at h
    split at h
    · rename_i x j q r
      split at h
      · rename_i w
        simp only [pm_arr] at h
        split at h
        · rename_i ty n f hM
          simp only [pm_obj] at h
          split at h
          · cases h
          · rename_i cw fs hMw
            split at h
            · rename_i hc9
              obtain ⟨⟨hcl, hty⟩, hq8, hr9⟩ := hc9
              cases h
              obtain ⟨cell, h1, h2, h3, h4, h5, h6, h7⟩ := pw_arr hW0 hW hM
              have hlt : j.toNatClampNeg < n := Nat.not_le.mp fun q => hr9 (Or.inr q)
              obtain ⟨r9, hr1⟩ : ∃ r9, vwCl[cw]? = some r9 := ⟨_, List.getElem?_eq_getElem hcl⟩
              have g0 := hW.2.2 w
              rw [hMw] at g0
              obtain ⟨cellV, g1, g2, g3, -⟩ := g0 r9 hr1
              have hK' := va_K.moved hW0.alike hK
              have hcls := (hK'.1 cw r9 hr1).2
              have hcls0 := (hK.1 cw r9 hr1).2
              obtain ⟨kA, comp, k1, k2, k3⟩ := h7 (tb_cn cw) hty
              rw [← hcn cw r9 hr1] at k3 k2
              have hcomp : comp = D.1 cw := Option.some.inj (k3.symm.trans hcls0.1)
              subst hcomp
              obtain ⟨kC, hkC, -⟩ := hcls.2
              obtain ⟨kA', hkA', heA⟩ := hW0.alike.2.2 _ _ k1
              refine W.aast hx hb h1 (fun q h => h2.1 q h) h3 hkA' (by rw [heA]; exact k2) rfl hkC ⟨fun q => hr9 (Or.inl q), by rw [h4]; exact hlt⟩ g1 (fun q h => by rw [g3] at h; cases h) (by rw [g2]; exact hkC) (by rw [g2]; exact va_assign hcls) rfl rfl hd (fun H1 e1 e2 e3 => kk ls H1 _ hL hLn (pw_arrS hB hW hq8 (v := .ref w) h1 h6 h3 h4 h5 h7 e1 e2 e3) (pw_lc1 hlc (by rw [pw_ad_ge hq8]; exact Nat.le_add_right _ _)))
            · cases h
        · cases h
      · cases h
    · cases h
  | arraylength =>
    simp only [pm_nx, pm_r1] at h
    split at h
    · simp only [pm_arr] at h
      split at h
      · rename_i ty n f hM
        cases h
        obtain ⟨cell, h1, h2, h3, h4, -⟩ := pw_arr hW0 hW hM
        exact W.alen hx hb h1 h2 (by rw [h4]) rfl rfl hd (kk ls H locs hL hLn hW hlc)
      · cases h
    · cases h
  | getfield idx =>
    simp only [pm_nx, pm_r1] at h
    split at h
    · simp only [pm_obj] at h
      split at h
      · cases h
      · rename_i c9 fs hM
        split at h
        · rename_i x hx1
          split at h
          · rename_i hc9
            subst hc9
            cases h
            exact pw_get hx hb hW0 hK hU hown hw hd hW hM hx1 (kk ls H locs hL hLn hW hlc)
          · cases h
        · cases h
    · cases h
  | putfield idx =>
    simp only [pm_nx, pm_vr] at h
    split at h
    · simp only [pm_obj] at h
      split at h
      · cases h
      · rename_i c9 fs hM
        split at h
        · rename_i hc9
          obtain ⟨rfl, hc3, hc4, hc5, hc6⟩ := hc9
          cases h
          exact pw_put hx hb hW0 hB hK hU hN hown hw.1 (fun r hr => by rw [hname]; exact hw.2 r hr) hd hW hc3 hM hc4 hc5 hc6 hlc (fun H1 locs1 g1 g2 => kk ls H1 locs1 hL hLn g1 g2)
        · cases h
    · cases h
  | getstatic idx =>
    cases h
    obtain ⟨ha, C, n, d, hZ, hl⟩ := hw
    obtain ⟨cf, kf, fi, f, a1, cell, h1, h2, h3, h4, h5, h6, h7, h8⟩ := hZ.moved hW0.alike
    have e1 : pw_ad s0 B a = B a := by unfold pw_ad; rw [if_pos ha]
    have k1 : W p l e R s m args below meth c H locs (M.1 - m0) (M.2.1 - k0) Q (F0 m (pc + 3) ls (.ref (pw_ad s0 B a) :: st.map (pw_tr (pw_ad s0 B)))) := kk ls H locs hL hLn hW hlc
    rw [e1] at k1
    exact W.gets hx hb hown (pw_wd hW0 rfl hl) h1 h2 h3 h4 (by rw [hW.2.1 a1 (Array.getElem?_eq_some_iff.mp h5).1]; exact h5) (fun e => by rw [e] at h6; cases h6) h7 rfl hd k1
  | new idx =>
    cases h
    obtain ⟨r, hr, w1, w2, w3, hlen, hdf⟩ := hw (hn1 ⟨_, rfl⟩)
    have hK' := va_K.moved hW0.alike hK
    have hKn := hK'.1 a r hr
    have hws : ∀ w ∈ u_ws r.1 r.2.1 r.2.2, w.before args s = true := hU.ws hW0 hr
    have hc1' : M.1 + 1 - m0 ≤ R.cells := hc1
    have hc2' : M.2.1 + (tb_df a).length - k0 ≤ R.slots := hc2
    refine W.newcK hx hb hown (pw_wd hW0 rfl w1) (pw_wd hW0 rfl w2) (pw_wd hW0 rfl w3) rfl hd (by omega) (by omega) hKn.2.1 rfl fun H1 kC hkC e1 z1 o1 => ?_
    have e9 : pw_ad s0 B (8 + M.1) = H.size := pw_ad_new hW
    have k1 : pw_W s0 D (pw_ad s0 B) H1 (pm_mk M (tb_df a).length (.inr (a, tb_df a))) → W p l e R s m args below meth c H1 locs (M.1 + 1 - m0) (M.2.1 + (tb_df a).length - k0) Q (F0 m (pc + 3) ls (.ref (pw_ad s0 B (8 + M.1)) :: st.map (pw_tr (pw_ad s0 B)))) := fun h9 => kk ls H1 locs hL hLn h9 hlc
    rw [e9] at k1
    refine W.cs (by omega) (by omega) (k1 (hW.mk z1 o1 (fun r' hr' => ?_)))
    · cases hr.symm.trans hr'
      rw [e9]
      exact (u_born (tb_ft a) hws (fun _ h => h) hKn hkC e1 (hN a r hr).1).to (fun j hj => by rw [← hdf j hj, pw_tr_def])
  | newarray t =>
    simp only [pm_nx, pm_i1] at h
    split at h
    · rename_i x r
      split at h
      · cases h
      · rename_i hx9
        cases h
        have hc1' : M.1 + 1 - m0 ≤ R.cells := hc1
        have hc2' : M.2.1 + x.toNatClampNeg - k0 ≤ R.slots := hc2
        have hx5 : x.toNatClampNeg ≤ 5000 := Nat.not_lt.mp fun q => hx9 (Or.inr q)
        refine va_newaK hx hb (pw_wd hW0 rfl hw) rfl hd rfl (fun q => hx9 (Or.inl q)) rfl (by have : componentBytes (newarray.typeOf t) ≤ 8 := (by cases t <;> decide); have := Nat.mul_le_mul hx5 this; omega) (by omega) (by omega) rfl fun H1 cA e1 z1 o1 hAr hNm => ?_
        have e9 : pw_ad s0 B (8 + M.1) = H.size := pw_ad_new hW
        have k1 : W p l e R s m args below meth c H1 locs (M.1 + 1 - m0) (M.2.1 + x.toNatClampNeg - k0) Q (F0 m (pc + 2) ls (.ref (pw_ad s0 B (8 + M.1)) :: r.map (pw_tr (pw_ad s0 B)))) := kk ls H1 locs hL hLn (hW.mk z1 o1 ⟨_, by rw [e9]; exact e1, State.isArrayOf_alike hW0.alike.symm (hAr _ _), fun q => (by cases q), by rw [arrV_size], fun j hj => by rw [arrV_read _ _ hj, pw_tr_def], fun C hC => by cases t <;> cases hC⟩) hlc
        rw [e9] at k1
        exact W.cs (by omega) (by omega) k1
    · cases h
  | anewarray idx =>
    simp only [pm_nx, pm_i1] at h
    split at h
    · rename_i x r
      split at h
      · cases h
      · rename_i hx9
        cases h
        have hc1' : M.1 + 1 - m0 ≤ R.cells := hc1
        have hc2' : M.2.1 + x.toNatClampNeg - k0 ≤ R.slots := hc2
        have hx5 : x.toNatClampNeg ≤ 5000 := Nat.not_lt.mp fun q => hx9 (Or.inr q)
        refine W.anew hx hb hown (pw_wd hW0 rfl hw.1) (pw_wdA hW0 hw.2) rfl hd rfl (fun q => hx9 (Or.inl q)) (by omega) (by omega) (by omega) fun cA kA comp n1 n2 n3 n4 => ?_
        have e9 : pw_ad s0 B (8 + M.1) = H.size := pw_ad_new hW
        obtain ⟨kA', hkA', heA⟩ := hW0.alike.symm.2.2 _ _ n2
        have hkd : kA'.kind = .array comp (.object (tb_cn a)) := by rw [heA]; exact n3
        have k1 : W p l e R s m args below meth c (H.push { cls := cA, slots := Array.replicate x.toNatClampNeg .null, vm := .none }) locs (M.1 + 1 - m0) (M.2.1 + x.toNatClampNeg - k0) Q (F0 m (pc + 3) ls (.ref (pw_ad s0 B (8 + M.1)) :: r.map (pw_tr (pw_ad s0 B)))) := kk ls _ locs hL hLn (hW.mk (H1 := H.push { cls := cA, slots := Array.replicate x.toNatClampNeg .null, vm := .none }) (by simp) (fun q hq => by rw [Array.getElem?_push, if_neg (Nat.ne_of_lt hq)]) ⟨{ cls := cA, slots := Array.replicate x.toNatClampNeg .null, vm := .none }, by rw [e9]; simp, ⟨fun q h => (by cases h), kA', hkA', comp, hkd⟩, fun q => (by cases q), by simp, fun j hj => by simp [hj, pw_tr], fun C hC => by cases hC; exact ⟨kA', comp, hkA', hkd, by rw [hW0.alike.symm.findClass]; exact n4⟩⟩) hlc
        rw [e9] at k1
        exact W.cs (by omega) (by omega) k1
    · cases h
  | invokespecial idx =>
    have hcs := hn4 (Or.inl ⟨_, rfl⟩)
    simp only [pm_nx, pm_r1] at h
    split at h
    · rename_i q r
      cases h
      obtain ⟨w1, w2, w3⟩ := hw (hn2 ⟨_, rfl⟩)
      exact W.objInit hx hb hown (pw_wd hW0 rfl w1) (pw_wd hW0 rfl w2) (pw_wd hW0 rfl w3) rfl (by rw [hml, ← hLn]; exact hL.1) rfl hd (by omega) (by rw [pw_cs]; have : pm_cs (.ref q :: r) = 1 + pm_cs r := rfl; show 2 * 0 + _ + 12 ≤ _; omega) (kk ls H locs hL hLn hW hlc)
    · cases h
  | invokestatic idx =>
    have hcs := hn4 (Or.inr ⟨_, rfl⟩)
    have ha := hn3 ⟨_, rfl⟩
    have hmls : c.maxLocals = ls.size := by rw [hml, ← hLn]; exact hL.1.symm
    simp only [pm_nx] at h
    split at h
    · rename_i ha1
      obtain ⟨w1, w2, w3, w4⟩ := hw.1 ha1
      simp only [pm_i2] at h
      split at h
      · rename_i y x r
        cases h
        exact va_mmax hx hb hmls hown (pw_wd hW0 rfl w1) (pw_wd hW0 rfl w2) (pw_wd hW0 rfl w3) (pw_wd hW0 rfl w4) (by omega) (by rw [pw_cs]; have : pm_cs (.int y :: .int x :: r) = 1 + (1 + pm_cs r) := rfl; omega) hc1 hc2 hd (kk ls H locs hL hLn hW hlc)
      · cases h
    · split at h
      · rename_i ha1 ha2
        obtain ⟨w1, w2, w3, w4⟩ := hw.2.1 ha2
        simp only [pm_i2] at h
        split at h
        · rename_i y x r
          cases h
          exact va_mmin hx hb hmls hown (pw_wd hW0 rfl w1) (pw_wd hW0 rfl w2) (pw_wd hW0 rfl w3) (pw_wd hW0 rfl w4) (by omega) (by rw [pw_cs]; have : pm_cs (.int y :: .int x :: r) = 1 + (1 + pm_cs r) := rfl; omega) hc1 hc2 hd (kk ls H locs hL hLn hW hlc)
        · cases h
      · rename_i ha1 ha2
        obtain ⟨w1, w2, w3, w4⟩ := hw.2.2 (by omega)
        simp only [pm_cp] at h
        split at h
        · rename_i n dp q sp q0 r
          simp only [pm_arr] at h
          split at h
          · rename_i t0 n0 f hM0
            split at h
            · rename_i t1 n1 g hM1
              split at h
              · rename_i hc9
                obtain ⟨rfl, rfl, g3, g4, g5, g6, g7, g8, g9⟩ := hc9
                cases h
                have hcs' : pm_cs r ≤ 12 := by
                  have : pm_cs (.int n :: .int dp :: .ref q :: .int sp :: .ref q0 :: r) = 1 + (1 + (1 + (1 + (1 + pm_cs r)))) := rfl
                  omega
                exact pw_copy hx hb hmls hW0 hB hown (pw_wd hW0 rfl w1) (pw_wd hW0 rfl w2) (pw_wd hW0 rfl w3) (pw_wd hW0 rfl w4) hW hM0 hM1 g3 g4 g5 g6 g7 g8 g9 hlc (by omega) (by rw [pw_cs]; have : nativeFrameWords "java/lang/System" "arraycopy" 5 ≤ 60 := (by decide +kernel); omega) hd (fun H1 locs1 e1 e2 => kk ls H1 locs1 hL hLn e1 e2)
              · cases h
            · cases h
          · cases h
        · cases h
  | _ => simp [pm_nx] at h
end PWN
end
section
/-! Calls, ends, throws; and all together: what the pure machine does, the machine does. -/
theorem pw_mono {p : Program} {l : Launch} {e : Env} {R : Room} {s : State} {m : MethodId} {args : Array Value} {below : List Frame} {meth : Method} {c : Code} {H : Heap} {locs : List Loc} {cells slots : Nat} {Q Q' : State → Prop} {g : JFrame} (h : ∀ t, Q t → Q' t) (w : W p l e R s m args below meth c H locs cells slots Q g) : W p l e R s m args below meth c H locs cells slots Q' g := by
  intro T hT X
  obtain ⟨t, a, b⟩ := w T hT X
  exact ⟨t, a, h t b⟩
/-- how a method ended -/
def pw_O (s0 : State) (ad : Nat → Nat) (M : pm_M) (o : Outcome) (t : State) : pm_R → Prop
  | .inl v => o = .returned (v.map (pw_tr ad))
  | .inr x => o = .threw (ad (7 + M.1)) ∧ ∃ cell : Cell, t.heap[ad (7 + M.1)]? = some cell ∧ cell.vm.isStatics = false ∧ s0.vm.findClass (tb_xn x) = some cell.cls
def pw_Q (s0 : State) (D : va_G) (ad : Nat → Nat) (below : List Frame) (s : State) (m0 k0 : Nat) (r : pm_R) (M : pm_M) (t : State) : Prop := ∃ (o : Outcome) (Lc : List Loc), t.status = .running ∧ Ended t below o ∧ s.WarmedH t.vm ∧ s.sameButNew ({ t with vm := s.vm } : State) Lc (M.1 - m0) (M.2.1 - k0) ∧ (∀ y ∈ Lc, s0.heap.size ≤ y.base) ∧ pw_W s0 D ad t.heap M ∧ pw_O s0 ad M o t r
section PWE
variable {p : Program} {l : Launch} {e : Env} {R : Room} {s : State} {m : MethodId} {args : Array Value} {below : List Frame} {meth : Method} {c : Code} {H : Heap} {locs : List Loc} {pc : Nat} {ls : Array Slot} {s0 : State} {D : va_G} {B : Nat → Nat} {M : pm_M} {i : Nat} {m0 k0 : Nat}
theorem pw_end {v : Option Value} {Qc : Array Value → State → Outcome → State → Prop} {g : JFrame} (hW : pw_W s0 D (pw_ad s0 B) H M)
    (w : W p l e R s m args below meth c H locs (M.1 - m0) (M.2.1 - k0) (MQ below (fun _ _ o t => o = .returned (v.map (pw_tr (pw_ad s0 B))) ∧ t.heap = H) args s (M.1 - m0) (M.2.1 - k0) (fun q => s0.heap.size ≤ q)) g) : W p l e R s m args below meth c H locs (M.1 - m0) (M.2.1 - k0) (pw_Q s0 D (pw_ad s0 B) below s m0 k0 (.inl v) M) g := by
  refine pw_mono (fun t ht => ?_) w
  obtain ⟨o, h1, h2, ⟨h3, h4⟩, Lc, ⟨-, h5, h6⟩, h7⟩ := ht
  exact ⟨o, Lc, h1, h2, h5, h6, h7, by rw [h4]; exact hW, h3⟩
theorem pw_reti (hC : pw_C s0 i p s m meth c) (hW : pw_W s0 D (pw_ad s0 B) H M) (hlc : ∀ y ∈ locs, s0.heap.size ≤ y.base) {x : Int32} (hr : tb_rI i x = true) (hd : decode (tb_by i) pc = .ok (.ireturn, 1)) : W p l e R s m args below meth c H locs (M.1 - m0) (M.2.1 - k0) (pw_Q s0 D (pw_ad s0 B) below s m0 k0 (.inl (some (.int x))) M) (F0 m pc ls [.int x]) := by
  obtain ⟨hx, hb, hml, hown, hret, hlk, hname, htab, hW0⟩ := hC
  unfold tb_rI at hr
  split at hr
  · rename_i ty hty
    exact pw_end (Qc := fun _ _ _ _ => True) hW (W.zret hx hb (hret.trans hty) (of_decide_eq_true hr) (fun t ht _ => ⟨rfl, ht⟩) hlc hd hlk)
  · cases hr
theorem pw_retv (hC : pw_C s0 i p s m meth c) (hW : pw_W s0 D (pw_ad s0 B) H M) (hlc : ∀ y ∈ locs, s0.heap.size ≤ y.base) (hr : tb_rV i = true) (hd : decode (tb_by i) pc = .ok (.return_, 1)) : W p l e R s m args below meth c H locs (M.1 - m0) (M.2.1 - k0) (pw_Q s0 D (pw_ad s0 B) below s m0 k0 (.inl none) M) (F0 m pc ls []) := by
  obtain ⟨hx, hb, hml, hown, hret, hlk, hname, htab, hW0⟩ := hC
  unfold tb_rV at hr
  exact pw_end (Qc := fun _ _ _ _ => True) hW (W.vret hx hb (hret.trans (Option.isNone_iff_eq_none.mp hr)) (fun t ht _ => ⟨rfl, ht⟩) hlc hd hlk)
theorem pw_reta (hC : pw_C s0 i p s m meth c) (hW : pw_W s0 D (pw_ad s0 B) H M) (hlc : ∀ y ∈ locs, s0.heap.size ≤ y.base) {x : Nat} (hr : tb_rA i = true) (hd : decode (tb_by i) pc = .ok (.areturn, 1)) : W p l e R s m args below meth c H locs (M.1 - m0) (M.2.1 - k0) (pw_Q s0 D (pw_ad s0 B) below s m0 k0 (.inl (some (.ref x))) M) (F0 m pc ls [.ref (pw_ad s0 B x)]) := by
  obtain ⟨hx, hb, hml, hown, hret, hlk, hname, htab, hW0⟩ := hC
  unfold tb_rA at hr
  split at hr
  · rename_i n hty
    exact pw_end (Qc := fun _ _ _ _ => True) hW (W.aret hx hb (hret.trans hty) (Or.inl ⟨_, rfl⟩) (Or.inr ⟨_, rfl⟩) (fun t ht _ => ⟨rfl, ht⟩) hlc hd hlk)
  · cases hr
end PWE
/-! ## a catch in the method's own table, its classes linked or not yet -/
def pw_ft (e : Env) (s : State) (f : JFrame) (a : Addr) (h : Handler) (vm' : Vm) : Prop := ∀ (Q : Handler → Pre) (E : CtlPost) (d : Bool) (acts : List Action), wp (findHandler f a) Q E e d acts s ↔ Q h d acts (s.setVm vm')
theorem pw_fh1 {Q : Handler → Pre} {E : CtlPost} {e : Env} {d : Bool} {acts : List Action} {s : State} {f : JFrame} {a : Addr} {x : ExceptionTableEntry} {t : List ExceptionTableEntry} {c : ClassId} {cell : Cell} (hx : covers x f.pc = true) (h0 : x.catchType ≠ 0)
    (hl : s.vm.ClassLinks e.platform f.method.cls x.catchType c) (hcell : s.heap[a]? = some cell) (hobj : ∀ k, cell.vm ≠ .statics k) (hk : ∃ k, s.vm.classes[cell.cls]? = some k) (hc : ∃ k, s.vm.classes[c]? = some k) :
    (s.vm.assignable cell.cls c = true → (wp (findHandler.go f a (x :: t)) Q E e d acts s ↔ Q (.found x.handlerPc) d acts (s.setVm (s.vm.noted f.method.cls x.catchType (.cls c))))) ∧
    (s.vm.assignable cell.cls c = false → (wp (findHandler.go f a (x :: t)) Q E e d acts s ↔ wp (findHandler.go f a t) Q E e d acts (s.setVm (s.vm.noted f.method.cls x.catchType (.cls c))))) := by
  simp only [covers] at hx
  obtain ⟨ha, ht⟩ := (resolveClass_links e.toSetting hl).op (op := VmOp.resolveClass f.method.cls x.catchType) rfl
  have hal : s.vm.Alike (s.vm.noted f.method.cls x.catchType (.cls c)) := (Vm.Alike.refl s.vm).noted _ _ _
  obtain ⟨k1, hk1⟩ := hk
  obtain ⟨k2, hk2⟩ := hc
  obtain ⟨k1', hk1', -⟩ := hal.2.2 _ _ hk1
  obtain ⟨k2', hk2', -⟩ := hal.2.2 _ _ hk2
  refine ⟨fun hfit => ?_, fun hfit => ?_⟩
  · have hfit' : (s.vm.noted f.method.cls x.catchType (.cls c)).assignable cell.cls c = true := by rw [hal.assignable]; exact hfit
    simp [findHandler.go, hx, h0, ha, ht, hcell, hobj, hk1', hk2', hfit', VmOp.dirties, VmOp.acts]
  · have hfit' : (s.vm.noted f.method.cls x.catchType (.cls c)).assignable cell.cls c = false := by rw [hal.assignable]; exact hfit
    simp [findHandler.go, hx, h0, ha, ht, hcell, hobj, hk1', hk2', hfit', VmOp.dirties, VmOp.acts]
/-- what the search through a table's rows comes to: the classes that the rows name can be linked; a row that covers the place takes the object, or doesn't -/
def pw_hs (s0 : State) (own xn : String) (pc : Nat) : List ExceptionTableEntry → Nat → Prop
  | [], _ => False
  | y :: t, r => (covers y pc = false ∧ pw_hs s0 own xn pc t r) ∨ (covers y pc = true ∧ y.catchType ≠ 0 ∧ ∃ name, (Cond.classLink own y.catchType name).before #[] s0 = true ∧ (((Cond.castable xn name).before #[] s0 = true ∧ r = y.handlerPc) ∨ ((Cond.not (.castable xn name)).before #[] s0 = true ∧ pw_hs s0 own xn pc t r)))
theorem pw_find {e : Env} {s0 s : State} {f : JFrame} {a : Addr} {cell : Cell} {own xn : String} (hpl : e.platform.magicAccessors = ({} : Platform).magicAccessors) (hW0 : s0.WarmedH s.vm) (hown : s.vm.findClass own = some f.method.cls) (hobj : ∀ k, cell.vm ≠ .statics k) (hcx : s0.vm.findClass xn = some cell.cls) :
    ∀ (tl : List ExceptionTableEntry) (r : Nat), pw_hs s0 own xn f.pc tl r → ∀ S : State, s.WarmedH S.vm → S.heap[a]? = some cell → ∃ vm', s.WarmedH vm' ∧ ∀ (Q : Handler → Pre) (E : CtlPost) (d : Bool) (acts : List Action), wp (findHandler.go f a tl) Q E e d acts S ↔ Q (.found r) d acts (S.setVm vm') := by
  intro tl
  induction tl with
  | nil => intro r h; exact h.elim
  | cons y t ih =>
    intro r h S hW hcell
    obtain ⟨k0, hk0, -⟩ := Vm.findClass_spec hcx
    obtain ⟨k1, hk1, -⟩ := hW0.alike.2.2 _ _ hk0
    obtain ⟨k2, hk2, -⟩ := hW.alike.2.2 _ _ hk1
    rcases h with ⟨h1, h2⟩ | ⟨h1, h2, name, h3, h4⟩
    · obtain ⟨vm', hW', hq⟩ := ih r h2 S hW hcell
      exact ⟨vm', hW', fun Q E d acts => by rw [W.findHandler_go_skip h1]; exact hq Q E d acts⟩
    · have h3' : (Cond.classLink own y.catchType name).before #[] s = true := pw_wd hW0 rfl h3
      obtain ⟨cT, hcT, hcl⟩ := Cond.classLink_spec hown h3' e.platform hpl
      obtain ⟨dk, _, _, kt, hd, _, _, _, _, hkt, _, hopen⟩ := hcl.here
      obtain ⟨kt', hkt', -⟩ := hW.alike.2.2 _ _ hkt
      have hcl' := hW.classLinks hcl
      have hWn : s.WarmedH (S.vm.noted f.method.cls y.catchType (.cls cT)) := hW.noted hd hopen (State.rightAt_cls hcl)
      have hcT0 : s0.vm.findClass name = some cT := by rw [← hW0.alike.findClass]; exact hcT
      rcases h4 with ⟨h5, rfl⟩ | ⟨h5, h6⟩
      · obtain ⟨c3, t3, w1, w2, w3⟩ := Cond.castable_spec h5
        cases hcx.symm.trans w1
        cases hcT0.symm.trans w2
        exact ⟨_, hWn, fun Q E d acts => (pw_fh1 h1 h2 hcl' hcell hobj ⟨k2, hk2⟩ ⟨kt', hkt'⟩).1 (by rw [hW.alike.assignable, hW0.alike.assignable]; exact w3)⟩
      · have hv := Cond.holds_not_iff.mp h5
        simp only [Cond.value, hcx, hcT0] at hv
        have w3 : s0.vm.assignable cell.cls cT = false := Option.some.inj hv
        obtain ⟨vm', hW', hq⟩ := ih r h6 (S.setVm (S.vm.noted f.method.cls y.catchType (.cls cT))) hWn hcell
        exact ⟨vm', hW', fun Q E d acts => by
          rw [(pw_fh1 h1 h2 hcl' hcell hobj ⟨k2, hk2⟩ ⟨kt', hkt'⟩).2 (by rw [hW.alike.assignable, hW0.alike.assignable]; exact w3)]
          exact hq Q E d acts⟩
theorem pw_caught {tb : Tables} {e : Env} {s target : State} {g : JFrame} {c : Code} {below : List Frame} {a : Addr} (h : At s g.method c below) {pc : Nat} {vm' : Vm}
    (hfind : pw_ft e ((s.setTop g).pushFrame (.throwing a)) g a (.found pc) vm') (hrest : Steps tb e below ((s.setVm vm').setTop { g with pc := pc, stack := [.ref a] }) target) :
    Steps tb e below ((s.setTop g).pushFrame (.throwing a)) target := by
  obtain ⟨hgo, hw⟩ := h.throwing a
  have hst : ∀ r : List Frame, (stepThrowing e ((s.setTop g).pushFrame (.throwing a)) a (.java g :: r)).Is ((((s.setTop g).pushFrame (.throwing a)).setVm vm').setFrames (.java { g with pc := pc, stack := [.ref a] } :: r)) [] := by
    intro r
    simp only [stepThrowing, searchFrame, vmDo]
    generalize hr : Sem.go _ e false [] ((s.setTop g).pushFrame (.throwing a)) = res
    obtain ⟨as, rfl, ha⟩ := Sem.eq_ok_of hr (a := Handler.found pc) (s' := ((s.setTop g).pushFrame (.throwing a)).setVm vm') (acts' := []) (by simp [hfind _ _ _ _])
    exact ⟨rfl, ha⟩
  have hsv : ∀ (u : State) (F G : List Frame), ((u.setFrames F).setVm vm').setFrames G = (u.setVm vm').setFrames G := by
    intro u F G
    have h1 : (u.setFrames F).setVm vm' = (u.setVm vm').setFrames F := rfl
    rw [h1, State.setFrames_setFrames]
  refine Steps.head hgo hw ?_
  rw [stepThread_throwing (frames_entered h.top _), (hst _).1]
  obtain ⟨g₀, hg⟩ := Option.isSome_iff_exists.mp h.top
  obtain ⟨r, hr⟩ := State.topJava?_eq_some.mp hg
  have hr' : (s.setVm vm').frames = .java g₀ :: r := hr
  rw [State.setTop_of_frames _ hr'] at hrest
  rw [hr, List.tail_cons, State.pushFrame, hsv, State.setTop_of_frames _ hr, hsv]
  exact hrest
/-! ## calls -/
/-- a method of ours: its code, and what a call of it needs -/
def pw_md (s0 : State) (j : Nat) : Prop := (Cond.codeWith (tb_nm j) (tb_by j) (tb_mL j) (tb_re j) (tb_hh j)).before #[] s0 = true ∧ (Cond.initialized (tb_nm j).cls).before #[] s0 = true ∧ plainName (tb_nm j).cls = true ∧ ((tb_nm j).cls ≠ "java/lang/invoke/MethodHandle" ∧ (tb_nm j).cls ≠ "java/lang/invoke/VarHandle") ∧ tb_mL j ≤ 40
/-- an invocation has been made: the method's own state at its call -/
def pw_iv (p : Program) (l : Launch) (e : Env) (R : Room) (s : State) (m : MethodId) (args : Array Value) (below : List Frame) (meth : Method) (c : Code) (T : State) (locs : List Loc) (cells slots : Nat) (g : JFrame) (rest as : List Value) (j : Nat) : Prop :=
  ∃ (vm₁ : Vm) (mk : MethodId), Stand p l e R s m args below meth c (T.setVm vm₁) locs cells slots ∧ s.methodNamed? (tb_nm j) = some mk ∧ ∀ target, (∀ acts, Steps p.tables e below (doInvoke e ((T.setVm vm₁).setTop { g with stack := rest }) acts mk as.toArray).1 target) → Steps p.tables e below (T.setTop g) target
section PWI
variable {p : Program} {l : Launch} {e : Env} {R : Room} {s : State} {m : MethodId} {args : Array Value} {below : List Frame} {meth : Method} {c : Code} {T : State} {locs : List Loc} {cells slots : Nat} {s0 : State} {own : String} {idx j : Nat} {g : JFrame} {argsL rest : List Value}
theorem pw_ivS (X : Stand p l e R s m args below meth c T locs cells slots) (hx : p.tables.exec = Jvm.exec) (hW0 : s0.WarmedH s.vm) (hown : s.vm.findClass own = some m.cls) (hm : pw_md s0 j) (hst : (Cond.static (tb_nm j)).before #[] s0 = true) (hlk : (Cond.methodLink own idx (tb_nm j)).before #[] s0 = true ∨ ∃ host, (Cond.methodLinkNest own idx (tb_nm j) host).before #[] s0 = true) (hlen : (parseMethodDescriptor (tb_nm j).desc).map (fun d => d.parameters.length) = some argsL.length)
    (hg : g.method = m) (hstack : g.stack = argsL.reverse ++ rest) (hdg : decode c.code g.pc = .ok (.invokestatic idx, 3)) : pw_iv p l e R s m args below meth c T locs cells slots g rest argsL j := by
  obtain ⟨w1, w2, -, w4, -⟩ := hm
  have w1' : (Cond.codeWith (tb_nm j) (tb_by j) (tb_mL j) (tb_re j) (tb_hh j)).before args s = true := pw_wd hW0 rfl w1
  obtain ⟨mk, methM, cM, hnamed, hmethM, -, -, -, -, -, -, hsigM⟩ := Cond.codeWith_spec w1'
  have hstatic : methM.isStatic = true := Cond.static_spec hnamed hmethM (args := args) (pw_wd hW0 rfl hst)
  obtain ⟨kP, hkP, -⟩ := className_of_methodNamed hnamed
  have hinitP : kP.init = .initialized := Cond.initialized_spec (args := args) (findClass_of_methodNamed hnamed) hkP (pw_wd hW0 rfl w2)
  have hl9 : argsL.length = methM.sig.parameters.length := by
    rw [hsigM] at hlen
    exact (Option.some.inj hlen).symm
  rcases hlk with hl | ⟨host, hl⟩
  · obtain ⟨vm₁, X₁, hstep₁⟩ := X.invokestatic hx hown (pw_wd hW0 rfl hl) hnamed hmethM hstatic hkP hinitP w4 (g := g) hg (argsL := argsL) (rest := rest) hl9 hstack hdg
    exact ⟨vm₁, mk, X₁, hnamed, hstep₁⟩
  · obtain ⟨vm₁, X₁, hstep₁⟩ := X.invokestaticNest hx hown (pw_wdM hW0 hl) hnamed hmethM hstatic hkP hinitP w4 (g := g) hg (argsL := argsL) (rest := rest) hl9 hstack hdg
    exact ⟨vm₁, mk, X₁, hnamed, hstep₁⟩
theorem pw_ivV (X : Stand p l e R s m args below meth c T locs cells slots) (hx : p.tables.exec = Jvm.exec) (hW0 : s0.WarmedH s.vm) (hown : s.vm.findClass own = some m.cls) (hm : pw_md s0 j) (hin : (Cond.instanceMethod (tb_nm j)).before #[] s0 = true) (hse : (Cond.selects (tb_nm j).cls (tb_nm j) (tb_nm j)).before #[] s0 = true) (hlk : (Cond.methodLink own idx (tb_nm j)).before #[] s0 = true ∨ ∃ host, (Cond.methodLinkNest own idx (tb_nm j) host).before #[] s0 = true) (hlen : (parseMethodDescriptor (tb_nm j).desc).map (fun d => d.parameters.length) = some argsL.length)
    {b : Addr} {cellB : Cell} (hcell : T.heap[b]? = some cellB) (hobj : cellB.vm = .none) (hcls : s0.vm.findClass (tb_nm j).cls = some cellB.cls)
    (hg : g.method = m) (hstack : g.stack = argsL.reverse ++ .ref b :: rest) (hdg : decode c.code g.pc = .ok (.invokevirtual idx, 3)) : pw_iv p l e R s m args below meth c T locs cells slots g rest (.ref b :: argsL) j := by
  obtain ⟨w1, w2, -, w4, -⟩ := hm
  have w1' : (Cond.codeWith (tb_nm j) (tb_by j) (tb_mL j) (tb_re j) (tb_hh j)).before args s = true := pw_wd hW0 rfl w1
  obtain ⟨mk, methM, cM, hnamed, hmethM, -, -, -, -, -, -, hsigM⟩ := Cond.codeWith_spec w1'
  obtain ⟨mk', methM', hnamed', hmethM', hstM, habM⟩ := Cond.instanceMethod_spec (args := args) (s := s) (pw_wd hW0 rfl hin)
  cases hnamed.symm.trans hnamed'
  cases hmethM.symm.trans hmethM'
  have hcls' : s.vm.findClass (tb_nm j).cls = some cellB.cls := by rw [hW0.alike.findClass]; exact hcls
  obtain ⟨c2, r2, m2, q1, q2, q3, q4, kP, hkP, hkPi⟩ := Cond.selects_spec (args := args) (s := s) (pw_wd hW0 rfl hse)
  cases hcls'.symm.trans q1
  cases (State.methodFound?_of_named hnamed w4).symm.trans q2
  cases hnamed.symm.trans q3
  have hselP : selectMethod e.platform s.vm cellB.cls mk = .method mk := by rw [Launch.admits_selectMethod X.admits]; exact q4
  have hl9 : argsL.length = methM.sig.parameters.length := by
    rw [hsigM] at hlen
    exact (Option.some.inj hlen).symm
  rcases hlk with hl | ⟨host, hl⟩
  · obtain ⟨vm₁, X₁, hstep₁⟩ := X.invokevirtual hx hown (pw_wd hW0 rfl hl) hnamed hmethM hstM hkP hkPi w4 (a := b) (cell := cellB) hcell (fun z h => by rw [hobj] at h; cases h) hselP hmethM habM hkP hkPi (g := g) hg (argsL := argsL) (rest := rest) hl9 hstack hdg
    exact ⟨vm₁, mk, X₁, hnamed, hstep₁⟩
  · obtain ⟨vm₁, X₁, hstep₁⟩ := X.invokevirtualNest hx hown (pw_wdM hW0 hl) hnamed hmethM hstM hkP hkPi w4 (a := b) (cell := cellB) hcell (fun z h => by rw [hobj] at h; cases h) hselP hmethM habM hkP hkPi (g := g) hg (argsL := argsL) (rest := rest) hl9 hstack hdg
    exact ⟨vm₁, mk, X₁, hnamed, hstep₁⟩
theorem pw_ivI (X : Stand p l e R s m args below meth c T locs cells slots) (hx : p.tables.exec = Jvm.exec) (hW0 : s0.WarmedH s.vm) (hown : s.vm.findClass own = some m.cls) (hm : pw_md s0 j) (hh : tb_hh j = []) (hre : tb_re j = none) (hnm : (tb_nm j).name = "<init>") (hin : (Cond.instanceMethod (tb_nm j)).before #[] s0 = true) (hlk : (Cond.methodLink own idx (tb_nm j)).before #[] s0 = true ∨ ∃ host, (Cond.methodLinkNest own idx (tb_nm j) host).before #[] s0 = true) (hlen : (parseMethodDescriptor (tb_nm j).desc).map (fun d => d.parameters.length) = some argsL.length)
    {b : Addr} (hg : g.method = m) (hstack : g.stack = argsL.reverse ++ .ref b :: rest) (hdg : decode c.code g.pc = .ok (.invokespecial idx, 3)) : pw_iv p l e R s m args below meth c T locs cells slots g rest (.ref b :: argsL) j := by
  obtain ⟨w1, w2, -, w4, -⟩ := hm
  rw [hh, hre] at w1
  have w1' : (Cond.code (tb_nm j) (tb_by j) (tb_mL j) none).before args s = true := by
    have h := pw_wd (args := args) hW0 rfl w1
    simp only [Cond.before, Cond.holds] at h ⊢
    rw [Cond.code_iff_codeWith_nil]
    exact h
  have hpl : e.platform.magicAccessors = ({} : Platform).magicAccessors := by rw [X.admits.platform]
  have hl9 : ∀ sig, parseMethodDescriptor (tb_nm j).desc = some sig → argsL.length = sig.parameters.length := by
    intro sig hs
    rw [hs] at hlen
    exact (Option.some.inj hlen).symm
  subst hg
  rcases hlk with hl | ⟨host, hl⟩
  · obtain ⟨mk, methM, cM, kP, vm₁, hnamed, -, -, -, -, -, -, -, hW₁, hstep₁⟩ := Steps.initColdArgs (e := e) X.here hx X.warmed hpl hown hnm w4 (args := args) (pw_wd hW0 rfl hl) (pw_wd hW0 rfl hin) w1' (f := g) rfl hl9 hstack hdg
    exact ⟨vm₁, mk, X.noted hW₁, hnamed, hstep₁⟩
  · obtain ⟨mk, methM, cM, kP, vm₁, hnamed, -, -, -, -, -, -, -, hW₁, hstep₁⟩ := Steps.initColdArgsNest (e := e) X.here hx X.warmed hpl hown hnm w4 (args := args) (pw_wdM hW0 hl) (pw_wd hW0 rfl hin) w1' (f := g) rfl hl9 hstack hdg
    exact ⟨vm₁, mk, X.noted hW₁, hnamed, hstep₁⟩
end PWI
end
section
/-! A throw of an exception whose constructor hands its message up to RuntimeException's at an entry of its own pool (7, or another). -/
def pw_oA (own : String) (ic : Nat) (X : String) (i1 : Nat) (b1 : ByteArray) : List Cond :=
  Bundle.throwableAtoms ++ Bundle.throwableSAtoms ++ (Bundle.passSAtoms X "java/lang/RuntimeException" i1 b1 ++ Bundle.chainSAtoms "java/lang/RuntimeException" ["java/lang/Exception"]) ++
  [.methodLink own ic (Bundle.initS X), .instantiable X 6, .selects X Bundle.tFill0 Bundle.tFill0, .selects X Bundle.tFill Bundle.tFill,
   .lays X Bundle.tN "cause" "Ljava/lang/Throwable;", .lays X Bundle.tN "stackTrace" Bundle.steD, .lays X Bundle.tN "suppressedExceptions" Bundle.listD, .lays X Bundle.tN "detailMessage" "Ljava/lang/String;",
   .isRef (.static Bundle.tN "UNASSIGNED_STACK" Bundle.steD), .isRef (.static Bundle.tN "SUPPRESSED_SENTINEL" Bundle.listD),
   .fieldLink Bundle.tN 198 Bundle.tN "backtrace" "Ljava/lang/Object;", .lays Bundle.tN Bundle.tN "backtrace" "Ljava/lang/Object;", .lays X Bundle.tN "backtrace" "Ljava/lang/Object;"]
section PWX
variable {p : Program} {l : Launch} {e : Env} {R : Room} {s : State} {m₀ : MethodId} {args : Array Value} {below : List Frame} {meth : Method} {c : Code} {W : State} {locs : List Loc} {cells slots : Nat}
set_option maxHeartbeats 4000000 in
theorem pw_ctorT (X : Stand p l e R s m₀ args below meth c W locs cells slots) (hexec : p.tables.exec = Jvm.exec) (htr : e.platform.stackTraces = false) {own cls : String} {ic i1 : Nat} {b1 : ByteArray}
    (hown : s.vm.findClass own = some m₀.cls) (hcls : Bundle.fit cls = true) (g0 : decode b1 0 = .ok (.aload_n 0, 1)) (g1 : decode b1 1 = .ok (.aload_n 1, 1)) (g2 : decode b1 2 = .ok (.invokespecial i1, 3)) (g5 : decode b1 5 = .ok (.return_, 1))
    (h : ∀ a ∈ pw_oA own ic cls i1 b1, a.before args s = true)
    (hlocs : ∀ x ∈ locs, ∀ cell, s.heap[x.base]? = some cell → cell.vm.isStatics = false)
    {a : Addr} {cX : ClassId} {kX : Class} (hfoundX : s.vm.findClass cls = some cX) (hkX : s.vm.classes[cX]? = some kX) (hcell : W.heap[a]? = some (freshCell cX kX)) (hnew : s.heap.size ≤ a)
    {msg : Value} (hmsg : msg.isRef = true)
    {g : JFrame} (hg : g.method = m₀) (hsize : g.locals.size = c.maxLocals) (hlocked : g.locked = none) (hentered : g.entered = []) {rest : List Value} (hstack : g.stack = msg :: .ref a :: .ref a :: rest)
    (hd6 : decode c.code g.pc = .ok (.invokespecial ic, 3)) (hd9 : decode c.code (g.pc + 3) = .ok (.athrow, 1)) (hout : ∀ x ∈ c.exceptionTable.toList, covers x (g.pc + 3) = false)
    (hRframes : 5 < R.frames) (hRlocals : 2 * g.monitorRoom + ((Value.ref a :: rest).map fun v => v.category).sum + (13 * 3 + 42) ≤ R.locals) (hlocks : meth.locks = false) :
    ∃ U : State, Steps p.tables e below (W.setTop g) U ∧ U.status = .running ∧ Ended U below (.threw a) ∧ s.WarmedH U.vm ∧ s.sameButNew ({ U with vm := s.vm } : State) locs cells slots ∧ ∃ ce, U.heap[a]? = some ce ∧ ce.vm = .none ∧ ce.cls = cX := by
  have howns : e.platform.frameOwnsMonitors = true := by rw [X.admits.platform]
  have hfin : e.platform.finalization = false := by rw [X.admits.platform]
  have hpl : e.platform.magicAccessors = ({} : Platform).magicAccessors := by rw [X.admits.platform]
  have a' : ∀ x, x ∈ pw_oA own ic cls i1 b1 → x.holds args s none s [] = true := fun x hx => h x hx
  obtain ⟨T, Z0, L, -, Y⟩ := ThrowableC.of_atoms (args := args) howns hfin hpl (fun x hx => h x (by simp [pw_oA, hx]))
  obtain ⟨Z, M, LZ, LM, hnZ⟩ := Init0T.ofS_atoms (args := args) hpl L Y (fun x hx => h x (by simp [pw_oA, hx]))
  obtain ⟨P1, L1, hP1m, hs1⟩ := PassC.ofS_atoms (args := args) (s := s) hpl (X := cls) (Y := "java/lang/RuntimeException") (Bundle.fit_spec hcls).1 (by decide) g0 g1 g2 g5 (fun x hx => h x (by simp [pw_oA, hx]))
  obtain ⟨P2, Ps, hlen, L2, hL, hP2m, hlink2, hlink⟩ := Bundle.chainS (args := args) hpl hnZ ["java/lang/Exception"] "java/lang/RuntimeException" (by decide +kernel) (by decide +kernel) (fun x hx => h x (by simp [pw_oA, hx]))
  have hsup : P1.sup = P2.m := Option.some.inj (hs1.symm.trans hP2m)
  have hfound : s.vm.findClass cls = some P1.m.cls := findClass_of_methodNamed hP1m
  cases Option.some.inj (hfoundX.symm.trans hfound)
  obtain ⟨c1, kX', hc1, hk, hord, -, -, hn6⟩ := Cond.instantiable_spec (a' (.instantiable cls 6) (by simp [pw_oA]))
  cases Option.some.inj (hc1.symm.trans hfound)
  cases Option.some.inj (hkX.symm.trans hk)
  have hsel0 : selectMethod e.platform s.vm P1.m.cls T.fill0 = .method T.fill0 := by
    obtain ⟨c2, r2, m2, q1, q2, q3, q4, -⟩ := Cond.selects_spec (a' (.selects cls Bundle.tFill0 Bundle.tFill0) (by simp [pw_oA]))
    cases Option.some.inj (q1.symm.trans hfound)
    cases Option.some.inj (q2.symm.trans (State.methodFound?_of_named Y.fill0 (by decide)))
    cases Option.some.inj (q3.symm.trans Y.fill0)
    rw [Launch.admits_selectMethod X.admits]; exact q4
  have hselF : selectMethod e.platform s.vm P1.m.cls T.fill = .method T.fill := by
    obtain ⟨c2, r2, m2, q1, q2, q3, q4, -⟩ := Cond.selects_spec (a' (.selects cls Bundle.tFill Bundle.tFill) (by simp [pw_oA]))
    cases Option.some.inj (q1.symm.trans hfound)
    cases Option.some.inj (q2.symm.trans (State.methodFound?_of_named Y.fill (by decide)))
    cases Option.some.inj (q3.symm.trans Y.fill)
    rw [Launch.admits_selectMethod X.admits]; exact q4
  obtain ⟨cellS0, hcS0, hiss⟩ := Y.statics
  obtain ⟨u0, hu0⟩ := Cond.staticRefV Y.unassigned L.unassignedStatic L.statics hcS0 hiss (a' (.isRef (.static Bundle.tN "UNASSIGNED_STACK" Bundle.steD)) (by simp [pw_oA]))
  obtain ⟨sen, hsen⟩ := Cond.staticRefV Y.sentinel L.sentinelStatic L.statics hcS0 hiss (a' (.isRef (.static Bundle.tN "SUPPRESSED_SENTINEL" Bundle.listD)) (by simp [pw_oA]))
  obtain ⟨ci198, i198, fB, hk198, hg198, ha198, hsB, -, hnB, htB, hffB⟩ := Cond.ownField (t := .object "java/lang/Object") Y.found L.cls (by decide +kernel) (a' (.fieldLink Bundle.tN 198 Bundle.tN "backtrace" "Ljava/lang/Object;") (by simp [pw_oA])) (a' (.lays Bundle.tN Bundle.tN "backtrace" "Ljava/lang/Object;") (by simp [pw_oA])) e.platform hpl
  obtain ⟨cellS, hcS', heS, -, hkeep⟩ := X.same.2.2.2.2.2 T.aS cellS0 hcS0
  have hcellS : W.heap[T.aS]? = some cellS := hcS'
  have hout' : ∀ i, (⟨T.aS, i⟩ : Loc) ∉ locs := fun i hmem => by
    have := hlocs _ hmem cellS0 hcS0
    rw [hiss] at this; cases this
  have hknownS : cellS.vm ≠ .unknown := by
    rw [heS]; intro hu
    rw [show cellS0.vm = .unknown from hu] at hiss
    cases hiss
  have hneS : T.aS ≠ a := Nat.ne_of_lt (Nat.lt_of_lt_of_le (Array.getElem?_eq_some_iff.mp hcS0).1 hnew)
  obtain ⟨iM, hffM⟩ := Y.msg
  obtain ⟨tyC, dC, hdC, hdnC⟩ := Cond.laysAt hfound hk Y.cause (a' (.lays cls Bundle.tN "cause" "Ljava/lang/Throwable;") (by simp [pw_oA]))
  obtain ⟨tyS, dS, hdS, hdnS⟩ := Cond.laysAt hfound hk Y.stack (a' (.lays cls Bundle.tN "stackTrace" Bundle.steD) (by simp [pw_oA]))
  obtain ⟨tyP, dP, hdP, hdnP⟩ := Cond.laysAt hfound hk Y.supp (a' (.lays cls Bundle.tN "suppressedExceptions" Bundle.listD) (by simp [pw_oA]))
  obtain ⟨tyM, dM, hdM, hdnM⟩ := Cond.laysAt hfound hk hffM (a' (.lays cls Bundle.tN "detailMessage" "Ljava/lang/String;") (by simp [pw_oA]))
  obtain ⟨tyB, dB, hdB, hdnB⟩ := Cond.laysAt hfound hk hffB (a' (.lays cls Bundle.tN "backtrace" "Ljava/lang/Object;") (by simp [pw_oA]))
  have bC := Cond.laysApart hdB hdC hdnB hdnC (by rw [hnB, Y.causeName]; decide)
  have bS := Cond.laysApart hdB hdS hdnB hdnS (by rw [hnB, Y.stackName]; decide)
  have bP := Cond.laysApart hdB hdP hdnB hdnP (by rw [hnB, Y.suppName]; decide)
  have hskip : SkipFacts T e.platform s (fun u => u) u0 ((preparedCellV T.toThrowableT (freshCell P1.m.cls kX) a u0 sen).withEntry W.cur) :=
    ⟨{ ci198 := ci198, i198 := i198, fBack := fB }, ⟨hk198, hg198, ha198, hsB⟩, by
      have := fresh_default (c := P1.m.cls) tyB
      rw [htB] at this
      simpa [preparedCellV, Cell.setSlot, Cell.withEntry, Array.getElem?_setIfInBounds, bC, bS, bP, bC.symm, bS.symm, bP.symm, defaultValue] using this, fun _ _ => rfl⟩
  obtain ⟨tm, methC, cdC, kC, vm₁, hnC, -, -, -, -, -, -, -, hW₁, st1⟩ := Steps.initColdS (tb := p.tables) (e := e) (below := below) (s := s) (U := W) X.here hexec X.warmed hpl hown (t := Bundle.initS cls) rfl rfl (Bundle.fit_spec hcls).2
    (a' (.methodLink own ic (Bundle.initS cls)) (by simp [pw_oA])) (h (.instanceMethod (Bundle.initS cls)) (by simp [pw_oA, Bundle.passSAtoms])) (bytes := b1) (maxL := 2) (h (.code (Bundle.initS cls) b1 2 none) (by simp [pw_oA, Bundle.passSAtoms]))
    (f := g) hg (a := a) (msg := msg) (rest := .ref a :: rest) hstack hd6
  cases Option.some.inj (hnC.symm.trans hP1m)
  have X₁ := X.noted hW₁
  obtain ⟨vm₂, X₂, st2⟩ := X₁.ctorMessageOffV hexec (g := { g with stack := .ref a :: rest }) hg hsize T L Z LZ M LM (P1 :: P2 :: Ps)
    (fun P hP => by
      rcases List.mem_cons.mp hP with rfl | hP
      · exact L1
      · rcases List.mem_cons.mp hP with rfl | hP
        · exact L2
        · exact hL P hP) ⟨hsup, hlink2, hlink⟩ (u0 := u0) (sen := sen) (self := a) hmsg (cell := freshCell P1.m.cls kX) (cellS := cellS)
    hcell (fun _ => by simp) (by simp) rfl rfl hsel0 hselF hcellS hneS hknownS (by rw [hkeep _ (hout' _)]; exact hu0) (by rw [hkeep _ (hout' _)]; exact hsen)
    (Takes.of_laid hk hord tyC (by rw [Y.causeType]; rfl)) (Takes.of_laid hk hord tyS (by rw [Y.stackType]; exact fits_refV_array _ u0)) (Takes.of_laid hk hord tyP (by rw [Y.suppType]; exact fits_refV_object _ sen))
    (Takes.of_laid hk hord tyM (by rw [Y.msgType]; exact fits_refV_object _ ⟨msg, hmsg⟩)) Y.objLocals hskip htr [] hd6
    (by simp only [List.length_cons, hlen]; simp; omega) (by simp only [List.length_cons, hlen]; exact hRlocals)
  obtain ⟨hwalk, hrun, hended, hWU, hsame⟩ := X₂.athrowLeaves hexec (g := { g with stack := .ref a :: rest, pc := g.pc + 3 }) hg hlocked hentered hout (a := a) (rest := rest) rfl hd9 hlocks
  have hlt : a < ((W.setVm vm₁).setVm vm₂).heap.size := (Array.getElem?_eq_some_iff.mp hcell).1
  have hU := heapAt_setCell_self (s := (W.setVm vm₁).setVm vm₂) (plainBareV T.toThrowableT (freshCell P1.m.cls kX) a u0 sen msg) hlt
  refine ⟨_, st1 _ (fun acts => ?_), hrun, hended, hWU, hsame.weaken (fun y hy hlt' => ?_) (Nat.le_refl _) (Nat.le_refl _), _, hU, rfl, rfl⟩
  · rw [doInvoke_state]
    exact st2 _ hwalk
  · rcases List.mem_append.mp hy with h1 | h1
    · exact h1
    · exfalso
      have hb : y.base = a := by
        simp only [List.mem_cons, List.not_mem_nil, or_false] at h1
        rcases h1 with rfl | rfl | rfl | rfl | rfl <;> rfl
      rw [hb] at hlt'
      exact Nat.not_lt.mpr hnew hlt'
end PWX
end
section
theorem pw_weak {tb : Tables} {e : Env} {f : Frame} {below : List Frame} {a b : State} (h : Steps tb e (f :: below) a b) : Steps tb e below a b := by
  obtain ⟨n, hn, w⟩ := h
  exact ⟨n, hn, fun k hk => Within.weaken (mid := [f]) (w k hk)⟩
/-! ## the locals at a method's entry -/
theorem pm_la_len (ad : Nat → Nat) : ∀ as : List Value, (pm_la as).length = (lg_sl (as.map (pw_tr ad))).length
  | [] => rfl
  | v :: t => by
    have ih := pm_la_len ad t
    have h : lg_sl ((v :: t).map (pw_tr ad)) = (if v.category = 2 then [.val (pw_tr ad v), .second] else [.val (pw_tr ad v)]) ++ lg_sl (t.map (pw_tr ad)) := by
      rw [List.map_cons]
      unfold lg_sl
      rw [List.flatMap_cons, pw_tr_cat]
    rw [h]
    cases v <;> simp [pm_la, Value.category, ih]
theorem pm_la_get (ad : Nat → Nat) : ∀ (as : List Value) (off q k : Nat) (v : Value), pm_get (pm_la as ++ List.replicate k none) q = some v → (off + q, pw_tr ad v) ∈ lv_args off (as.map (pw_tr ad))
  | [], off, q, k, v, h => by
    exfalso
    unfold pm_get at h
    simp only [pm_la, List.nil_append] at h
    rw [List.getD_eq_getElem?_getD, List.getElem?_replicate] at h
    split at h <;> cases h
  | x :: t, off, q, k, v, h => by
    rw [List.map_cons, lv_args, pw_tr_cat]
    by_cases hc : x.category = 2
    · have hl : pm_la (x :: t) = some x :: none :: pm_la t := by cases x <;> first | rfl | (simp [Value.category] at hc)
      rw [hl] at h
      rcases q with _ | _ | q
      · have h1 : x = v := by simpa [pm_get] using h
        subst h1
        exact List.mem_cons_self
      · simp [pm_get] at h
      · have h' : pm_get (pm_la t ++ List.replicate k none) q = some v := by simpa [pm_get] using h
        have := pm_la_get ad t (off + 2) q k v h'
        rw [if_pos hc]
        refine List.mem_cons_of_mem _ ?_
        rw [show off + (q + 1 + 1) = off + 2 + q by omega]
        exact this
    · have hl : pm_la (x :: t) = some x :: pm_la t := by cases x <;> first | rfl | (simp [Value.category] at hc)
      rw [hl] at h
      rcases q with _ | q
      · have h1 : x = v := by simpa [pm_get] using h
        subst h1
        exact List.mem_cons_self
      · have h' : pm_get (pm_la t ++ List.replicate k none) q = some v := by simpa [pm_get] using h
        have := pm_la_get ad t (off + 1) q k v h'
        rw [if_neg hc]
        refine List.mem_cons_of_mem _ ?_
        rw [show off + (q + 1) = off + 1 + q by omega]
        exact this
/-- what a method's entry lays -/
theorem pw_ent {ad : Nat → Nat} {j : Nat} {as : List Value} {L : pm_L} (h : pm_en j as = some L) : L.length = tb_mL j ∧ pw_L ad ((lg_sl (as.map (pw_tr ad)) ++ List.replicate (tb_mL j - (lg_sl (as.map (pw_tr ad))).length) Slot.unset).toArray) L := by
  unfold pm_en at h
  split at h
  · rename_i hle
    cases h
    have hlen : (pm_la as ++ List.replicate (tb_mL j - (pm_la as).length) (none : Option Value)).length = tb_mL j := by simp; omega
    refine ⟨hlen, ?_⟩
    obtain ⟨h1, h2, h3⟩ := lv_entry (as.map (pw_tr ad)) (n := tb_mL j) (by rw [← pm_la_len]; exact hle)
    refine ⟨h1.trans hlen.symm, h2, fun q v hq => ?_⟩
    have := h3 _ (pm_la_get ad as 0 q _ v hq)
    simpa using this
  · cases h
/-! ## throws -/
/-- the walk stands as if the method had been called just now -/
theorem pw_rebase {p : Program} {l : Launch} {e : Env} {R R' : Room} {s : State} {m : MethodId} {args : Array Value} {below : List Frame} {meth : Method} {c : Code} {T : State} {locs : List Loc} {cells slots : Nat} (X : Stand p l e R s m args below meth c T locs cells slots) (h1 : R'.frames ≤ R.frames) (h2 : R'.locals ≤ R.locals) (h3 : cells + R'.cells ≤ R.cells) (h4 : slots + R'.slots ≤ R.slots) :
    Stand p l e R' (T.setFrames (.invoking m args :: below)) m args below meth c T [] 0 0 ∧ ∀ U : State, (T.setFrames (.invoking m args :: below)).WarmedH U.vm → ∀ (k n : Nat), (T.setFrames (.invoking m args :: below)).sameButNew ({ U with vm := T.vm } : State) [] k n → s.WarmedH U.vm ∧ s.sameButNew ({ U with vm := s.vm } : State) locs (cells + k) (slots + n) := by
  obtain ⟨g₀, hfr⟩ := X.frames_eq
  have hcur : T.cur < T.threads.size := State.cur_lt_of_frames hfr
  have hF : (T.setFrames (.invoking m args :: below)).frames = .invoking m args :: below := State.frames_setFrames _ hcur
  obtain ⟨t1, ht1, -⟩ := State.frames_cons hF
  have hcur1 : (T.setFrames (.invoking m args :: below)).cur < (T.setFrames (.invoking m args :: below)).threads.size := State.cur_lt_of_frames hF
  have hback : (T.setFrames (.invoking m args :: below)).setFrames (.java g₀ :: below) = T := by
    rw [State.setFrames_setFrames, ← hfr]
    obtain ⟨t2, ht2, -⟩ := State.frames_cons hfr
    exact State.setFrames_self ht2
  refine ⟨⟨X.admits, X.cas, X.clock, hF, ?_, ?_, X.method', X.code, X.here, X.tail, State.WarmedH.refl (T.setFrames (.invoking m args :: below)), by rw [State.stackLimits_setFrames], by rw [State.stackBytes_setFrames], ?_⟩, fun U hU k n hs => ⟨State.WarmedH.trans X.warmed hU, ?_⟩⟩
  · obtain ⟨r1, r2, r3, r4⟩ := State.hasRoom_stack X.room
    have r5 := State.hasRoom_real X.room
    have h := X.room
    simp only [State.hasRoom, Bool.and_eq_true, decide_eq_true_eq] at h
    rw [State.localsInUse_invoking X.frames X.method X.code] at r3 r4 r5
    rw [X.frames, List.length_cons] at r1 r2
    have hUse := State.localsInUse_invoking hF X.method' X.code
    simp only [State.hasRoom, Bool.and_eq_true, decide_eq_true_eq, hF, hUse, List.length_cons, State.stackLimits_setFrames, State.stackBytes_setFrames, X.limits, X.bytes]
    refine ⟨⟨⟨⟨by omega, by omega, by omega, by omega, by omega, h.1.1.1.2.2.2.2.2⟩, ?_⟩, ?_⟩, X.book⟩
    · have := h.1.1.2
      have := X.heapSize
      show T.heap.size + R'.cells ≤ _
      omega
    · have := h.1.2
      have := X.used
      show T.slotsUsed + R'.slots ≤ _
      omega
  · have hh := X.hears
    have hal := X.warmed.alike
    cases below with
    | nil =>
      simp only [State.hears] at hh ⊢
      rw [show (T.setFrames (.invoking m args :: [])).vm = T.vm from rfl, hal.method?]
      exact hh
    | cons f r =>
      cases f <;> simp only [State.hears] at hh ⊢ <;> first | rfl | (rw [State.code?_eq] at hh ⊢; rw [show (T.setFrames (.invoking m args :: _ :: r)).vm = T.vm from rfl, hal.method?]; exact hh) | (rw [show (T.setFrames (.invoking m args :: _ :: r)).vm = T.vm from rfl, hal.method?]; exact hh)
  · have h := (State.sameButNew.refl (T.setFrames (.invoking m args :: below)) ht1).setFrames (.java g₀ :: below) hcur1
    rw [hback] at h
    exact h
  · have h' : T.sameButNew ({ U with vm := T.vm } : State) [] k n := ⟨by have h1 := hs.1; rw [State.setFrames_setFrames] at h1; exact h1, hs.2⟩
    have h9 := X.same.trans (h'.setVm s.vm)
    rw [List.append_nil] at h9
    exact h9
/-- what the tables say of a throw -/
def pk_x (s0 : State) (i pc idx x : Nat) : Prop := ∃ (sidx ic i1 : Nat) (b1 : ByteArray) (tx : String) (sa : Nat), decode (tb_by i) (pc + 3) = .ok (.dup, 1) ∧ decode (tb_by i) (pc + 4) = .ok (.ldc sidx, 2) ∧ decode (tb_by i) (pc + 6) = .ok (.invokespecial ic, 3) ∧ decode (tb_by i) (pc + 9) = .ok (.athrow, 1) ∧ (∀ y ∈ tableOf (tb_hh i), covers y (pc + 9) = false) ∧ (Cond.classLink (tb_nm i).cls idx (tb_xn x)).before #[] s0 = true ∧ (Cond.instantiable (tb_xn x) 6).before #[] s0 = true ∧ (Cond.initialized (tb_xn x)).before #[] s0 = true ∧ vk_R (tb_nm i).cls sidx tx sa s0 ∧ Bundle.fit (tb_xn x) = true ∧ (decode b1 0 = .ok (.aload_n 0, 1) ∧ decode b1 1 = .ok (.aload_n 1, 1) ∧ decode b1 2 = .ok (.invokespecial i1, 3) ∧ decode b1 5 = .ok (.return_, 1)) ∧
  ∀ U : State, s0.WarmedH U.vm → (∀ q : Nat, q < s0.heap.size → U.heap[q]? = s0.heap[q]?) → ∀ (args : Array Value), ∀ w ∈ pw_oA (tb_nm i).cls ic (tb_xn x) i1 b1, w.before args U = true
section PWT
variable {p : Program} {l : Launch} {e : Env} {R : Room} {s : State} {m : MethodId} {args : Array Value} {below : List Frame} {meth : Method} {c : Code} {H : Heap} {locs : List Loc} {pc : Nat} {ls : Array Slot} {s0 : State} {D : va_G} {B : Nat → Nat} {M : pm_M} {i : Nat} {m0 k0 : Nat}
theorem pw_throw (hfl : l.flags = pinnedFlags ++ [noTraceFlag]) (hC : pw_C s0 i p s m meth c) (hG : pw_G s0 D B) {idx x : Nat} (hd : decode (tb_by i) pc = .ok (.new idx, 3)) (hx9 : pk_x s0 i pc idx x) (hls : ls.size = tb_mL i) (hW : pw_W s0 D (pw_ad s0 B) H M) (hlc : ∀ y ∈ locs, s0.heap.size ≤ y.base) (hm : m0 ≤ M.1) (hk : k0 ≤ M.2.1) (hR : 8 ≤ R.frames ∧ 200 ≤ R.locals) (hc1 : M.1 + 1 - m0 ≤ R.cells) (hc2 : M.2.1 + 6 - k0 ≤ R.slots) {st : List Value} (hst : pm_cs st ≤ 8) :
    W p l e R s m args below meth c H locs (M.1 - m0) (M.2.1 - k0) (pw_Q s0 D (pw_ad s0 B) below s m0 k0 (.inr x) (pm_mk M 6 (.inr (1000, [])))) (F0 m pc ls (st.map (pw_tr (pw_ad s0 B)))) := by
  obtain ⟨hx, hb, hml, hown, hret, hlk, hname, htab, hW0⟩ := hC
  obtain ⟨sidx, ic, i1, b1, tx, sa, d3, d4, d6, d9, hcov, w1, w2, w3, hZ, hfit, ⟨g0, g1, g2, g5⟩, hat⟩ := hx9
  intro T hT X
  obtain ⟨X0, back⟩ := pw_rebase (R' := { frames := R.frames, locals := R.locals, cells := 1, slots := 6 }) X (Nat.le_refl _) (Nat.le_refl _) (by show _ + 1 ≤ _; omega) (by show _ + 6 ≤ _; omega)
  generalize hs1 : T.setFrames (.invoking m args :: below) = s1 at X0 back
  have hvm1 : s1.vm = T.vm := by rw [← hs1]; rfl
  have hh1 : s1.heap = H := by rw [← hs1]; exact hT
  have hW1 : s0.WarmedH s1.vm := by rw [hvm1]; exact State.WarmedH.trans hW0 X.warmed
  have hown1 : s1.vm.findClass (tb_nm i).cls = some m.cls := by rw [hvm1, X.warmed.alike.findClass]; exact hown
  have htr : e.platform.stackTraces = false := Launch.traces_off hfl X.admits
  have h8 : s1.heap.size = H.size := by rw [hh1]
  have hat1 : ∀ w ∈ pw_oA (tb_nm i).cls ic (tb_xn x) i1 b1, w.before args s1 = true := hat s1 hW1 (fun q hq => by rw [hh1]; exact hW.2.1 q hq) args
  obtain ⟨cX, kX9, hfX, hkX9, -⟩ := Cond.instantiable_spec (args := args) (s := s1) (pw_wd hW1 rfl w2)
  have key : W p l e { frames := R.frames, locals := R.locals, cells := 1, slots := 6 } s1 m args below meth c H [] 0 0 (fun t => t.status = .running ∧ Ended t below (.threw H.size) ∧ s1.WarmedH t.vm ∧ s1.sameButNew ({ t with vm := s1.vm } : State) [] 1 6 ∧ ∃ ce, t.heap[H.size]? = some ce ∧ ce.vm = .none ∧ s1.vm.findClass (tb_xn x) = some ce.cls) (F0 m pc ls (st.map (pw_tr (pw_ad s0 B)))) := by
    refine W.newcK hx hb hown1 (pw_wd hW1 rfl w1) (pw_wd hW1 rfl w2) (pw_wd hW1 rfl w3) rfl hd (Nat.le_refl _) (Nat.le_refl _) hfX rfl fun H1 kC hkC e1 z1 o1 => ?_
    refine lv_dup hx hb d3 rfl ?_
    refine va_ldcS hx hb hown1 (hZ.warm hW1) d4 ?_
    intro T2 hT2 X2
    obtain ⟨U, hsteps, hrun, hend, hWU, hsame, ce, hce, K1, K2⟩ := pw_ctorT X2 hx htr (own := (tb_nm i).cls) (cls := tb_xn x) (ic := ic) hown1 hfit g0 g1 g2 g5 hat1 (fun y hy => by cases hy) hfX hkC (a := H.size) (by rw [hT2]; exact e1) (by rw [h8]; exact Nat.le_refl _) (msg := .ref sa) rfl
      (g := F0 m (pc + 3 + 1 + 2) ls (.ref sa :: .ref H.size :: .ref H.size :: st.map (pw_tr (pw_ad s0 B)))) rfl (by rw [hml]; exact hls) rfl rfl (rest := st.map (pw_tr (pw_ad s0 B))) rfl (by rw [hb]; exact d6) (by rw [hb]; exact d9) (by rw [htab]; exact hcov) (by show 5 < R.frames; omega) (by
        have : ((Value.ref H.size :: st.map (pw_tr (pw_ad s0 B))).map fun v => v.category).sum = 1 + pm_cs st := by rw [List.map_cons, List.sum_cons, pw_cs]; rfl
        rw [this]
        show 2 * 0 + _ + _ ≤ R.locals
        omega) hlk
    exact ⟨U, hsteps, hrun, hend, hWU, hsame, ce, hce, K1, by rw [K2]; exact hfX⟩
  obtain ⟨t, hsteps, h1, h2, h3, h4, ce, h5, h6, h7⟩ := key T hT X0
  have h4' : s1.sameButNew ({ t with vm := T.vm } : State) [] 1 6 := by rw [← hvm1]; exact h4
  obtain ⟨b1, b2⟩ := back t h3 1 6 h4'
  obtain ⟨-, z2, z3, -, -, z6⟩ := h4
  have z3' : t.heap.size ≤ H.size + 1 := by rw [← h8]; exact z3
  have hlt : H.size < t.heap.size := (Array.getElem?_eq_some_iff.mp h5).1
  have hz : t.heap.size = H.size + 1 := by omega
  have hsame : ∀ q : Nat, q < H.size → t.heap[q]? = H[q]? := by
    intro q hq
    have hq1 : s1.heap[q]? = some s1.heap[q] := Array.getElem?_eq_getElem (by rw [h8]; exact hq)
    obtain ⟨c', g1, g2, g3, g4⟩ := z6 q _ hq1
    have e1 : c' = s1.heap[q] := by
      rw [g2]
      have e2 : c'.slots = (s1.heap[q]'(by rw [h8]; exact hq)).slots := Array.ext_getElem? (fun k => g4 k (fun h => by cases h))
      rw [e2]
    have g1' : t.heap[q]? = some c' := g1
    rw [g1', e1, ← hq1, hh1]
  have hWn : pw_W s0 D (pw_ad s0 B) t.heap (pm_mk M 6 (.inr (1000, []))) := hW.mk hz hsame (fun r hr => by
    exfalso
    have : vwCl.length ≤ 1000 := by decide
    have := (List.getElem?_eq_some_iff.mp hr).1
    omega)
  have e9 : pw_ad s0 B (7 + (M.1 + 1)) = H.size := by
    rw [show 7 + (M.1 + 1) = 8 + M.1 by omega]
    exact pw_ad_new hW
  refine ⟨t, hsteps, .threw H.size, locs, h1, h2, b1, ?_, hlc, hWn, ?_⟩
  · have e1 : M.1 - m0 + 1 = (pm_mk M 6 (.inr (1000, []))).1 - m0 := by show _ = M.1 + 1 - m0; omega
    have e2 : M.2.1 - k0 + 6 = (pm_mk M 6 (.inr (1000, []))).2.1 - k0 := by show _ = M.2.1 + 6 - k0; omega
    rw [← e1, ← e2]
    exact b2
  · show Outcome.threw H.size = .threw (pw_ad s0 B (7 + (M.1 + 1))) ∧ ∃ cell : Cell, t.heap[pw_ad s0 B (7 + (M.1 + 1))]? = some cell ∧ cell.vm.isStatics = false ∧ s0.vm.findClass (tb_xn x) = some cell.cls
    rw [e9]
    exact ⟨rfl, ce, h5, by rw [h6]; rfl, by rw [← hW1.alike.findClass]; exact h7⟩
end PWT
/-- what the tables say of a place where a call may throw -/
def pk_h (s0 : State) (i pc : Nat) : Prop := ∀ x : Nat, match tb_hn i pc x with
  | none => True
  | some none => ∀ y ∈ tableOf (tb_hh i), covers y pc = false
  | some (some h) => pw_hs s0 (tb_nm i).cls (tb_xn x) pc (tableOf (tb_hh i)) h
def pk_l (s0 : State) (i idx a : Nat) : Prop := (Cond.methodLink (tb_nm i).cls idx (tb_nm a)).before #[] s0 = true ∨ ∃ host, (Cond.methodLinkNest (tb_nm i).cls idx (tb_nm a) host).before #[] s0 = true
def pk_c (s0 : State) (i pc : Nat) (ins : Instr) (a b : Nat) : Prop := match ins with
  | .new idx => 1000 ≤ a → pk_x s0 i pc idx a
  | .invokevirtual idx => pw_md s0 a ∧ pk_h s0 i pc ∧ pk_l s0 i idx a ∧ (Cond.instanceMethod (tb_nm a)).before #[] s0 = true ∧ (Cond.selects (tb_nm a).cls (tb_nm a) (tb_nm a)).before #[] s0 = true ∧ tb_cn (tb_rc a) = (tb_nm a).cls ∧ (parseMethodDescriptor (tb_nm a).desc).map (fun d => d.parameters.length + 1) = some b
  | .invokestatic idx => a ≤ 1000 → pw_md s0 a ∧ pk_h s0 i pc ∧ pk_l s0 i idx a ∧ (Cond.static (tb_nm a)).before #[] s0 = true ∧ (parseMethodDescriptor (tb_nm a).desc).map (fun d => d.parameters.length) = some b
  | .invokespecial idx => a < 1000 → pw_md s0 a ∧ pk_h s0 i pc ∧ pk_l s0 i idx a ∧ (Cond.instanceMethod (tb_nm a)).before #[] s0 = true ∧ tb_hh a = [] ∧ tb_re a = none ∧ (tb_nm a).name = "<init>" ∧ (parseMethodDescriptor (tb_nm a).desc).map (fun d => d.parameters.length + 1) = some b
  | _ => True
def pk_T (s0 : State) (B : Nat → Nat) : Prop := ∀ (i pc : Nat) (ins : Instr) (a b : Nat) (v : Int32) (ts : List Nat), tb_in i pc = some (ins, a, b, v, ts) → decode (tb_by i) pc = .ok (ins, pk_len b ins) ∧ pk_w s0 B i pc ins a b v ts ∧ pk_c s0 i pc ins a b
/-- memory only grows -/
theorem pm_nx_grow {ins : Instr} {a b : Nat} {v : Int32} {ts : List Nat} {pc : Nat} {L : pm_L} {st : List Value} {M : pm_M} {F : pm_F} (h : pm_nx ins a b v ts pc L st M = some F) : M.1 ≤ F.2.2.2.1 ∧ M.2.1 ≤ F.2.2.2.2.1 := by
  have g0 : ∀ {A : Nat} {L : pm_L} {st : List Value} {F : pm_F}, some (A, L, st, M) = some F → M.1 ≤ F.2.2.2.1 ∧ M.2.1 ≤ F.2.2.2.2.1 := by
    intro A L st F h
    cases h
    exact ⟨Nat.le_refl _, Nat.le_refl _⟩
  have g1 : ∀ {A : Nat} {L : pm_L} {st : List Value} {F : pm_F} {q : Nat} {e : pm_E}, some (A, L, st, pm_up M q e) = some F → M.1 ≤ F.2.2.2.1 ∧ M.2.1 ≤ F.2.2.2.2.1 := by
    intro A L st F q e h
    cases h
    exact ⟨Nat.le_refl _, Nat.le_refl _⟩
  have g2 : ∀ {A : Nat} {L : pm_L} {st : List Value} {F : pm_F} {q : Nat} {e : pm_E}, some (A, L, st, pm_mk M q e) = some F → M.1 ≤ F.2.2.2.1 ∧ M.2.1 ≤ F.2.2.2.2.1 := by
    intro A L st F q e h
    cases h
    exact ⟨Nat.le_succ _, Nat.le_add_right _ _⟩
  cases ins <;> simp only [pm_nx, pm_i1, pm_i2, pm_l1, pm_l2, pm_li, pm_r1, pm_r2, pm_vr, pm_vir, pm_v1, pm_cp, pm_arr, pm_obj, pm_ld, pm_al, pm_as, pm_ir] at h <;> first | (cases h; done) | exact g0 h | exact g1 h | exact g2 h | skip
  all_goals (repeat' (first | exact g0 h | exact g1 h | exact g2 h | (cases h; done) | split at h))
theorem pm_ex_grow : ∀ (n d i pc : Nat) (L : pm_L) (st : List Value) (M : pm_M) (r : pm_R) (M' : pm_M), pm_ex n d i pc L st M = some (r, M') → M.1 ≤ M'.1 ∧ M.2.1 ≤ M'.2.1 := by
  intro n
  induction n with
  | zero => intro d i pc L st M r M' h; cases h
  | succ n ih =>
    intro d i pc L st M r M' h
    cases hs : pm_st i pc L st M with
    | none => rw [pm_ex, hs] at h; cases h
    | some S =>
      rw [pm_ex, hs] at h
      rcases S with F | ⟨j, as, rest⟩ | ⟨r1, M1⟩
      · have h2 := ih _ _ _ _ _ _ _ _ h
        have h1 : M.1 ≤ F.2.2.2.1 ∧ M.2.1 ≤ F.2.2.2.2.1 := by
          unfold pm_st at hs
          repeat' (first | (cases hs; done) | (obtain ⟨F', hF, hF2⟩ := Option.map_eq_some_iff.mp hs; cases hF2; exact pm_nx_grow hF) | (unfold pm_cl at hs) | split at hs)
        exact ⟨Nat.le_trans h1.1 h2.1, Nat.le_trans h1.2 h2.2⟩
      · simp only at h
        split at h
        · cases h
        · split at h
          · cases h
          · rename_i v M2 he
            have h1 := ih _ _ _ _ _ _ _ _ he
            have h2 := ih _ _ _ _ _ _ _ _ h
            exact ⟨Nat.le_trans h1.1 h2.1, Nat.le_trans h1.2 h2.2⟩
          · rename_i x M2 he
            have h1 := ih _ _ _ _ _ _ _ _ he
            split at h
            · cases h
            · cases h; exact h1
            · have h2 := ih _ _ _ _ _ _ _ _ h
              exact ⟨Nat.le_trans h1.1 h2.1, Nat.le_trans h1.2 h2.2⟩
      · cases h
        unfold pm_st at hs
        repeat' (first | (cases hs; exact ⟨Nat.le_refl _, Nat.le_refl _⟩) | (cases hs; exact ⟨Nat.le_succ _, Nat.le_add_right _ _⟩) | (cases hs; done) | (obtain ⟨F', hF, hF2⟩ := Option.map_eq_some_iff.mp hs; cases hF2; done) | (unfold pm_cl at hs) | split at hs)
end
section
def pm_ca (n d i pc j : Nat) (L L0 : pm_L) (rest : List Value) (M : pm_M) : Option (pm_R × pm_M) := match d with
  | 0 => none
  | d + 1 => match pm_ex n d j 0 L0 [] M with
    | none => none
    | some (.inl v, M') => pm_ex n (d + 1) i (pc + 3) L (v.toList ++ rest) M'
    | some (.inr x, M') => match tb_hn i pc x with
      | none => none
      | some none => some (.inr x, M')
      | some (some h) => pm_ex n (d + 1) i h L [.ref (7 + M'.1)] M'
section PW9
variable {p : Program} {l : Launch} {e : Env} {R : Room} {s : State} {m : MethodId} {args : Array Value} {below : List Frame} {meth : Method} {c : Code} {H : Heap} {T : State} {locs : List Loc} {cells slots : Nat} {pc : Nat} {ls : Array Slot} {s0 : State} {D : va_G} {B : Nat → Nat} {M : pm_M} {i a b idx : Nat} {st : List Value}
theorem pw_split {st : List Value} {b : Nat} (ad : Nat → Nat) : (st.map (pw_tr ad)) = (((st.take b).reverse).map (pw_tr ad)).reverse ++ (st.drop b).map (pw_tr ad) := by
  rw [← List.map_reverse, List.reverse_reverse, ← List.map_append, List.take_append_drop]
theorem pw_head {M : pm_M} {a b : Nat} {st : List Value} (h91 : b ≤ st.length) (h : pm_rc M a (st.take b).reverse = true) : ∃ (q : Nat) (al : List Value) (fs : List Value), (st.take b).reverse = .ref q :: al ∧ al.length + 1 = b ∧ M.2.2 q = .inr (tb_rc a, fs) ∧ tb_rc a < vwCl.length := by
  unfold pm_rc at h
  split at h
  · rename_i q al hq
    split at h
    · rename_i c9 fs hM
      have h9 := of_decide_eq_true h
      refine ⟨q, al, fs, hq, ?_, by rw [← h9.2]; exact hM, by rw [← h9.2]; exact h9.1⟩
      have := congrArg List.length hq
      simp at this
      omega
    · cases h
  · cases h
theorem pw_ivS9 (hC : pw_C s0 i p s m meth c) (X : Stand p l e R s m args below meth c T locs cells slots) (y1 : pw_md s0 a) (y3 : pk_l s0 i idx a) (y4 : (Cond.static (tb_nm a)).before #[] s0 = true) (y5 : (parseMethodDescriptor (tb_nm a).desc).map (fun d => d.parameters.length) = some b) (h91 : b ≤ st.length) (hdg : decode (tb_by i) pc = .ok (.invokestatic idx, 3)) : pw_iv p l e R s m args below meth c T locs cells slots (F0 m pc ls (st.map (pw_tr (pw_ad s0 B)))) ((st.drop b).map (pw_tr (pw_ad s0 B))) (((st.take b).reverse).map (pw_tr (pw_ad s0 B))) a := by
  obtain ⟨hx, hb, hml, hown, hret, hlk, hname, htab, hW0⟩ := hC
  refine pw_ivS X hx hW0 hown y1 y4 y3 ?_ rfl (pw_split _) (by rw [hb]; exact hdg)
  rw [y5]
  simp
  omega
theorem pw_ivV9 (hC : pw_C s0 i p s m meth c) (hG : pw_G s0 D B) (hW : pw_W s0 D (pw_ad s0 B) H M) (hTh : T.heap = H) (X : Stand p l e R s m args below meth c T locs cells slots) (y1 : pw_md s0 a) (y3 : pk_l s0 i idx a) (y4 : (Cond.instanceMethod (tb_nm a)).before #[] s0 = true) (y5 : (Cond.selects (tb_nm a).cls (tb_nm a) (tb_nm a)).before #[] s0 = true) (y6 : tb_cn (tb_rc a) = (tb_nm a).cls) (y7 : (parseMethodDescriptor (tb_nm a).desc).map (fun d => d.parameters.length + 1) = some b) (h91 : b ≤ st.length) (h94 : pm_rc M a (st.take b).reverse = true) (hdg : decode (tb_by i) pc = .ok (.invokevirtual idx, 3)) : pw_iv p l e R s m args below meth c T locs cells slots (F0 m pc ls (st.map (pw_tr (pw_ad s0 B)))) ((st.drop b).map (pw_tr (pw_ad s0 B))) (((st.take b).reverse).map (pw_tr (pw_ad s0 B))) a := by
  obtain ⟨hx, hb, hml, hown, hret, hlk, hname, htab, hW0⟩ := hC
  obtain ⟨hB, hK, hU, hN, hcn⟩ := hG
  obtain ⟨q, al, fs, e1, e2, e3, e4⟩ := pw_head h91 h94
  obtain ⟨r9, hr9⟩ : ∃ r9, vwCl[tb_rc a]? = some r9 := ⟨_, List.getElem?_eq_getElem e4⟩
  have g0 := hW.2.2 q
  rw [e3] at g0
  obtain ⟨cellV, g1, g2, g3, -⟩ := g0 r9 hr9
  have hcls0 := (hK.1 _ r9 hr9).2
  have hsp := pw_split (st := st) (b := b) (pw_ad s0 B)
  rw [e1] at hsp ⊢
  refine pw_ivV (argsL := al.map (pw_tr (pw_ad s0 B))) (b := pw_ad s0 B q) X hx hW0 hown y1 y4 y5 y3 ?_ (by rw [hTh]; exact g1) g3 (by rw [← y6, ← hcn _ r9 hr9, g2]; exact hcls0.1) rfl ?_ (by rw [hb]; exact hdg)
  · cases hp : parseMethodDescriptor (tb_nm a).desc with
    | none => rw [hp] at y7; cases y7
    | some d =>
      rw [hp] at y7
      have h9 : d.parameters.length + 1 = b := Option.some.inj y7
      simp
      omega
  · show st.map (pw_tr (pw_ad s0 B)) = _
    rw [hsp]
    simp [pw_tr]
theorem pw_ivI9 (hC : pw_C s0 i p s m meth c) (X : Stand p l e R s m args below meth c T locs cells slots) (y1 : pw_md s0 a) (y3 : pk_l s0 i idx a) (y4 : (Cond.instanceMethod (tb_nm a)).before #[] s0 = true) (y5 : tb_hh a = []) (y6 : tb_re a = none) (y6' : (tb_nm a).name = "<init>") (y7 : (parseMethodDescriptor (tb_nm a).desc).map (fun d => d.parameters.length + 1) = some b) (h91 : b ≤ st.length) (h94 : pm_rc M a (st.take b).reverse = true) (hdg : decode (tb_by i) pc = .ok (.invokespecial idx, 3)) : pw_iv p l e R s m args below meth c T locs cells slots (F0 m pc ls (st.map (pw_tr (pw_ad s0 B)))) ((st.drop b).map (pw_tr (pw_ad s0 B))) (((st.take b).reverse).map (pw_tr (pw_ad s0 B))) a := by
  obtain ⟨hx, hb, hml, hown, hret, hlk, hname, htab, hW0⟩ := hC
  obtain ⟨q, al, fs, e1, e2, e3, e4⟩ := pw_head h91 h94
  have hsp := pw_split (st := st) (b := b) (pw_ad s0 B)
  rw [e1] at hsp ⊢
  refine pw_ivI (argsL := al.map (pw_tr (pw_ad s0 B))) (b := pw_ad s0 B q) X hx hW0 hown y1 y5 y6 y6' y4 y3 ?_ rfl ?_ (by rw [hb]; exact hdg)
  · cases hp : parseMethodDescriptor (tb_nm a).desc with
    | none => rw [hp] at y7; cases y7
    | some d =>
      rw [hp] at y7
      have h9 : d.parameters.length + 1 = b := Option.some.inj y7
      simp
      omega
  · show st.map (pw_tr (pw_ad s0 B)) = _
    rw [hsp]
    simp [pw_tr]
end PW9
set_option maxHeartbeats 4000000 in
/-- WHAT THE PURE MACHINE DOES, THE MACHINE DOES. -/
theorem pw_sound {s0 : State} {D : va_G} {B : Nat → Nat} {l : Launch} (hfl : l.flags = pinnedFlags ++ [noTraceFlag]) (hG : pw_G s0 D B) (hT : pk_T s0 B) : ∀ (n d i pc : Nat) (L : pm_L) (st : List Value) (M : pm_M) (r : pm_R) (M' : pm_M), pm_ex n d i pc L st M = some (r, M') →
    ∀ {p : Program} {e : Env} {R : Room} {s : State} {m : MethodId} {args : Array Value} {below : List Frame} {meth : Method} {c : Code} {H : Heap} {locs : List Loc} {ls : Array Slot} {m0 k0 : Nat}, pw_C s0 i p s m meth c → L.length = tb_mL i → pw_L (pw_ad s0 B) ls L → pw_W s0 D (pw_ad s0 B) H M → (∀ y ∈ locs, s0.heap.size ≤ y.base) → m0 ≤ M.1 → k0 ≤ M.2.1 → M'.1 - m0 ≤ R.cells → M'.2.1 - k0 ≤ R.slots → d + 8 ≤ R.frames → 100 * d + 200 ≤ R.locals →
    W p l e R s m args below meth c H locs (M.1 - m0) (M.2.1 - k0) (pw_Q s0 D (pw_ad s0 B) below s m0 k0 r M') (F0 m pc ls (st.map (pw_tr (pw_ad s0 B)))) := by
  intro n
  induction n with
  | zero => intro d i pc L st M r M' h; cases h
  | succ n ih =>
    intro d i pc L st M r M' h p e R s m args below meth c H locs ls m0 k0 hC hLn hL hW hlc hm hk hr1 hr2 hr3 hr4
    have hgrow := pm_ex_grow _ _ _ _ _ _ _ _ _ h
    -- the steps that go on in the frame
    have step : ∀ (ins : Instr) (a b : Nat) (v : Int32) (ts : List Nat) (F : pm_F), tb_in i pc = some (ins, a, b, v, ts) → pm_nx ins a b v ts pc L st M = some F → ((∃ k, ins = .new k) → a < 1000) → ((∃ k, ins = .invokespecial k) → 1000 ≤ a) → ((∃ k, ins = .invokestatic k) → 1001 ≤ a) → (((∃ k, ins = .invokespecial k) ∨ ∃ k, ins = .invokestatic k) → pm_cs st ≤ 12) → pm_ex n d i F.1 F.2.1 F.2.2.1 F.2.2.2 = some (r, M') →
        W p l e R s m args below meth c H locs (M.1 - m0) (M.2.1 - k0) (pw_Q s0 D (pw_ad s0 B) below s m0 k0 r M') (F0 m pc ls (st.map (pw_tr (pw_ad s0 B)))) := by
      intro ins a b v ts F ht hF q1 q2 q3 q4 hex
      obtain ⟨t1, t2, -⟩ := hT i pc ins a b v ts ht
      have g1 := pm_nx_grow hF
      have g2 := pm_ex_grow _ _ _ _ _ _ _ _ _ hex
      exact pw_nx hC hG t1 t2 hF q1 q2 q3 q4 hLn hL hW hlc hm hk ⟨by omega, by omega⟩ (by omega) (by omega) (fun ls' H' locs' k1 k2 k3 k4 => ih d i _ _ _ _ r M' hex hC k2 k1 k3 k4 (by omega) (by omega) hr1 hr2 hr3 hr4)
    -- the calls
    have call : ∀ (j : Nat) (as rest : List Value) (L0 : pm_L) (idx : Nat) (ins : Instr), pw_md s0 j → pk_h s0 i pc → pm_en j as = some L0 → pm_cs rest ≤ 8 → decode (tb_by i) pc = .ok (ins, 3) → (∀ T : State, T.heap = H → Stand p l e R s m args below meth c T locs (M.1 - m0) (M.2.1 - k0) → pw_iv p l e R s m args below meth c T locs (M.1 - m0) (M.2.1 - k0) (F0 m pc ls (st.map (pw_tr (pw_ad s0 B)))) (rest.map (pw_tr (pw_ad s0 B))) (as.map (pw_tr (pw_ad s0 B))) j) →
        pm_ca n d i pc j L L0 rest M = some (r, M') →
        W p l e R s m args below meth c H locs (M.1 - m0) (M.2.1 - k0) (pw_Q s0 D (pw_ad s0 B) below s m0 k0 r M') (F0 m pc ls (st.map (pw_tr (pw_ad s0 B)))) := by
      intro j as rest L0 idx ins hmd hph hen hcs hdg hiv hex
      cases d with
      | zero => cases hex
      | succ d =>
        simp only [pm_ca] at hex
        cases hce : pm_ex n d j 0 L0 [] M with
        | none => rw [hce] at hex; cases hex
        | some rm =>
          obtain ⟨rc, M1⟩ := rm
          rw [hce] at hex
          have gc := pm_ex_grow _ _ _ _ _ _ _ _ _ hce
          obtain ⟨hx, hb, hml, hown, hret, hlk, hname, htab, hW0⟩ := id hC
          obtain ⟨w1, w2, w3, w4, w5⟩ := id hmd
          have hM1 : M1.1 ≤ M'.1 ∧ M1.2.1 ≤ M'.2.1 := by
            cases rc with
            | inl v => exact pm_ex_grow _ _ _ _ _ _ _ _ _ hex
            | inr x =>
              simp only at hex
              split at hex
              · cases hex
              · cases hex; exact ⟨Nat.le_refl _, Nat.le_refl _⟩
              · exact pm_ex_grow _ _ _ _ _ _ _ _ _ hex
          intro T hTh X
          obtain ⟨vm₁, mk, X₁, hnamed, hstep⟩ := hiv T hTh X
          have hWU : s0.WarmedH (T.setVm vm₁).vm := State.WarmedH.trans hW0 X₁.warmed
          obtain ⟨mk', methk, ck, hn', hmk, hck, hby, hlo, htb, hre, hlk', hsig⟩ := Cond.codeWith_spec (args := #[]) (pw_wd (s := T.setVm vm₁) hWU rfl w1)
          have hn1 := X₁.named hnamed
          cases hn1.symm.trans hn'
          have hpk : (T.setVm vm₁).plainMethod mk := State.plainMethod.of_name (fun k hk9 => by
            obtain ⟨k', hk', hn9⟩ := className_of_methodNamed hn1
            cases hk9.symm.trans hk'
            rw [hn9]; exact w3)
          have hsz : (F0 m pc ls (rest.map (pw_tr (pw_ad s0 B)))).locals.size = c.maxLocals := by rw [hml, ← hLn]; exact hL.1
          obtain ⟨Y, hin⟩ := X₁.into (g := F0 m pc ls (rest.map (pw_tr (pw_ad s0 B)))) rfl hsz (by rw [hb]; exact hdg) (as.map (pw_tr (pw_ad s0 B))).toArray (R' := { frames := d + 8, locals := 100 * d + 200, cells := M1.1 - M.1, slots := M1.2.1 - M.2.1 }) hmk hck hlk' hpk (by show d + 8 + 1 ≤ _; omega) (by show 2 * 0 + _ + _ + (100 * d + 200) ≤ _; rw [pw_cs, hlo]; omega) (by show _ + (M1.1 - M.1) ≤ _; omega) (by show _ + (M1.2.1 - M.2.1) ≤ _; omega)
          obtain ⟨e1, e2⟩ := pw_ent (ad := pw_ad s0 B) hen
          have hCk : pw_C s0 j p ((T.setVm vm₁).calling (F0 m pc ls (rest.map (pw_tr (pw_ad s0 B)))) mk (as.map (pw_tr (pw_ad s0 B))).toArray) mk methk ck := by
            refine ⟨hx, hby, hlo, findClass_of_methodNamed hn1, hre, hlk', (name_of_methodNamed hn1 hmk).1, ?_, hWU⟩
            rw [← htb, table_eq]
          have wk := ih d j 0 L0 [] M rc M1 hce (p := p) (e := e) (R := { frames := d + 8, locals := 100 * d + 200, cells := M1.1 - M.1, slots := M1.2.1 - M.2.1 }) (args := (as.map (pw_tr (pw_ad s0 B))).toArray) (below := .java (F0 m pc ls (rest.map (pw_tr (pw_ad s0 B)))) :: below) (H := H) (locs := []) (m0 := M.1) (k0 := M.2.1) hCk e1 e2 hW (fun y hy => by cases hy) (Nat.le_refl _) (Nat.le_refl _) (Nat.le_refl _) (Nat.le_refl _) (Nat.le_refl _) (Nat.le_refl _)
          rw [Nat.sub_self, Nat.sub_self] at wk
          obtain ⟨t, hst, o, Lc, h1, h2, h3, h4, h5, h6, h7⟩ := wk (((T.setVm vm₁).setTop (F0 m pc ls (rest.map (pw_tr (pw_ad s0 B))))).pushFrame (.java (entryFrame mk (as.map (pw_tr (pw_ad s0 B))).toArray ck.maxLocals))) (by first | exact hTh | (simp [State.pushFrame, State.setFrames, State.setTop, State.modifyTopJava]; exact hTh)) Y
          rw [hlo] at hin
          have hdo : ∀ acts, Steps p.tables e below (doInvoke e ((T.setVm vm₁).setTop (F0 m pc ls (rest.map (pw_tr (pw_ad s0 B))))) acts mk (as.map (pw_tr (pw_ad s0 B))).toArray).1 t := by
            intro acts
            rw [hin acts]
            refine pw_weak (f := .java (F0 m pc ls (rest.map (pw_tr (pw_ad s0 B))))) ?_
            rw [lg_entry_eq]
            rw [hlo, lg_entry_eq] at hst
            exact hst
          have c1 : M.1 - m0 + (M1.1 - M.1) = M1.1 - m0 := by omega
          have c2 : M.2.1 - k0 + (M1.2.1 - M.2.1) = M1.2.1 - k0 := by omega
          have hlc' : ∀ y ∈ locs ++ Lc, s0.heap.size ≤ y.base := fun y hy => by
            rcases List.mem_append.mp hy with h9 | h9
            · exact hlc y h9
            · exact h5 y h9
          cases rc with
          | inl v =>
            have ho : o = .returned (v.map (pw_tr (pw_ad s0 B))) := h7
            subst ho
            obtain ⟨T', X', -, -, ht⟩ := X₁.outOf (g := F0 m pc ls (rest.map (pw_tr (pw_ad s0 B)))) rfl (by rw [hb]; exact hdg) h2 h3 h4
            rw [c1, c2] at X'
            have hheap : T'.heap = t.heap := by rw [ht]; rfl
            have hstk : (v.map (pw_tr (pw_ad s0 B))).toList ++ rest.map (pw_tr (pw_ad s0 B)) = (v.toList ++ rest).map (pw_tr (pw_ad s0 B)) := by cases v <;> rfl
            have wn := ih (d + 1) i (pc + 3) L (v.toList ++ rest) M1 r M' hex (p := p) (e := e) (R := R) (args := args) (below := below) hC hLn hL h6 hlc' (by omega) (by omega) hr1 hr2 hr3 hr4
            obtain ⟨t2, a1, b1⟩ := wn T' hheap X'
            refine ⟨t2, hstep t2 (fun acts => (hdo acts).trans ?_), b1⟩
            rw [ht]
            show Steps p.tables e below (T'.setTop (F0 m (pc + 3) ls ((v.map (pw_tr (pw_ad s0 B))).toList ++ rest.map (pw_tr (pw_ad s0 B))))) t2
            rw [hstk]
            exact a1
          | inr x =>
            obtain ⟨ho, cell, hc9, hv9, hf9⟩ := h7
            subst ho
            obtain ⟨T', X', -, -, ht⟩ := X₁.outOfThrown (g := F0 m pc ls (rest.map (pw_tr (pw_ad s0 B)))) rfl h2 h3 h4
            rw [c1, c2] at X'
            have hheap : T'.heap = t.heap := by rw [ht, Stand.throwing_heap]
            have hph9 := hph x
            simp only at hex
            split at hex
            · cases hex
            · rename_i htb9
              rw [htb9] at hph9
              cases hex
              obtain ⟨l1, l2, l3, l4, l5⟩ := X'.leaveThrown (pw_ad s0 B (7 + M'.1)) (g := F0 m pc ls (rest.map (pw_tr (pw_ad s0 B)))) rfl rfl rfl (by rw [htab]; exact hph9) hlk
              refine ⟨T'.setFrames (.throwing (pw_ad s0 B (7 + M'.1)) :: below), hstep _ (fun acts => (hdo acts).trans (by rw [ht]; exact l1)), .threw (pw_ad s0 B (7 + M'.1)), locs ++ Lc, l2, l3, l4, l5, hlc', ?_, rfl, cell, ?_, hv9, hf9⟩
              · show pw_W s0 D (pw_ad s0 B) T'.heap M'
                rw [hheap]; exact h6
              · show T'.heap[_]? = _
                rw [hheap]; exact hc9
            · rename_i hh htb9
              rw [htb9] at hph9
              have hpl : e.platform.magicAccessors = ({} : Platform).magicAccessors := by rw [X.admits.platform]
              obtain ⟨vm', hW', hq⟩ := pw_find (e := e) (s := s) (f := F0 m pc ls (rest.map (pw_tr (pw_ad s0 B)))) (a := pw_ad s0 B (7 + M1.1)) (cell := cell) hpl hW0 hown (VmData.ne_statics_of hv9) hf9 _ _ hph9 ((T'.setTop (F0 m pc ls (rest.map (pw_tr (pw_ad s0 B))))).pushFrame (.throwing (pw_ad s0 B (7 + M1.1)))) (by rw [Stand.throwing_vm]; exact X'.warmed) (by rw [Stand.throwing_heap, hheap]; exact hc9)
              have wn := ih (d + 1) i hh L [.ref (7 + M1.1)] M1 r M' hex (p := p) (e := e) (R := R) (args := args) (below := below) hC hLn hL h6 hlc' (by omega) (by omega) hr1 hr2 hr3 hr4
              obtain ⟨t2, a1, b1⟩ := wn (T'.setVm vm') hheap (X'.noted hW')
              refine ⟨t2, hstep t2 (fun acts => (hdo acts).trans ?_), b1⟩
              rw [ht]
              exact pw_caught X'.here (fun Q E d9 acts9 => by rw [W.findHandler_eq (meth := meth) (code := c) (by rw [Stand.throwing_vm]; exact X'.method') X'.code, htab]; exact hq Q E d9 acts9) a1
    cases hs : pm_st i pc L st M with
    | none => rw [pm_ex, hs] at h; cases h
    | some S =>
      rw [pm_ex, hs] at h
      unfold pm_st at hs
      split at hs
      · cases hs
      · rename_i ins a b v ts ht
        obtain ⟨t1, t2, t3⟩ := hT i pc ins a b v ts ht
        split at hs
        · split at hs
          · split at hs
            · rename_i hr9
              cases hs; cases h
              exact pw_reti hC hW hlc hr9 t1
            · cases hs
          · cases hs
        · split at hs
          · split at hs
            · rename_i hr9
              cases hs; cases h
              exact pw_reta hC hW hlc hr9 t1
            · cases hs
          · cases hs
        · split at hs
          · split at hs
            · rename_i hr9
              cases hs; cases h
              exact pw_retv hC hW hlc hr9 t1
            · cases hs
          · cases hs
        · rename_i idx
          split at hs
          · rename_i h9
            split at hs
            · rename_i h8
              cases hs; cases h
              exact pw_throw hfl hC hG t1 (t3 h9) (hL.1.trans hLn) hW hlc hm hk ⟨by omega, by omega⟩ hr1 hr2 h8
            · cases hs
          · rename_i h9
            obtain ⟨F, hF, rfl⟩ := Option.map_eq_some_iff.mp hs
            exact step _ _ _ _ _ F ht hF (fun _ => by omega) (by rintro ⟨k, hk9⟩; cases hk9) (by rintro ⟨k, hk9⟩; cases hk9) (by rintro (⟨k, hk9⟩ | ⟨k, hk9⟩) <;> cases hk9) h
        · rename_i idx
          unfold pm_cl at hs
          split at hs
          · rename_i h9
            obtain ⟨h91, h92, h93, h94⟩ := h9
            cases hs
            obtain ⟨L0, hL0⟩ := Option.isSome_iff_exists.mp h93
            simp only [hL0, Option.getD_some] at h
            obtain ⟨y1, y2, y3, y4, y5, y6, y7⟩ := t3
            refine call a _ _ L0 idx _ y1 y2 hL0 h92 t1 (fun T hTh X => ?_) h
            exact pw_ivV9 hC hG hW hTh X y1 y3 y4 y5 y6 y7 h91 (h94 rfl) t1
          · cases hs
        · rename_i idx
          split at hs
          · rename_i h9
            split at hs
            · rename_i h8
              obtain ⟨F, hF, rfl⟩ := Option.map_eq_some_iff.mp hs
              exact step _ _ _ _ _ F ht hF (by rintro ⟨k, hk9⟩; cases hk9) (by rintro ⟨k, hk9⟩; cases hk9) (fun _ => h9) (fun _ => h8) h
            · cases hs
          · rename_i h9
            unfold pm_cl at hs
            split at hs
            · rename_i h9'
              obtain ⟨h91, h92, h93, h94⟩ := h9'
              cases hs
              obtain ⟨L0, hL0⟩ := Option.isSome_iff_exists.mp h93
              simp only [hL0, Option.getD_some] at h
              obtain ⟨y1, y2, y3, y4, y5⟩ := t3 (by omega)
              refine call a _ _ L0 idx _ y1 y2 hL0 h92 t1 (fun T hTh X => ?_) h
              exact pw_ivS9 hC X y1 y3 y4 y5 h91 t1
            · cases hs
        · rename_i idx
          split at hs
          · rename_i h9
            split at hs
            · rename_i h8
              obtain ⟨F, hF, rfl⟩ := Option.map_eq_some_iff.mp hs
              exact step _ _ _ _ _ F ht hF (by rintro ⟨k, hk9⟩; cases hk9) (fun _ => h9) (by rintro ⟨k, hk9⟩; cases hk9) (fun _ => h8) h
            · cases hs
          · rename_i h9
            unfold pm_cl at hs
            split at hs
            · rename_i h9'
              obtain ⟨h91, h92, h93, h94⟩ := h9'
              cases hs
              obtain ⟨L0, hL0⟩ := Option.isSome_iff_exists.mp h93
              simp only [hL0, Option.getD_some] at h
              obtain ⟨y1, y2, y3, y4, y5, y6, y7, y8⟩ := t3 (by omega)
              refine call a _ _ L0 idx _ y1 y2 hL0 h92 t1 (fun T hTh X => ?_) h
              exact pw_ivI9 hC X y1 y3 y4 y5 y6 y7 y8 h91 (h94 rfl) t1
            · cases hs
        · obtain ⟨F, hF, rfl⟩ := Option.map_eq_some_iff.mp hs
          exact step _ _ _ _ _ F ht hF (by rintro ⟨k, rfl⟩; simp_all) (by rintro ⟨k, rfl⟩; simp_all) (by rintro ⟨k, rfl⟩; simp_all) (by rintro (⟨k, rfl⟩ | ⟨k, rfl⟩) <;> simp_all) h
end
section
/-! The tables' words, each where the claim has it. Written by program. -/
def tb_on : Nat → String
  | 0 => "MemoRuntime$Cell"
  | 1 => "MemoRuntime$Edits"
  | 2 => "MemoRuntime$Inputs"
  | 3 => "MemoRuntime$RecentOrder"
  | 4 => "MemoRuntime$Text"
  | 5 => "MemoRuntime$Working"
  | 6 => "MemoRuntime"
  | 7 => "MemoRuntimeModel"
  | 8 => "MemoRuntimeLaw"
  | _ => ""
def tb_ow : Nat → Nat
  | 0 => 6
  | 1 => 6
  | 2 => 6
  | 3 => 6
  | 4 => 6
  | 5 => 6
  | 6 => 6
  | 7 => 6
  | 8 => 6
  | 9 => 6
  | 10 => 6
  | 11 => 6
  | 12 => 6
  | 13 => 6
  | 14 => 6
  | 15 => 6
  | 16 => 6
  | 17 => 6
  | 18 => 6
  | 19 => 6
  | 20 => 6
  | 21 => 6
  | 22 => 6
  | 23 => 6
  | 24 => 6
  | 25 => 6
  | 26 => 6
  | 27 => 6
  | 28 => 6
  | 29 => 6
  | 30 => 6
  | 31 => 6
  | 32 => 6
  | 33 => 6
  | 34 => 6
  | 35 => 6
  | 36 => 6
  | 37 => 6
  | 38 => 6
  | 39 => 7
  | 40 => 7
  | 41 => 7
  | 42 => 7
  | 43 => 7
  | 44 => 7
  | 45 => 7
  | 46 => 7
  | 47 => 7
  | 48 => 7
  | 49 => 7
  | 50 => 7
  | 51 => 7
  | 52 => 7
  | 53 => 7
  | 54 => 7
  | 55 => 7
  | 56 => 7
  | 57 => 7
  | 58 => 7
  | 59 => 7
  | 60 => 7
  | 61 => 7
  | 62 => 7
  | 63 => 7
  | 64 => 7
  | 65 => 7
  | 66 => 7
  | 67 => 7
  | 68 => 7
  | 69 => 7
  | 70 => 7
  | 71 => 7
  | 72 => 7
  | 73 => 7
  | 74 => 7
  | 75 => 0
  | 76 => 1
  | 77 => 1
  | 78 => 1
  | 79 => 2
  | 80 => 3
  | 81 => 3
  | 82 => 3
  | 83 => 3
  | 84 => 3
  | 85 => 3
  | 86 => 3
  | 87 => 4
  | 88 => 4
  | 89 => 4
  | 90 => 4
  | 91 => 4
  | 92 => 4
  | 93 => 5
  | 94 => 5
  | 95 => 5
  | 96 => 5
  | 97 => 5
  | 98 => 5
  | 99 => 5
  | 100 => 5
  | 101 => 5
  | 102 => 5
  | 103 => 8
  | 104 => 8
  | 105 => 8
  | 106 => 8
  | 107 => 8
  | 108 => 8
  | 109 => 8
  | 110 => 8
  | 111 => 8
  | 112 => 8
  | 113 => 8
  | _ => 100
def pk_ok (w : Cond) : Bool := match w with
  | .arrayOver _ => true
  | .arrayClass _ => true
  | w => w.onTables
def pk_Y (s0 : State) : Prop := ∀ w ∈ lw_tbl, pk_ok w = true → w.before #[] s0 = true
theorem pk_cw {s0 : State} {y : MethodName} {bs : ByteArray} {n : Nat} {r : Option FieldType} (h : (Cond.code y bs n r).before #[] s0 = true) : (Cond.codeWith y bs n r []).before #[] s0 = true := by
  simp only [Cond.before, Cond.holds] at h ⊢
  rw [← Cond.code_iff_codeWith_nil]
  exact h
theorem wm_0 : Jvm.Cond.initialized "MemoRuntimeLaw" ∈ lw_tbl := List.mem_append_right _ (List.mem_of_getElem? (i := 0) (by decide +kernel))
theorem wm_1 : Jvm.Cond.initialized "MemoRuntime" ∈ lw_tbl := List.mem_append_right _ (List.mem_of_getElem? (i := 1) (by decide +kernel))
theorem wm_2 : Jvm.Cond.initialized "MemoRuntime$Text" ∈ lw_tbl := List.mem_append_right _ (List.mem_of_getElem? (i := 2) (by decide +kernel))
theorem wm_3 : Jvm.Cond.initialized "MemoRuntime$Inputs" ∈ lw_tbl := List.mem_append_right _ (List.mem_of_getElem? (i := 3) (by decide +kernel))
theorem wm_4 : Jvm.Cond.initialized "MemoRuntime$Edits" ∈ lw_tbl := List.mem_append_right _ (List.mem_of_getElem? (i := 4) (by decide +kernel))
theorem wm_5 : Jvm.Cond.initialized "MemoRuntime$RecentOrder" ∈ lw_tbl := List.mem_append_right _ (List.mem_of_getElem? (i := 5) (by decide +kernel))
theorem wm_6 : Jvm.Cond.initialized "MemoRuntime$Cell" ∈ lw_tbl := List.mem_append_right _ (List.mem_of_getElem? (i := 6) (by decide +kernel))
theorem wm_7 : Jvm.Cond.initialized "MemoRuntime$Working" ∈ lw_tbl := List.mem_append_right _ (List.mem_of_getElem? (i := 7) (by decide +kernel))
theorem wm_8 : Jvm.Cond.initialized "MemoRuntimeModel" ∈ lw_tbl := List.mem_append_right _ (List.mem_of_getElem? (i := 8) (by decide +kernel))
theorem wm_15 : Jvm.Cond.initialized "java/lang/Math" ∈ lw_tbl := List.mem_append_right _ (List.mem_of_getElem? (i := 15) (by decide +kernel))
theorem wm_16 : Jvm.Cond.initialized "java/lang/System" ∈ lw_tbl := List.mem_append_right _ (List.mem_of_getElem? (i := 16) (by decide +kernel))
theorem wm_19 : Jvm.Cond.classLink "MemoRuntimeLaw" (8 : Nat) "MemoRuntime" ∈ lw_tbl := List.mem_append_right _ (List.mem_of_getElem? (i := 19) (by decide +kernel))
theorem wm_20 : Jvm.Cond.instantiable "MemoRuntime" (15 : Nat) ∈ lw_tbl := List.mem_append_right _ (List.mem_of_getElem? (i := 20) (by decide +kernel))
theorem wm_21 : Jvm.Cond.methodLink "MemoRuntimeLaw" (51 : Nat) ({ cls := "MemoRuntime", name := "<init>", desc := "()V" } : Jvm.MethodName) ∈ lw_tbl := List.mem_append_right _ (List.mem_of_getElem? (i := 21) (by decide +kernel))
theorem wm_22 : Jvm.Cond.instanceMethod ({ cls := "MemoRuntime", name := "<init>", desc := "()V" } : Jvm.MethodName) ∈ lw_tbl := List.mem_append_right _ (List.mem_of_getElem? (i := 22) (by decide +kernel))
theorem wm_23 : Jvm.Cond.code ({ cls := "MemoRuntime", name := "<init>", desc := "()V" } : Jvm.MethodName) prog_1_method_1_code (2 : Nat) (Option.none : Option Jvm.ClassFile.FieldType) ∈ lw_tbl := List.mem_append_right _ (List.mem_of_getElem? (i := 23) (by decide +kernel))
theorem wm_24 : Jvm.Cond.methodLink "MemoRuntime" (1 : Nat) ({ cls := "java/lang/Object", name := "<init>", desc := "()V" } : Jvm.MethodName) ∈ lw_tbl := List.mem_append_right _ (List.mem_of_getElem? (i := 24) (by decide +kernel))
theorem wm_25 : Jvm.Cond.instanceMethod ({ cls := "java/lang/Object", name := "<init>", desc := "()V" } : Jvm.MethodName) ∈ lw_tbl := List.mem_append_right _ (List.mem_of_getElem? (i := 25) (by decide +kernel))
theorem wm_27 : Jvm.Cond.classLink "MemoRuntime" (7 : Nat) "MemoRuntime$Text" ∈ lw_tbl := List.mem_append_right _ (List.mem_of_getElem? (i := 27) (by decide +kernel))
theorem wm_28 : Jvm.Cond.instantiable "MemoRuntime$Text" (2 : Nat) ∈ lw_tbl := List.mem_append_right _ (List.mem_of_getElem? (i := 28) (by decide +kernel))
theorem wm_29 : Jvm.Cond.methodLinkNest "MemoRuntime" (9 : Nat) ({ cls := "MemoRuntime$Text", name := "<init>", desc := "()V" } : Jvm.MethodName) "MemoRuntime" ∈ lw_tbl := List.mem_append_right _ (List.mem_of_getElem? (i := 29) (by decide +kernel))
theorem wm_30 : Jvm.Cond.instanceMethod ({ cls := "MemoRuntime$Text", name := "<init>", desc := "()V" } : Jvm.MethodName) ∈ lw_tbl := List.mem_append_right _ (List.mem_of_getElem? (i := 30) (by decide +kernel))
theorem wm_31 : Jvm.Cond.code ({ cls := "MemoRuntime$Text", name := "<init>", desc := "()V" } : Jvm.MethodName) prog_7_method_1_code (1 : Nat) (Option.none : Option Jvm.ClassFile.FieldType) ∈ lw_tbl := List.mem_append_right _ (List.mem_of_getElem? (i := 31) (by decide +kernel))
theorem wm_32 : Jvm.Cond.methodLink "MemoRuntime$Text" (3 : Nat) ({ cls := "java/lang/Object", name := "<init>", desc := "()V" } : Jvm.MethodName) ∈ lw_tbl := List.mem_append_right _ (List.mem_of_getElem? (i := 32) (by decide +kernel))
theorem wm_33 : Jvm.Cond.fieldLink "MemoRuntime$Text" (9 : Nat) "MemoRuntime$Text" "characters" "[C" ∈ lw_tbl := List.mem_append_right _ (List.mem_of_getElem? (i := 33) (by decide +kernel))
theorem wm_34 : Jvm.Cond.fieldLink "MemoRuntime$Working" (55 : Nat) "MemoRuntime$Text" "characters" "[C" ∈ lw_tbl := List.mem_append_right _ (List.mem_of_getElem? (i := 34) (by decide +kernel))
theorem wm_35 : Jvm.Cond.fieldLink "MemoRuntime$Text" (15 : Nat) "MemoRuntime$Text" "length" "I" ∈ lw_tbl := List.mem_append_right _ (List.mem_of_getElem? (i := 35) (by decide +kernel))
theorem wm_36 : Jvm.Cond.fieldLink "MemoRuntime" (85 : Nat) "MemoRuntime$Text" "length" "I" ∈ lw_tbl := List.mem_append_right _ (List.mem_of_getElem? (i := 36) (by decide +kernel))
theorem wm_37 : Jvm.Cond.fieldLink "MemoRuntime$Working" (52 : Nat) "MemoRuntime$Text" "length" "I" ∈ lw_tbl := List.mem_append_right _ (List.mem_of_getElem? (i := 37) (by decide +kernel))
theorem wm_43 : Jvm.Cond.arrayClass Jvm.ClassFile.FieldType.char ∈ lw_tbl := List.mem_append_right _ (List.mem_of_getElem? (i := 43) (by decide +kernel))
theorem wm_44 : Jvm.Cond.arrayOver (Jvm.ClassFile.FieldType.object "MemoRuntime$Text") ∈ lw_tbl := List.mem_append_right _ (List.mem_of_getElem? (i := 44) (by decide +kernel))
theorem wm_45 : Jvm.Cond.classLink "MemoRuntime" (24 : Nat) "MemoRuntime$Inputs" ∈ lw_tbl := List.mem_append_right _ (List.mem_of_getElem? (i := 45) (by decide +kernel))
theorem wm_46 : Jvm.Cond.instantiable "MemoRuntime$Inputs" (3 : Nat) ∈ lw_tbl := List.mem_append_right _ (List.mem_of_getElem? (i := 46) (by decide +kernel))
theorem wm_47 : Jvm.Cond.methodLinkNest "MemoRuntime" (26 : Nat) ({ cls := "MemoRuntime$Inputs", name := "<init>", desc := "()V" } : Jvm.MethodName) "MemoRuntime" ∈ lw_tbl := List.mem_append_right _ (List.mem_of_getElem? (i := 47) (by decide +kernel))
theorem wm_48 : Jvm.Cond.instanceMethod ({ cls := "MemoRuntime$Inputs", name := "<init>", desc := "()V" } : Jvm.MethodName) ∈ lw_tbl := List.mem_append_right _ (List.mem_of_getElem? (i := 48) (by decide +kernel))
theorem wm_49 : Jvm.Cond.code ({ cls := "MemoRuntime$Inputs", name := "<init>", desc := "()V" } : Jvm.MethodName) prog_4_method_1_code (1 : Nat) (Option.none : Option Jvm.ClassFile.FieldType) ∈ lw_tbl := List.mem_append_right _ (List.mem_of_getElem? (i := 49) (by decide +kernel))
theorem wm_50 : Jvm.Cond.methodLink "MemoRuntime$Inputs" (3 : Nat) ({ cls := "java/lang/Object", name := "<init>", desc := "()V" } : Jvm.MethodName) ∈ lw_tbl := List.mem_append_right _ (List.mem_of_getElem? (i := 50) (by decide +kernel))
theorem wm_51 : Jvm.Cond.fieldLink "MemoRuntime$Inputs" (9 : Nat) "MemoRuntime$Inputs" "values" "[I" ∈ lw_tbl := List.mem_append_right _ (List.mem_of_getElem? (i := 51) (by decide +kernel))
theorem wm_52 : Jvm.Cond.fieldLink "MemoRuntime" (117 : Nat) "MemoRuntime$Inputs" "values" "[I" ∈ lw_tbl := List.mem_append_right _ (List.mem_of_getElem? (i := 52) (by decide +kernel))
theorem wm_53 : Jvm.Cond.fieldLink "MemoRuntime$Inputs" (15 : Nat) "MemoRuntime$Inputs" "changed" "[I" ∈ lw_tbl := List.mem_append_right _ (List.mem_of_getElem? (i := 53) (by decide +kernel))
theorem wm_54 : Jvm.Cond.fieldLink "MemoRuntime" (126 : Nat) "MemoRuntime$Inputs" "changed" "[I" ∈ lw_tbl := List.mem_append_right _ (List.mem_of_getElem? (i := 54) (by decide +kernel))
theorem wm_55 : Jvm.Cond.fieldLink "MemoRuntime$Inputs" (18 : Nat) "MemoRuntime$Inputs" "classes" "[I" ∈ lw_tbl := List.mem_append_right _ (List.mem_of_getElem? (i := 55) (by decide +kernel))
theorem wm_56 : Jvm.Cond.fieldLink "MemoRuntime" (120 : Nat) "MemoRuntime$Inputs" "classes" "[I" ∈ lw_tbl := List.mem_append_right _ (List.mem_of_getElem? (i := 56) (by decide +kernel))
theorem wm_64 : Jvm.Cond.arrayClass Jvm.ClassFile.FieldType.int ∈ lw_tbl := List.mem_append_right _ (List.mem_of_getElem? (i := 64) (by decide +kernel))
theorem wm_65 : Jvm.Cond.classLink "MemoRuntime" (31 : Nat) "MemoRuntime$Edits" ∈ lw_tbl := List.mem_append_right _ (List.mem_of_getElem? (i := 65) (by decide +kernel))
theorem wm_66 : Jvm.Cond.instantiable "MemoRuntime$Edits" (2 : Nat) ∈ lw_tbl := List.mem_append_right _ (List.mem_of_getElem? (i := 66) (by decide +kernel))
theorem wm_67 : Jvm.Cond.methodLinkNest "MemoRuntime" (33 : Nat) ({ cls := "MemoRuntime$Edits", name := "<init>", desc := "()V" } : Jvm.MethodName) "MemoRuntime" ∈ lw_tbl := List.mem_append_right _ (List.mem_of_getElem? (i := 67) (by decide +kernel))
theorem wm_68 : Jvm.Cond.instanceMethod ({ cls := "MemoRuntime$Edits", name := "<init>", desc := "()V" } : Jvm.MethodName) ∈ lw_tbl := List.mem_append_right _ (List.mem_of_getElem? (i := 68) (by decide +kernel))
theorem wm_69 : Jvm.Cond.code ({ cls := "MemoRuntime$Edits", name := "<init>", desc := "()V" } : Jvm.MethodName) prog_3_method_1_code (1 : Nat) (Option.none : Option Jvm.ClassFile.FieldType) ∈ lw_tbl := List.mem_append_right _ (List.mem_of_getElem? (i := 69) (by decide +kernel))
theorem wm_70 : Jvm.Cond.methodLink "MemoRuntime$Edits" (3 : Nat) ({ cls := "java/lang/Object", name := "<init>", desc := "()V" } : Jvm.MethodName) ∈ lw_tbl := List.mem_append_right _ (List.mem_of_getElem? (i := 70) (by decide +kernel))
theorem wm_71 : Jvm.Cond.fieldLink "MemoRuntime$Edits" (9 : Nat) "MemoRuntime$Edits" "revision" "I" ∈ lw_tbl := List.mem_append_right _ (List.mem_of_getElem? (i := 71) (by decide +kernel))
theorem wm_72 : Jvm.Cond.fieldLink "MemoRuntime" (129 : Nat) "MemoRuntime$Edits" "revision" "I" ∈ lw_tbl := List.mem_append_right _ (List.mem_of_getElem? (i := 72) (by decide +kernel))
theorem wm_73 : Jvm.Cond.fieldLink "MemoRuntime$Edits" (15 : Nat) "MemoRuntime$Edits" "last" "[I" ∈ lw_tbl := List.mem_append_right _ (List.mem_of_getElem? (i := 73) (by decide +kernel))
theorem wm_79 : Jvm.Cond.classLink "MemoRuntime" (38 : Nat) "MemoRuntime$Cell" ∈ lw_tbl := List.mem_append_right _ (List.mem_of_getElem? (i := 79) (by decide +kernel))
theorem wm_80 : Jvm.Cond.arrayOver (Jvm.ClassFile.FieldType.object "MemoRuntime$Cell") ∈ lw_tbl := List.mem_append_right _ (List.mem_of_getElem? (i := 80) (by decide +kernel))
theorem wm_81 : Jvm.Cond.classLink "MemoRuntime" (44 : Nat) "MemoRuntime$RecentOrder" ∈ lw_tbl := List.mem_append_right _ (List.mem_of_getElem? (i := 81) (by decide +kernel))
theorem wm_82 : Jvm.Cond.instantiable "MemoRuntime$RecentOrder" (4 : Nat) ∈ lw_tbl := List.mem_append_right _ (List.mem_of_getElem? (i := 82) (by decide +kernel))
theorem wm_83 : Jvm.Cond.methodLink "MemoRuntime" (46 : Nat) ({ cls := "MemoRuntime$RecentOrder", name := "<init>", desc := "()V" } : Jvm.MethodName) ∈ lw_tbl := List.mem_append_right _ (List.mem_of_getElem? (i := 83) (by decide +kernel))
theorem wm_84 : Jvm.Cond.instanceMethod ({ cls := "MemoRuntime$RecentOrder", name := "<init>", desc := "()V" } : Jvm.MethodName) ∈ lw_tbl := List.mem_append_right _ (List.mem_of_getElem? (i := 84) (by decide +kernel))
theorem wm_85 : Jvm.Cond.code ({ cls := "MemoRuntime$RecentOrder", name := "<init>", desc := "()V" } : Jvm.MethodName) prog_6_method_1_code (1 : Nat) (Option.none : Option Jvm.ClassFile.FieldType) ∈ lw_tbl := List.mem_append_right _ (List.mem_of_getElem? (i := 85) (by decide +kernel))
theorem wm_86 : Jvm.Cond.methodLink "MemoRuntime$RecentOrder" (3 : Nat) ({ cls := "java/lang/Object", name := "<init>", desc := "()V" } : Jvm.MethodName) ∈ lw_tbl := List.mem_append_right _ (List.mem_of_getElem? (i := 86) (by decide +kernel))
theorem wm_87 : Jvm.Cond.fieldLink "MemoRuntime$RecentOrder" (9 : Nat) "MemoRuntime$RecentOrder" "size" "I" ∈ lw_tbl := List.mem_append_right _ (List.mem_of_getElem? (i := 87) (by decide +kernel))
theorem wm_88 : Jvm.Cond.fieldLink "MemoRuntime" (168 : Nat) "MemoRuntime$RecentOrder" "size" "I" ∈ lw_tbl := List.mem_append_right _ (List.mem_of_getElem? (i := 88) (by decide +kernel))
theorem wm_89 : Jvm.Cond.fieldLink "MemoRuntime$RecentOrder" (15 : Nat) "MemoRuntime$RecentOrder" "held" "[Z" ∈ lw_tbl := List.mem_append_right _ (List.mem_of_getElem? (i := 89) (by decide +kernel))
theorem wm_90 : Jvm.Cond.fieldLink "MemoRuntime$RecentOrder" (19 : Nat) "MemoRuntime$RecentOrder" "before" "[I" ∈ lw_tbl := List.mem_append_right _ (List.mem_of_getElem? (i := 90) (by decide +kernel))
theorem wm_91 : Jvm.Cond.fieldLink "MemoRuntime$RecentOrder" (23 : Nat) "MemoRuntime$RecentOrder" "after" "[I" ∈ lw_tbl := List.mem_append_right _ (List.mem_of_getElem? (i := 91) (by decide +kernel))
theorem wm_101 : Jvm.Cond.arrayClass Jvm.ClassFile.FieldType.boolean ∈ lw_tbl := List.mem_append_right _ (List.mem_of_getElem? (i := 101) (by decide +kernel))
theorem wm_102 : Jvm.Cond.classLink "MemoRuntime" (58 : Nat) "MemoRuntime$Working" ∈ lw_tbl := List.mem_append_right _ (List.mem_of_getElem? (i := 102) (by decide +kernel))
theorem wm_103 : Jvm.Cond.arrayOver (Jvm.ClassFile.FieldType.object "MemoRuntime$Working") ∈ lw_tbl := List.mem_append_right _ (List.mem_of_getElem? (i := 103) (by decide +kernel))
theorem wm_104 : Jvm.Cond.methodLink "MemoRuntime" (79 : Nat) ({ cls := "MemoRuntime$Text", name := "append", desc := "(C)V" } : Jvm.MethodName) ∈ lw_tbl := List.mem_append_right _ (List.mem_of_getElem? (i := 104) (by decide +kernel))
theorem wm_105 : Jvm.Cond.instanceMethod ({ cls := "MemoRuntime$Text", name := "append", desc := "(C)V" } : Jvm.MethodName) ∈ lw_tbl := List.mem_append_right _ (List.mem_of_getElem? (i := 105) (by decide +kernel))
theorem wm_106 : Jvm.Cond.selects "MemoRuntime$Text" ({ cls := "MemoRuntime$Text", name := "append", desc := "(C)V" } : Jvm.MethodName) ({ cls := "MemoRuntime$Text", name := "append", desc := "(C)V" } : Jvm.MethodName) ∈ lw_tbl := List.mem_append_right _ (List.mem_of_getElem? (i := 106) (by decide +kernel))
theorem wm_107 : Jvm.Cond.code ({ cls := "MemoRuntime$Text", name := "append", desc := "(C)V" } : Jvm.MethodName) prog_7_method_3_code (2 : Nat) (Option.none : Option Jvm.ClassFile.FieldType) ∈ lw_tbl := List.mem_append_right _ (List.mem_of_getElem? (i := 107) (by decide +kernel))
theorem wm_108 : Jvm.Cond.instantiable "MemoRuntime$Cell" (7 : Nat) ∈ lw_tbl := List.mem_append_right _ (List.mem_of_getElem? (i := 108) (by decide +kernel))
theorem wm_109 : Jvm.Cond.methodLinkNest "MemoRuntime" (83 : Nat) ({ cls := "MemoRuntime$Cell", name := "<init>", desc := "()V" } : Jvm.MethodName) "MemoRuntime" ∈ lw_tbl := List.mem_append_right _ (List.mem_of_getElem? (i := 109) (by decide +kernel))
theorem wm_110 : Jvm.Cond.instanceMethod ({ cls := "MemoRuntime$Cell", name := "<init>", desc := "()V" } : Jvm.MethodName) ∈ lw_tbl := List.mem_append_right _ (List.mem_of_getElem? (i := 110) (by decide +kernel))
theorem wm_111 : Jvm.Cond.code ({ cls := "MemoRuntime$Cell", name := "<init>", desc := "()V" } : Jvm.MethodName) prog_2_method_1_code (1 : Nat) (Option.none : Option Jvm.ClassFile.FieldType) ∈ lw_tbl := List.mem_append_right _ (List.mem_of_getElem? (i := 111) (by decide +kernel))
theorem wm_112 : Jvm.Cond.methodLink "MemoRuntime$Cell" (3 : Nat) ({ cls := "java/lang/Object", name := "<init>", desc := "()V" } : Jvm.MethodName) ∈ lw_tbl := List.mem_append_right _ (List.mem_of_getElem? (i := 112) (by decide +kernel))
theorem wm_113 : Jvm.Cond.fieldLink "MemoRuntime$Cell" (9 : Nat) "MemoRuntime$Cell" "value" "I" ∈ lw_tbl := List.mem_append_right _ (List.mem_of_getElem? (i := 113) (by decide +kernel))
theorem wm_114 : Jvm.Cond.fieldLink "MemoRuntime" (165 : Nat) "MemoRuntime$Cell" "value" "I" ∈ lw_tbl := List.mem_append_right _ (List.mem_of_getElem? (i := 114) (by decide +kernel))
theorem wm_115 : Jvm.Cond.fieldLink "MemoRuntime$Cell" (15 : Nat) "MemoRuntime$Cell" "reads" "[I" ∈ lw_tbl := List.mem_append_right _ (List.mem_of_getElem? (i := 115) (by decide +kernel))
theorem wm_116 : Jvm.Cond.fieldLink "MemoRuntime" (194 : Nat) "MemoRuntime$Cell" "reads" "[I" ∈ lw_tbl := List.mem_append_right _ (List.mem_of_getElem? (i := 116) (by decide +kernel))
theorem wm_117 : Jvm.Cond.fieldLink "MemoRuntime$Cell" (19 : Nat) "MemoRuntime$Cell" "readCount" "I" ∈ lw_tbl := List.mem_append_right _ (List.mem_of_getElem? (i := 117) (by decide +kernel))
theorem wm_118 : Jvm.Cond.fieldLink "MemoRuntime" (191 : Nat) "MemoRuntime$Cell" "readCount" "I" ∈ lw_tbl := List.mem_append_right _ (List.mem_of_getElem? (i := 118) (by decide +kernel))
theorem wm_119 : Jvm.Cond.fieldLink "MemoRuntime$Cell" (22 : Nat) "MemoRuntime$Cell" "good" "I" ∈ lw_tbl := List.mem_append_right _ (List.mem_of_getElem? (i := 119) (by decide +kernel))
theorem wm_120 : Jvm.Cond.fieldLink "MemoRuntime" (179 : Nat) "MemoRuntime$Cell" "good" "I" ∈ lw_tbl := List.mem_append_right _ (List.mem_of_getElem? (i := 120) (by decide +kernel))
theorem wm_121 : Jvm.Cond.fieldLink "MemoRuntime$Cell" (25 : Nat) "MemoRuntime$Cell" "changed" "I" ∈ lw_tbl := List.mem_append_right _ (List.mem_of_getElem? (i := 121) (by decide +kernel))
theorem wm_122 : Jvm.Cond.fieldLink "MemoRuntime" (182 : Nat) "MemoRuntime$Cell" "changed" "I" ∈ lw_tbl := List.mem_append_right _ (List.mem_of_getElem? (i := 122) (by decide +kernel))
theorem wm_123 : Jvm.Cond.fieldLink "MemoRuntime$Cell" (28 : Nat) "MemoRuntime$Cell" "leastClass" "I" ∈ lw_tbl := List.mem_append_right _ (List.mem_of_getElem? (i := 123) (by decide +kernel))
theorem wm_124 : Jvm.Cond.fieldLink "MemoRuntime" (184 : Nat) "MemoRuntime$Cell" "leastClass" "I" ∈ lw_tbl := List.mem_append_right _ (List.mem_of_getElem? (i := 124) (by decide +kernel))
theorem wm_125 : Jvm.Cond.fieldLink "MemoRuntime$Cell" (31 : Nat) "MemoRuntime$Cell" "ofCircle" "Z" ∈ lw_tbl := List.mem_append_right _ (List.mem_of_getElem? (i := 125) (by decide +kernel))
theorem wm_126 : Jvm.Cond.fieldLink "MemoRuntime" (187 : Nat) "MemoRuntime$Cell" "ofCircle" "Z" ∈ lw_tbl := List.mem_append_right _ (List.mem_of_getElem? (i := 126) (by decide +kernel))
theorem wm_142 : Jvm.Cond.instantiable "MemoRuntime$Working" (11 : Nat) ∈ lw_tbl := List.mem_append_right _ (List.mem_of_getElem? (i := 142) (by decide +kernel))
theorem wm_143 : Jvm.Cond.methodLinkNest "MemoRuntime" (84 : Nat) ({ cls := "MemoRuntime$Working", name := "<init>", desc := "()V" } : Jvm.MethodName) "MemoRuntime" ∈ lw_tbl := List.mem_append_right _ (List.mem_of_getElem? (i := 143) (by decide +kernel))
theorem wm_144 : Jvm.Cond.instanceMethod ({ cls := "MemoRuntime$Working", name := "<init>", desc := "()V" } : Jvm.MethodName) ∈ lw_tbl := List.mem_append_right _ (List.mem_of_getElem? (i := 144) (by decide +kernel))
theorem wm_145 : Jvm.Cond.code ({ cls := "MemoRuntime$Working", name := "<init>", desc := "()V" } : Jvm.MethodName) prog_8_method_1_code (1 : Nat) (Option.none : Option Jvm.ClassFile.FieldType) ∈ lw_tbl := List.mem_append_right _ (List.mem_of_getElem? (i := 145) (by decide +kernel))
theorem wm_146 : Jvm.Cond.methodLink "MemoRuntime$Working" (3 : Nat) ({ cls := "java/lang/Object", name := "<init>", desc := "()V" } : Jvm.MethodName) ∈ lw_tbl := List.mem_append_right _ (List.mem_of_getElem? (i := 146) (by decide +kernel))
theorem wm_147 : Jvm.Cond.classLink "MemoRuntime$Working" (25 : Nat) "MemoRuntime$Text" ∈ lw_tbl := List.mem_append_right _ (List.mem_of_getElem? (i := 147) (by decide +kernel))
theorem wm_148 : Jvm.Cond.methodLinkNest "MemoRuntime$Working" (27 : Nat) ({ cls := "MemoRuntime$Text", name := "<init>", desc := "()V" } : Jvm.MethodName) "MemoRuntime" ∈ lw_tbl := List.mem_append_right _ (List.mem_of_getElem? (i := 148) (by decide +kernel))
theorem wm_149 : Jvm.Cond.fieldLink "MemoRuntime$Working" (9 : Nat) "MemoRuntime$Working" "wanted" "I" ∈ lw_tbl := List.mem_append_right _ (List.mem_of_getElem? (i := 149) (by decide +kernel))
theorem wm_150 : Jvm.Cond.fieldLink "MemoRuntime" (273 : Nat) "MemoRuntime$Working" "wanted" "I" ∈ lw_tbl := List.mem_append_right _ (List.mem_of_getElem? (i := 150) (by decide +kernel))
theorem wm_151 : Jvm.Cond.fieldLink "MemoRuntime$Working" (15 : Nat) "MemoRuntime$Working" "value" "I" ∈ lw_tbl := List.mem_append_right _ (List.mem_of_getElem? (i := 151) (by decide +kernel))
theorem wm_152 : Jvm.Cond.fieldLink "MemoRuntime" (286 : Nat) "MemoRuntime$Working" "value" "I" ∈ lw_tbl := List.mem_append_right _ (List.mem_of_getElem? (i := 152) (by decide +kernel))
theorem wm_153 : Jvm.Cond.fieldLink "MemoRuntime$Working" (18 : Nat) "MemoRuntime$Working" "reads" "[I" ∈ lw_tbl := List.mem_append_right _ (List.mem_of_getElem? (i := 153) (by decide +kernel))
theorem wm_154 : Jvm.Cond.fieldLink "MemoRuntime" (288 : Nat) "MemoRuntime$Working" "reads" "[I" ∈ lw_tbl := List.mem_append_right _ (List.mem_of_getElem? (i := 154) (by decide +kernel))
theorem wm_155 : Jvm.Cond.fieldLink "MemoRuntime$Working" (22 : Nat) "MemoRuntime$Working" "readCount" "I" ∈ lw_tbl := List.mem_append_right _ (List.mem_of_getElem? (i := 155) (by decide +kernel))
theorem wm_156 : Jvm.Cond.fieldLink "MemoRuntime" (287 : Nat) "MemoRuntime$Working" "readCount" "I" ∈ lw_tbl := List.mem_append_right _ (List.mem_of_getElem? (i := 156) (by decide +kernel))
theorem wm_157 : Jvm.Cond.fieldLink "MemoRuntime$Working" (28 : Nat) "MemoRuntime$Working" "text" "LMemoRuntime$Text;" ∈ lw_tbl := List.mem_append_right _ (List.mem_of_getElem? (i := 157) (by decide +kernel))
theorem wm_158 : Jvm.Cond.fieldLink "MemoRuntime$Working" (32 : Nat) "MemoRuntime$Working" "key" "I" ∈ lw_tbl := List.mem_append_right _ (List.mem_of_getElem? (i := 158) (by decide +kernel))
theorem wm_159 : Jvm.Cond.fieldLink "MemoRuntime$Working" (35 : Nat) "MemoRuntime$Working" "at" "I" ∈ lw_tbl := List.mem_append_right _ (List.mem_of_getElem? (i := 159) (by decide +kernel))
theorem wm_160 : Jvm.Cond.fieldLink "MemoRuntime$Working" (38 : Nat) "MemoRuntime$Working" "waiting" "[C" ∈ lw_tbl := List.mem_append_right _ (List.mem_of_getElem? (i := 160) (by decide +kernel))
theorem wm_161 : Jvm.Cond.fieldLink "MemoRuntime$Working" (42 : Nat) "MemoRuntime$Working" "hasLeft" "[Z" ∈ lw_tbl := List.mem_append_right _ (List.mem_of_getElem? (i := 161) (by decide +kernel))
theorem wm_162 : Jvm.Cond.fieldLink "MemoRuntime$Working" (46 : Nat) "MemoRuntime$Working" "left" "[I" ∈ lw_tbl := List.mem_append_right _ (List.mem_of_getElem? (i := 162) (by decide +kernel))
theorem wm_163 : Jvm.Cond.fieldLink "MemoRuntime$Working" (49 : Nat) "MemoRuntime$Working" "waits" "I" ∈ lw_tbl := List.mem_append_right _ (List.mem_of_getElem? (i := 163) (by decide +kernel))
theorem wm_187 : Jvm.Cond.fieldLink "MemoRuntime" (10 : Nat) "MemoRuntime" "draft" "LMemoRuntime$Text;" ∈ lw_tbl := List.mem_append_right _ (List.mem_of_getElem? (i := 187) (by decide +kernel))
theorem wm_188 : Jvm.Cond.fieldLink "MemoRuntime" (16 : Nat) "MemoRuntime" "texts" "[LMemoRuntime$Text;" ∈ lw_tbl := List.mem_append_right _ (List.mem_of_getElem? (i := 188) (by decide +kernel))
theorem wm_189 : Jvm.Cond.fieldLink "MemoRuntime" (20 : Nat) "MemoRuntime" "circleValues" "[I" ∈ lw_tbl := List.mem_append_right _ (List.mem_of_getElem? (i := 189) (by decide +kernel))
theorem wm_190 : Jvm.Cond.fieldLink "MemoRuntime" (27 : Nat) "MemoRuntime" "inputs" "LMemoRuntime$Inputs;" ∈ lw_tbl := List.mem_append_right _ (List.mem_of_getElem? (i := 190) (by decide +kernel))
theorem wm_191 : Jvm.Cond.fieldLink "MemoRuntime" (34 : Nat) "MemoRuntime" "edits" "LMemoRuntime$Edits;" ∈ lw_tbl := List.mem_append_right _ (List.mem_of_getElem? (i := 191) (by decide +kernel))
theorem wm_192 : Jvm.Cond.fieldLink "MemoRuntime" (40 : Nat) "MemoRuntime" "cells" "[LMemoRuntime$Cell;" ∈ lw_tbl := List.mem_append_right _ (List.mem_of_getElem? (i := 192) (by decide +kernel))
theorem wm_193 : Jvm.Cond.fieldLink "MemoRuntime" (47 : Nat) "MemoRuntime" "order" "LMemoRuntime$RecentOrder;" ∈ lw_tbl := List.mem_append_right _ (List.mem_of_getElem? (i := 193) (by decide +kernel))
theorem wm_194 : Jvm.Cond.fieldLink "MemoRuntime" (51 : Nat) "MemoRuntime" "mayBeKept" "I" ∈ lw_tbl := List.mem_append_right _ (List.mem_of_getElem? (i := 194) (by decide +kernel))
theorem wm_195 : Jvm.Cond.fieldLink "MemoRuntime" (55 : Nat) "MemoRuntime" "underWay" "[I" ∈ lw_tbl := List.mem_append_right _ (List.mem_of_getElem? (i := 195) (by decide +kernel))
theorem wm_196 : Jvm.Cond.fieldLink "MemoRuntime" (60 : Nat) "MemoRuntime" "workings" "[LMemoRuntime$Working;" ∈ lw_tbl := List.mem_append_right _ (List.mem_of_getElem? (i := 196) (by decide +kernel))
theorem wm_197 : Jvm.Cond.fieldLink "MemoRuntime" (64 : Nat) "MemoRuntime" "depth" "I" ∈ lw_tbl := List.mem_append_right _ (List.mem_of_getElem? (i := 197) (by decide +kernel))
theorem wm_198 : Jvm.Cond.fieldLink "MemoRuntime" (67 : Nat) "MemoRuntime" "runs" "I" ∈ lw_tbl := List.mem_append_right _ (List.mem_of_getElem? (i := 198) (by decide +kernel))
theorem wm_199 : Jvm.Cond.fieldLink "MemoRuntime" (70 : Nat) "MemoRuntime" "verifications" "I" ∈ lw_tbl := List.mem_append_right _ (List.mem_of_getElem? (i := 199) (by decide +kernel))
theorem wm_200 : Jvm.Cond.fieldLink "MemoRuntime" (73 : Nat) "MemoRuntime" "skips" "I" ∈ lw_tbl := List.mem_append_right _ (List.mem_of_getElem? (i := 200) (by decide +kernel))
theorem wm_201 : Jvm.Cond.fieldLink "MemoRuntime" (76 : Nat) "MemoRuntime" "circleAnswers" "I" ∈ lw_tbl := List.mem_append_right _ (List.mem_of_getElem? (i := 201) (by decide +kernel))
theorem wm_233 : Jvm.Cond.methodLink "MemoRuntimeLaw" (57 : Nat) ({ cls := "MemoRuntime", name := "write", desc := "(J)I" } : Jvm.MethodName) ∈ lw_tbl := List.mem_append_right _ (List.mem_of_getElem? (i := 233) (by decide +kernel))
theorem wm_234 : Jvm.Cond.instanceMethod ({ cls := "MemoRuntime", name := "write", desc := "(J)I" } : Jvm.MethodName) ∈ lw_tbl := List.mem_append_right _ (List.mem_of_getElem? (i := 234) (by decide +kernel))
theorem wm_235 : Jvm.Cond.selects "MemoRuntime" ({ cls := "MemoRuntime", name := "write", desc := "(J)I" } : Jvm.MethodName) ({ cls := "MemoRuntime", name := "write", desc := "(J)I" } : Jvm.MethodName) ∈ lw_tbl := List.mem_append_right _ (List.mem_of_getElem? (i := 235) (by decide +kernel))
theorem wm_236 : Jvm.Cond.code ({ cls := "MemoRuntime", name := "write", desc := "(J)I" } : Jvm.MethodName) prog_1_method_2_code (5 : Nat) (Option.some Jvm.ClassFile.FieldType.int) ∈ lw_tbl := List.mem_append_right _ (List.mem_of_getElem? (i := 236) (by decide +kernel))
theorem wm_237 : Jvm.Cond.methodLink "MemoRuntime" (88 : Nat) ({ cls := "MemoRuntime", name := "charactersIn", desc := "(J)I" } : Jvm.MethodName) ∈ lw_tbl := List.mem_append_right _ (List.mem_of_getElem? (i := 237) (by decide +kernel))
theorem wm_238 : Jvm.Cond.static ({ cls := "MemoRuntime", name := "charactersIn", desc := "(J)I" } : Jvm.MethodName) ∈ lw_tbl := List.mem_append_right _ (List.mem_of_getElem? (i := 238) (by decide +kernel))
theorem wm_239 : Jvm.Cond.code ({ cls := "MemoRuntime", name := "charactersIn", desc := "(J)I" } : Jvm.MethodName) prog_1_method_23_code (4 : Nat) (Option.some Jvm.ClassFile.FieldType.int) ∈ lw_tbl := List.mem_append_right _ (List.mem_of_getElem? (i := 239) (by decide +kernel))
theorem wm_240 : Jvm.Cond.methodLink "MemoRuntime" (92 : Nat) ({ cls := "MemoRuntime", name := "characterAt", desc := "(JI)C" } : Jvm.MethodName) ∈ lw_tbl := List.mem_append_right _ (List.mem_of_getElem? (i := 240) (by decide +kernel))
theorem wm_241 : Jvm.Cond.static ({ cls := "MemoRuntime", name := "characterAt", desc := "(JI)C" } : Jvm.MethodName) ∈ lw_tbl := List.mem_append_right _ (List.mem_of_getElem? (i := 241) (by decide +kernel))
theorem wm_242 : Jvm.Cond.code ({ cls := "MemoRuntime", name := "characterAt", desc := "(JI)C" } : Jvm.MethodName) prog_1_method_22_code (3 : Nat) (Option.some Jvm.ClassFile.FieldType.char) ∈ lw_tbl := List.mem_append_right _ (List.mem_of_getElem? (i := 242) (by decide +kernel))
theorem wm_243 : Jvm.Cond.constantLong "MemoRuntime" (216 : Nat) (255 : Int64) ∈ lw_tbl := List.mem_append_right _ (List.mem_of_getElem? (i := 243) (by decide +kernel))
theorem wm_244 : Jvm.Cond.methodLink "MemoRuntimeLaw" (62 : Nat) ({ cls := "MemoRuntime", name := "wipe", desc := "()I" } : Jvm.MethodName) ∈ lw_tbl := List.mem_append_right _ (List.mem_of_getElem? (i := 244) (by decide +kernel))
theorem wm_245 : Jvm.Cond.instanceMethod ({ cls := "MemoRuntime", name := "wipe", desc := "()I" } : Jvm.MethodName) ∈ lw_tbl := List.mem_append_right _ (List.mem_of_getElem? (i := 245) (by decide +kernel))
theorem wm_246 : Jvm.Cond.selects "MemoRuntime" ({ cls := "MemoRuntime", name := "wipe", desc := "()I" } : Jvm.MethodName) ({ cls := "MemoRuntime", name := "wipe", desc := "()I" } : Jvm.MethodName) ∈ lw_tbl := List.mem_append_right _ (List.mem_of_getElem? (i := 246) (by decide +kernel))
theorem wm_247 : Jvm.Cond.code ({ cls := "MemoRuntime", name := "wipe", desc := "()I" } : Jvm.MethodName) prog_1_method_3_code (2 : Nat) (Option.some Jvm.ClassFile.FieldType.int) ∈ lw_tbl := List.mem_append_right _ (List.mem_of_getElem? (i := 247) (by decide +kernel))
theorem wm_248 : Jvm.Cond.methodLink "MemoRuntimeLaw" (91 : Nat) ({ cls := "MemoRuntime", name := "count", desc := "(I)I" } : Jvm.MethodName) ∈ lw_tbl := List.mem_append_right _ (List.mem_of_getElem? (i := 248) (by decide +kernel))
theorem wm_249 : Jvm.Cond.instanceMethod ({ cls := "MemoRuntime", name := "count", desc := "(I)I" } : Jvm.MethodName) ∈ lw_tbl := List.mem_append_right _ (List.mem_of_getElem? (i := 249) (by decide +kernel))
theorem wm_250 : Jvm.Cond.selects "MemoRuntime" ({ cls := "MemoRuntime", name := "count", desc := "(I)I" } : Jvm.MethodName) ({ cls := "MemoRuntime", name := "count", desc := "(I)I" } : Jvm.MethodName) ∈ lw_tbl := List.mem_append_right _ (List.mem_of_getElem? (i := 250) (by decide +kernel))
theorem wm_251 : Jvm.Cond.code ({ cls := "MemoRuntime", name := "count", desc := "(I)I" } : Jvm.MethodName) prog_1_method_9_code (2 : Nat) (Option.some Jvm.ClassFile.FieldType.int) ∈ lw_tbl := List.mem_append_right _ (List.mem_of_getElem? (i := 251) (by decide +kernel))
theorem wm_252 : Jvm.Cond.methodLink "MemoRuntimeLaw" (104 : Nat) ({ cls := "MemoRuntime", name := "recent", desc := "(I)I" } : Jvm.MethodName) ∈ lw_tbl := List.mem_append_right _ (List.mem_of_getElem? (i := 252) (by decide +kernel))
theorem wm_253 : Jvm.Cond.instanceMethod ({ cls := "MemoRuntime", name := "recent", desc := "(I)I" } : Jvm.MethodName) ∈ lw_tbl := List.mem_append_right _ (List.mem_of_getElem? (i := 253) (by decide +kernel))
theorem wm_254 : Jvm.Cond.selects "MemoRuntime" ({ cls := "MemoRuntime", name := "recent", desc := "(I)I" } : Jvm.MethodName) ({ cls := "MemoRuntime", name := "recent", desc := "(I)I" } : Jvm.MethodName) ∈ lw_tbl := List.mem_append_right _ (List.mem_of_getElem? (i := 254) (by decide +kernel))
theorem wm_255 : Jvm.Cond.code ({ cls := "MemoRuntime", name := "recent", desc := "(I)I" } : Jvm.MethodName) prog_1_method_13_code (2 : Nat) (Option.some Jvm.ClassFile.FieldType.int) ∈ lw_tbl := List.mem_append_right _ (List.mem_of_getElem? (i := 255) (by decide +kernel))
theorem wm_256 : Jvm.Cond.methodLink "MemoRuntime" (197 : Nat) ({ cls := "MemoRuntime$RecentOrder", name := "at", desc := "(I)I" } : Jvm.MethodName) ∈ lw_tbl := List.mem_append_right _ (List.mem_of_getElem? (i := 256) (by decide +kernel))
theorem wm_257 : Jvm.Cond.instanceMethod ({ cls := "MemoRuntime$RecentOrder", name := "at", desc := "(I)I" } : Jvm.MethodName) ∈ lw_tbl := List.mem_append_right _ (List.mem_of_getElem? (i := 257) (by decide +kernel))
theorem wm_258 : Jvm.Cond.selects "MemoRuntime$RecentOrder" ({ cls := "MemoRuntime$RecentOrder", name := "at", desc := "(I)I" } : Jvm.MethodName) ({ cls := "MemoRuntime$RecentOrder", name := "at", desc := "(I)I" } : Jvm.MethodName) ∈ lw_tbl := List.mem_append_right _ (List.mem_of_getElem? (i := 258) (by decide +kernel))
theorem wm_259 : Jvm.Cond.code ({ cls := "MemoRuntime$RecentOrder", name := "at", desc := "(I)I" } : Jvm.MethodName) prog_6_method_6_code (4 : Nat) (Option.some Jvm.ClassFile.FieldType.int) ∈ lw_tbl := List.mem_append_right _ (List.mem_of_getElem? (i := 259) (by decide +kernel))
theorem wm_260 : Jvm.Cond.methodLink "MemoRuntimeLaw" (67 : Nat) ({ cls := "MemoRuntimeLaw", name := "define", desc := "(LMemoRuntime;I[J)I" } : Jvm.MethodName) ∈ lw_tbl := List.mem_append_right _ (List.mem_of_getElem? (i := 260) (by decide +kernel))
theorem wm_261 : Jvm.Cond.static ({ cls := "MemoRuntimeLaw", name := "define", desc := "(LMemoRuntime;I[J)I" } : Jvm.MethodName) ∈ lw_tbl := List.mem_append_right _ (List.mem_of_getElem? (i := 261) (by decide +kernel))
theorem wm_262 : Jvm.Cond.codeWith ({ cls := "MemoRuntimeLaw", name := "define", desc := "(LMemoRuntime;I[J)I" } : Jvm.MethodName) method_3_code (4 : Nat) (Option.some Jvm.ClassFile.FieldType.int) [((0 : Nat), (9 : Nat), (12 : Nat), (13 : Nat))] ∈ lw_tbl := List.mem_append_right _ (List.mem_of_getElem? (i := 262) (by decide +kernel))
theorem wm_264 : Jvm.Cond.methodLink "MemoRuntimeLaw" (7 : Nat) ({ cls := "MemoRuntime", name := "define", desc := "(I)I" } : Jvm.MethodName) ∈ lw_tbl := List.mem_append_right _ (List.mem_of_getElem? (i := 264) (by decide +kernel))
theorem wm_265 : Jvm.Cond.instanceMethod ({ cls := "MemoRuntime", name := "define", desc := "(I)I" } : Jvm.MethodName) ∈ lw_tbl := List.mem_append_right _ (List.mem_of_getElem? (i := 265) (by decide +kernel))
theorem wm_266 : Jvm.Cond.selects "MemoRuntime" ({ cls := "MemoRuntime", name := "define", desc := "(I)I" } : Jvm.MethodName) ({ cls := "MemoRuntime", name := "define", desc := "(I)I" } : Jvm.MethodName) ∈ lw_tbl := List.mem_append_right _ (List.mem_of_getElem? (i := 266) (by decide +kernel))
theorem wm_267 : Jvm.Cond.code ({ cls := "MemoRuntime", name := "define", desc := "(I)I" } : Jvm.MethodName) prog_1_method_4_code (3 : Nat) (Option.some Jvm.ClassFile.FieldType.int) ∈ lw_tbl := List.mem_append_right _ (List.mem_of_getElem? (i := 267) (by decide +kernel))
theorem wm_268 : Jvm.Cond.methodLink "MemoRuntime" (96 : Nat) ({ cls := "MemoRuntime", name := "requireFunction", desc := "(I)V" } : Jvm.MethodName) ∈ lw_tbl := List.mem_append_right _ (List.mem_of_getElem? (i := 268) (by decide +kernel))
theorem wm_269 : Jvm.Cond.static ({ cls := "MemoRuntime", name := "requireFunction", desc := "(I)V" } : Jvm.MethodName) ∈ lw_tbl := List.mem_append_right _ (List.mem_of_getElem? (i := 269) (by decide +kernel))
theorem wm_270 : Jvm.Cond.code ({ cls := "MemoRuntime", name := "requireFunction", desc := "(I)V" } : Jvm.MethodName) prog_1_method_18_code (1 : Nat) (Option.none : Option Jvm.ClassFile.FieldType) ∈ lw_tbl := List.mem_append_right _ (List.mem_of_getElem? (i := 270) (by decide +kernel))
theorem wm_271 : Jvm.Cond.methodLink "MemoRuntime" (132 : Nat) ({ cls := "MemoRuntime", name := "requireWithin", desc := "(II)V" } : Jvm.MethodName) ∈ lw_tbl := List.mem_append_right _ (List.mem_of_getElem? (i := 271) (by decide +kernel))
theorem wm_272 : Jvm.Cond.static ({ cls := "MemoRuntime", name := "requireWithin", desc := "(II)V" } : Jvm.MethodName) ∈ lw_tbl := List.mem_append_right _ (List.mem_of_getElem? (i := 272) (by decide +kernel))
theorem wm_273 : Jvm.Cond.code ({ cls := "MemoRuntime", name := "requireWithin", desc := "(II)V" } : Jvm.MethodName) prog_1_method_16_code (2 : Nat) (Option.none : Option Jvm.ClassFile.FieldType) ∈ lw_tbl := List.mem_append_right _ (List.mem_of_getElem? (i := 273) (by decide +kernel))
theorem wm_342 : Jvm.Cond.methodLink "MemoRuntime" (100 : Nat) ({ cls := "MemoRuntime$Text", name := "firstFault", desc := "()I" } : Jvm.MethodName) ∈ lw_tbl := List.mem_append_right _ (List.mem_of_getElem? (i := 342) (by decide +kernel))
theorem wm_343 : Jvm.Cond.instanceMethod ({ cls := "MemoRuntime$Text", name := "firstFault", desc := "()I" } : Jvm.MethodName) ∈ lw_tbl := List.mem_append_right _ (List.mem_of_getElem? (i := 343) (by decide +kernel))
theorem wm_344 : Jvm.Cond.selects "MemoRuntime$Text" ({ cls := "MemoRuntime$Text", name := "firstFault", desc := "()I" } : Jvm.MethodName) ({ cls := "MemoRuntime$Text", name := "firstFault", desc := "()I" } : Jvm.MethodName) ∈ lw_tbl := List.mem_append_right _ (List.mem_of_getElem? (i := 344) (by decide +kernel))
theorem wm_345 : Jvm.Cond.code ({ cls := "MemoRuntime$Text", name := "firstFault", desc := "()I" } : Jvm.MethodName) prog_7_method_5_code (4 : Nat) (Option.some Jvm.ClassFile.FieldType.int) ∈ lw_tbl := List.mem_append_right _ (List.mem_of_getElem? (i := 345) (by decide +kernel))
theorem wm_346 : Jvm.Cond.methodLink "MemoRuntime$Text" (23 : Nat) ({ cls := "MemoRuntime$Text", name := "operandsOf", desc := "(C)I" } : Jvm.MethodName) ∈ lw_tbl := List.mem_append_right _ (List.mem_of_getElem? (i := 346) (by decide +kernel))
theorem wm_347 : Jvm.Cond.static ({ cls := "MemoRuntime$Text", name := "operandsOf", desc := "(C)I" } : Jvm.MethodName) ∈ lw_tbl := List.mem_append_right _ (List.mem_of_getElem? (i := 347) (by decide +kernel))
theorem wm_348 : Jvm.Cond.code ({ cls := "MemoRuntime$Text", name := "operandsOf", desc := "(C)I" } : Jvm.MethodName) prog_7_method_2_code (1 : Nat) (Option.some Jvm.ClassFile.FieldType.int) ∈ lw_tbl := List.mem_append_right _ (List.mem_of_getElem? (i := 348) (by decide +kernel))
theorem wm_349 : Jvm.Cond.methodLink "MemoRuntime" (104 : Nat) ({ cls := "MemoRuntime$Text", name := "become", desc := "(LMemoRuntime$Text;)V" } : Jvm.MethodName) ∈ lw_tbl := List.mem_append_right _ (List.mem_of_getElem? (i := 349) (by decide +kernel))
theorem wm_350 : Jvm.Cond.instanceMethod ({ cls := "MemoRuntime$Text", name := "become", desc := "(LMemoRuntime$Text;)V" } : Jvm.MethodName) ∈ lw_tbl := List.mem_append_right _ (List.mem_of_getElem? (i := 350) (by decide +kernel))
theorem wm_351 : Jvm.Cond.selects "MemoRuntime$Text" ({ cls := "MemoRuntime$Text", name := "become", desc := "(LMemoRuntime$Text;)V" } : Jvm.MethodName) ({ cls := "MemoRuntime$Text", name := "become", desc := "(LMemoRuntime$Text;)V" } : Jvm.MethodName) ∈ lw_tbl := List.mem_append_right _ (List.mem_of_getElem? (i := 351) (by decide +kernel))
theorem wm_352 : Jvm.Cond.code ({ cls := "MemoRuntime$Text", name := "become", desc := "(LMemoRuntime$Text;)V" } : Jvm.MethodName) prog_7_method_4_code (3 : Nat) (Option.none : Option Jvm.ClassFile.FieldType) ∈ lw_tbl := List.mem_append_right _ (List.mem_of_getElem? (i := 352) (by decide +kernel))
theorem wm_353 : Jvm.Cond.methodLink "MemoRuntime$Text" (19 : Nat) ({ cls := "MemoRuntime$Text", name := "append", desc := "(C)V" } : Jvm.MethodName) ∈ lw_tbl := List.mem_append_right _ (List.mem_of_getElem? (i := 353) (by decide +kernel))
theorem wm_354 : Jvm.Cond.methodLink "MemoRuntime" (108 : Nat) ({ cls := "MemoRuntime$RecentOrder", name := "clear", desc := "()V" } : Jvm.MethodName) ∈ lw_tbl := List.mem_append_right _ (List.mem_of_getElem? (i := 354) (by decide +kernel))
theorem wm_355 : Jvm.Cond.instanceMethod ({ cls := "MemoRuntime$RecentOrder", name := "clear", desc := "()V" } : Jvm.MethodName) ∈ lw_tbl := List.mem_append_right _ (List.mem_of_getElem? (i := 355) (by decide +kernel))
theorem wm_356 : Jvm.Cond.selects "MemoRuntime$RecentOrder" ({ cls := "MemoRuntime$RecentOrder", name := "clear", desc := "()V" } : Jvm.MethodName) ({ cls := "MemoRuntime$RecentOrder", name := "clear", desc := "()V" } : Jvm.MethodName) ∈ lw_tbl := List.mem_append_right _ (List.mem_of_getElem? (i := 356) (by decide +kernel))
theorem wm_357 : Jvm.Cond.code ({ cls := "MemoRuntime$RecentOrder", name := "clear", desc := "()V" } : Jvm.MethodName) prog_6_method_5_code (2 : Nat) (Option.none : Option Jvm.ClassFile.FieldType) ∈ lw_tbl := List.mem_append_right _ (List.mem_of_getElem? (i := 357) (by decide +kernel))
theorem wm_358 : Jvm.Cond.methodLink "MemoRuntime$RecentOrder" (26 : Nat) ({ cls := "MemoRuntime$RecentOrder", name := "remove", desc := "(I)V" } : Jvm.MethodName) ∈ lw_tbl := List.mem_append_right _ (List.mem_of_getElem? (i := 358) (by decide +kernel))
theorem wm_359 : Jvm.Cond.instanceMethod ({ cls := "MemoRuntime$RecentOrder", name := "remove", desc := "(I)V" } : Jvm.MethodName) ∈ lw_tbl := List.mem_append_right _ (List.mem_of_getElem? (i := 359) (by decide +kernel))
theorem wm_360 : Jvm.Cond.selects "MemoRuntime$RecentOrder" ({ cls := "MemoRuntime$RecentOrder", name := "remove", desc := "(I)V" } : Jvm.MethodName) ({ cls := "MemoRuntime$RecentOrder", name := "remove", desc := "(I)V" } : Jvm.MethodName) ∈ lw_tbl := List.mem_append_right _ (List.mem_of_getElem? (i := 360) (by decide +kernel))
theorem wm_361 : Jvm.Cond.code ({ cls := "MemoRuntime$RecentOrder", name := "remove", desc := "(I)V" } : Jvm.MethodName) prog_6_method_4_code (2 : Nat) (Option.none : Option Jvm.ClassFile.FieldType) ∈ lw_tbl := List.mem_append_right _ (List.mem_of_getElem? (i := 361) (by decide +kernel))
theorem wm_362 : Jvm.Cond.methodLink "MemoRuntime$RecentOrder" (30 : Nat) ({ cls := "MemoRuntime$RecentOrder", name := "join", desc := "(II)V" } : Jvm.MethodName) ∈ lw_tbl := List.mem_append_right _ (List.mem_of_getElem? (i := 362) (by decide +kernel))
theorem wm_364 : Jvm.Cond.instanceMethod ({ cls := "MemoRuntime$RecentOrder", name := "join", desc := "(II)V" } : Jvm.MethodName) ∈ lw_tbl := List.mem_append_right _ (List.mem_of_getElem? (i := 364) (by decide +kernel))
theorem wm_365 : Jvm.Cond.code ({ cls := "MemoRuntime$RecentOrder", name := "join", desc := "(II)V" } : Jvm.MethodName) prog_6_method_7_code (3 : Nat) (Option.none : Option Jvm.ClassFile.FieldType) ∈ lw_tbl := List.mem_append_right _ (List.mem_of_getElem? (i := 365) (by decide +kernel))
theorem wm_366 : Jvm.Cond.methodLink "MemoRuntimeLaw" (76 : Nat) ({ cls := "MemoRuntimeLaw", name := "input", desc := "(LMemoRuntime;III[J)I" } : Jvm.MethodName) ∈ lw_tbl := List.mem_append_right _ (List.mem_of_getElem? (i := 366) (by decide +kernel))
theorem wm_367 : Jvm.Cond.static ({ cls := "MemoRuntimeLaw", name := "input", desc := "(LMemoRuntime;III[J)I" } : Jvm.MethodName) ∈ lw_tbl := List.mem_append_right _ (List.mem_of_getElem? (i := 367) (by decide +kernel))
theorem wm_368 : Jvm.Cond.codeWith ({ cls := "MemoRuntimeLaw", name := "input", desc := "(LMemoRuntime;III[J)I" } : Jvm.MethodName) method_4_code (6 : Nat) (Option.some Jvm.ClassFile.FieldType.int) [((0 : Nat), (19 : Nat), (22 : Nat), (13 : Nat))] ∈ lw_tbl := List.mem_append_right _ (List.mem_of_getElem? (i := 368) (by decide +kernel))
theorem wm_369 : Jvm.Cond.methodLink "MemoRuntimeLaw" (15 : Nat) ({ cls := "MemoRuntime", name := "input", desc := "(III)Z" } : Jvm.MethodName) ∈ lw_tbl := List.mem_append_right _ (List.mem_of_getElem? (i := 369) (by decide +kernel))
theorem wm_370 : Jvm.Cond.instanceMethod ({ cls := "MemoRuntime", name := "input", desc := "(III)Z" } : Jvm.MethodName) ∈ lw_tbl := List.mem_append_right _ (List.mem_of_getElem? (i := 370) (by decide +kernel))
theorem wm_371 : Jvm.Cond.selects "MemoRuntime" ({ cls := "MemoRuntime", name := "input", desc := "(III)Z" } : Jvm.MethodName) ({ cls := "MemoRuntime", name := "input", desc := "(III)Z" } : Jvm.MethodName) ∈ lw_tbl := List.mem_append_right _ (List.mem_of_getElem? (i := 371) (by decide +kernel))
theorem wm_372 : Jvm.Cond.code ({ cls := "MemoRuntime", name := "input", desc := "(III)Z" } : Jvm.MethodName) prog_1_method_5_code (5 : Nat) (Option.some Jvm.ClassFile.FieldType.boolean) ∈ lw_tbl := List.mem_append_right _ (List.mem_of_getElem? (i := 372) (by decide +kernel))
theorem wm_373 : Jvm.Cond.methodLink "MemoRuntime" (111 : Nat) ({ cls := "MemoRuntime", name := "requireTable", desc := "(I)V" } : Jvm.MethodName) ∈ lw_tbl := List.mem_append_right _ (List.mem_of_getElem? (i := 373) (by decide +kernel))
theorem wm_374 : Jvm.Cond.static ({ cls := "MemoRuntime", name := "requireTable", desc := "(I)V" } : Jvm.MethodName) ∈ lw_tbl := List.mem_append_right _ (List.mem_of_getElem? (i := 374) (by decide +kernel))
theorem wm_375 : Jvm.Cond.code ({ cls := "MemoRuntime", name := "requireTable", desc := "(I)V" } : Jvm.MethodName) prog_1_method_17_code (1 : Nat) (Option.none : Option Jvm.ClassFile.FieldType) ∈ lw_tbl := List.mem_append_right _ (List.mem_of_getElem? (i := 375) (by decide +kernel))
theorem wm_376 : Jvm.Cond.methodLink "MemoRuntime" (114 : Nat) ({ cls := "MemoRuntime", name := "requireKey", desc := "(I)V" } : Jvm.MethodName) ∈ lw_tbl := List.mem_append_right _ (List.mem_of_getElem? (i := 376) (by decide +kernel))
theorem wm_377 : Jvm.Cond.static ({ cls := "MemoRuntime", name := "requireKey", desc := "(I)V" } : Jvm.MethodName) ∈ lw_tbl := List.mem_append_right _ (List.mem_of_getElem? (i := 377) (by decide +kernel))
theorem wm_378 : Jvm.Cond.code ({ cls := "MemoRuntime", name := "requireKey", desc := "(I)V" } : Jvm.MethodName) prog_1_method_19_code (1 : Nat) (Option.none : Option Jvm.ClassFile.FieldType) ∈ lw_tbl := List.mem_append_right _ (List.mem_of_getElem? (i := 378) (by decide +kernel))
theorem wm_379 : Jvm.Cond.methodLink "MemoRuntime" (123 : Nat) ({ cls := "MemoRuntime", name := "edit", desc := "(I)V" } : Jvm.MethodName) ∈ lw_tbl := List.mem_append_right _ (List.mem_of_getElem? (i := 379) (by decide +kernel))
theorem wm_381 : Jvm.Cond.instanceMethod ({ cls := "MemoRuntime", name := "edit", desc := "(I)V" } : Jvm.MethodName) ∈ lw_tbl := List.mem_append_right _ (List.mem_of_getElem? (i := 381) (by decide +kernel))
theorem wm_382 : Jvm.Cond.code ({ cls := "MemoRuntime", name := "edit", desc := "(I)V" } : Jvm.MethodName) prog_1_method_24_code (3 : Nat) (Option.none : Option Jvm.ClassFile.FieldType) ∈ lw_tbl := List.mem_append_right _ (List.mem_of_getElem? (i := 382) (by decide +kernel))
theorem wm_383 : Jvm.Cond.methodLink "MemoRuntime" (218 : Nat) ({ cls := "MemoRuntime$Edits", name := "add", desc := "(I)V" } : Jvm.MethodName) ∈ lw_tbl := List.mem_append_right _ (List.mem_of_getElem? (i := 383) (by decide +kernel))
theorem wm_384 : Jvm.Cond.instanceMethod ({ cls := "MemoRuntime$Edits", name := "add", desc := "(I)V" } : Jvm.MethodName) ∈ lw_tbl := List.mem_append_right _ (List.mem_of_getElem? (i := 384) (by decide +kernel))
theorem wm_385 : Jvm.Cond.selects "MemoRuntime$Edits" ({ cls := "MemoRuntime$Edits", name := "add", desc := "(I)V" } : Jvm.MethodName) ({ cls := "MemoRuntime$Edits", name := "add", desc := "(I)V" } : Jvm.MethodName) ∈ lw_tbl := List.mem_append_right _ (List.mem_of_getElem? (i := 385) (by decide +kernel))
theorem wm_386 : Jvm.Cond.code ({ cls := "MemoRuntime$Edits", name := "add", desc := "(I)V" } : Jvm.MethodName) prog_3_method_2_code (2 : Nat) (Option.none : Option Jvm.ClassFile.FieldType) ∈ lw_tbl := List.mem_append_right _ (List.mem_of_getElem? (i := 386) (by decide +kernel))
theorem wm_387 : Jvm.Cond.methodLink "MemoRuntime" (206 : Nat) ({ cls := "MemoRuntime$RecentOrder", name := "remove", desc := "(I)V" } : Jvm.MethodName) ∈ lw_tbl := List.mem_append_right _ (List.mem_of_getElem? (i := 387) (by decide +kernel))
theorem wm_388 : Jvm.Cond.methodLink "MemoRuntimeLaw" (80 : Nat) ({ cls := "MemoRuntimeLaw", name := "circle", desc := "(LMemoRuntime;II[J)I" } : Jvm.MethodName) ∈ lw_tbl := List.mem_append_right _ (List.mem_of_getElem? (i := 388) (by decide +kernel))
theorem wm_389 : Jvm.Cond.static ({ cls := "MemoRuntimeLaw", name := "circle", desc := "(LMemoRuntime;II[J)I" } : Jvm.MethodName) ∈ lw_tbl := List.mem_append_right _ (List.mem_of_getElem? (i := 389) (by decide +kernel))
theorem wm_390 : Jvm.Cond.codeWith ({ cls := "MemoRuntimeLaw", name := "circle", desc := "(LMemoRuntime;II[J)I" } : Jvm.MethodName) method_5_code (5 : Nat) (Option.some Jvm.ClassFile.FieldType.int) [((0 : Nat), (17 : Nat), (20 : Nat), (13 : Nat))] ∈ lw_tbl := List.mem_append_right _ (List.mem_of_getElem? (i := 390) (by decide +kernel))
theorem wm_391 : Jvm.Cond.methodLink "MemoRuntimeLaw" (19 : Nat) ({ cls := "MemoRuntime", name := "circle", desc := "(II)Z" } : Jvm.MethodName) ∈ lw_tbl := List.mem_append_right _ (List.mem_of_getElem? (i := 391) (by decide +kernel))
theorem wm_392 : Jvm.Cond.instanceMethod ({ cls := "MemoRuntime", name := "circle", desc := "(II)Z" } : Jvm.MethodName) ∈ lw_tbl := List.mem_append_right _ (List.mem_of_getElem? (i := 392) (by decide +kernel))
theorem wm_393 : Jvm.Cond.selects "MemoRuntime" ({ cls := "MemoRuntime", name := "circle", desc := "(II)Z" } : Jvm.MethodName) ({ cls := "MemoRuntime", name := "circle", desc := "(II)Z" } : Jvm.MethodName) ∈ lw_tbl := List.mem_append_right _ (List.mem_of_getElem? (i := 393) (by decide +kernel))
theorem wm_394 : Jvm.Cond.code ({ cls := "MemoRuntime", name := "circle", desc := "(II)Z" } : Jvm.MethodName) prog_1_method_6_code (3 : Nat) (Option.some Jvm.ClassFile.FieldType.boolean) ∈ lw_tbl := List.mem_append_right _ (List.mem_of_getElem? (i := 394) (by decide +kernel))
theorem wm_395 : Jvm.Cond.methodLink "MemoRuntimeLaw" (84 : Nat) ({ cls := "MemoRuntimeLaw", name := "level", desc := "(LMemoRuntime;II)I" } : Jvm.MethodName) ∈ lw_tbl := List.mem_append_right _ (List.mem_of_getElem? (i := 395) (by decide +kernel))
theorem wm_396 : Jvm.Cond.static ({ cls := "MemoRuntimeLaw", name := "level", desc := "(LMemoRuntime;II)I" } : Jvm.MethodName) ∈ lw_tbl := List.mem_append_right _ (List.mem_of_getElem? (i := 396) (by decide +kernel))
theorem wm_397 : Jvm.Cond.codeWith ({ cls := "MemoRuntimeLaw", name := "level", desc := "(LMemoRuntime;II)I" } : Jvm.MethodName) method_6_code (4 : Nat) (Option.some Jvm.ClassFile.FieldType.int) [((0 : Nat), (6 : Nat), (9 : Nat), (13 : Nat))] ∈ lw_tbl := List.mem_append_right _ (List.mem_of_getElem? (i := 397) (by decide +kernel))
theorem wm_398 : Jvm.Cond.methodLink "MemoRuntimeLaw" (23 : Nat) ({ cls := "MemoRuntime", name := "level", desc := "(II)V" } : Jvm.MethodName) ∈ lw_tbl := List.mem_append_right _ (List.mem_of_getElem? (i := 398) (by decide +kernel))
theorem wm_399 : Jvm.Cond.instanceMethod ({ cls := "MemoRuntime", name := "level", desc := "(II)V" } : Jvm.MethodName) ∈ lw_tbl := List.mem_append_right _ (List.mem_of_getElem? (i := 399) (by decide +kernel))
theorem wm_400 : Jvm.Cond.selects "MemoRuntime" ({ cls := "MemoRuntime", name := "level", desc := "(II)V" } : Jvm.MethodName) ({ cls := "MemoRuntime", name := "level", desc := "(II)V" } : Jvm.MethodName) ∈ lw_tbl := List.mem_append_right _ (List.mem_of_getElem? (i := 400) (by decide +kernel))
theorem wm_401 : Jvm.Cond.code ({ cls := "MemoRuntime", name := "level", desc := "(II)V" } : Jvm.MethodName) prog_1_method_7_code (3 : Nat) (Option.none : Option Jvm.ClassFile.FieldType) ∈ lw_tbl := List.mem_append_right _ (List.mem_of_getElem? (i := 401) (by decide +kernel))
theorem wm_402 : Jvm.Cond.methodLink "MemoRuntimeLaw" (88 : Nat) ({ cls := "MemoRuntimeLaw", name := "demand", desc := "(LMemoRuntime;II[J)I" } : Jvm.MethodName) ∈ lw_tbl := List.mem_append_right _ (List.mem_of_getElem? (i := 402) (by decide +kernel))
theorem wm_403 : Jvm.Cond.static ({ cls := "MemoRuntimeLaw", name := "demand", desc := "(LMemoRuntime;II[J)I" } : Jvm.MethodName) ∈ lw_tbl := List.mem_append_right _ (List.mem_of_getElem? (i := 403) (by decide +kernel))
theorem wm_404 : Jvm.Cond.codeWith ({ cls := "MemoRuntimeLaw", name := "demand", desc := "(LMemoRuntime;II[J)I" } : Jvm.MethodName) method_7_code (5 : Nat) (Option.some Jvm.ClassFile.FieldType.int) [((0 : Nat), (10 : Nat), (13 : Nat), (13 : Nat)), ((0 : Nat), (10 : Nat), (17 : Nat), (31 : Nat))] ∈ lw_tbl := List.mem_append_right _ (List.mem_of_getElem? (i := 404) (by decide +kernel))
theorem wm_406 : Jvm.Cond.methodLink "MemoRuntimeLaw" (27 : Nat) ({ cls := "MemoRuntime", name := "demand", desc := "(II)I" } : Jvm.MethodName) ∈ lw_tbl := List.mem_append_right _ (List.mem_of_getElem? (i := 406) (by decide +kernel))
theorem wm_407 : Jvm.Cond.instanceMethod ({ cls := "MemoRuntime", name := "demand", desc := "(II)I" } : Jvm.MethodName) ∈ lw_tbl := List.mem_append_right _ (List.mem_of_getElem? (i := 407) (by decide +kernel))
theorem wm_408 : Jvm.Cond.selects "MemoRuntime" ({ cls := "MemoRuntime", name := "demand", desc := "(II)I" } : Jvm.MethodName) ({ cls := "MemoRuntime", name := "demand", desc := "(II)I" } : Jvm.MethodName) ∈ lw_tbl := List.mem_append_right _ (List.mem_of_getElem? (i := 408) (by decide +kernel))
theorem wm_409 : Jvm.Cond.code ({ cls := "MemoRuntime", name := "demand", desc := "(II)I" } : Jvm.MethodName) prog_1_method_8_code (6 : Nat) (Option.some Jvm.ClassFile.FieldType.int) ∈ lw_tbl := List.mem_append_right _ (List.mem_of_getElem? (i := 409) (by decide +kernel))
theorem wm_410 : Jvm.Cond.methodLink "MemoRuntime" (136 : Nat) ({ cls := "MemoRuntime", name := "requireCell", desc := "(II)V" } : Jvm.MethodName) ∈ lw_tbl := List.mem_append_right _ (List.mem_of_getElem? (i := 410) (by decide +kernel))
theorem wm_411 : Jvm.Cond.static ({ cls := "MemoRuntime", name := "requireCell", desc := "(II)V" } : Jvm.MethodName) ∈ lw_tbl := List.mem_append_right _ (List.mem_of_getElem? (i := 411) (by decide +kernel))
theorem wm_412 : Jvm.Cond.code ({ cls := "MemoRuntime", name := "requireCell", desc := "(II)V" } : Jvm.MethodName) prog_1_method_20_code (2 : Nat) (Option.none : Option Jvm.ClassFile.FieldType) ∈ lw_tbl := List.mem_append_right _ (List.mem_of_getElem? (i := 412) (by decide +kernel))
theorem wm_413 : Jvm.Cond.fieldLink "MemoRuntime" (139 : Nat) "MemoRuntime$Outcome" "CIRCLE" "LMemoRuntime$Outcome;" ∈ lw_tbl := List.mem_append_right _ (List.mem_of_getElem? (i := 413) (by decide +kernel))
theorem wm_415 : Jvm.Cond.methodLink "MemoRuntime" (145 : Nat) ({ cls := "MemoRuntime", name := "ask", desc := "(I)LMemoRuntime$Outcome;" } : Jvm.MethodName) ∈ lw_tbl := List.mem_append_right _ (List.mem_of_getElem? (i := 415) (by decide +kernel))
theorem wm_417 : Jvm.Cond.instanceMethod ({ cls := "MemoRuntime", name := "ask", desc := "(I)LMemoRuntime$Outcome;" } : Jvm.MethodName) ∈ lw_tbl := List.mem_append_right _ (List.mem_of_getElem? (i := 417) (by decide +kernel))
theorem wm_418 : Jvm.Cond.code ({ cls := "MemoRuntime", name := "ask", desc := "(I)LMemoRuntime$Outcome;" } : Jvm.MethodName) prog_1_method_26_code (4 : Nat) (Option.some (Jvm.ClassFile.FieldType.object "MemoRuntime$Outcome")) ∈ lw_tbl := List.mem_append_right _ (List.mem_of_getElem? (i := 418) (by decide +kernel))
theorem wm_419 : Jvm.Cond.methodLink "MemoRuntime" (227 : Nat) ({ cls := "MemoRuntime", name := "placeUnderWay", desc := "(I)I" } : Jvm.MethodName) ∈ lw_tbl := List.mem_append_right _ (List.mem_of_getElem? (i := 419) (by decide +kernel))
theorem wm_421 : Jvm.Cond.instanceMethod ({ cls := "MemoRuntime", name := "placeUnderWay", desc := "(I)I" } : Jvm.MethodName) ∈ lw_tbl := List.mem_append_right _ (List.mem_of_getElem? (i := 421) (by decide +kernel))
theorem wm_422 : Jvm.Cond.code ({ cls := "MemoRuntime", name := "placeUnderWay", desc := "(I)I" } : Jvm.MethodName) prog_1_method_27_code (3 : Nat) (Option.some Jvm.ClassFile.FieldType.int) ∈ lw_tbl := List.mem_append_right _ (List.mem_of_getElem? (i := 422) (by decide +kernel))
theorem wm_423 : Jvm.Cond.methodLink "MemoRuntime" (230 : Nat) ({ cls := "MemoRuntime", name := "answerCircle", desc := "(I)V" } : Jvm.MethodName) ∈ lw_tbl := List.mem_append_right _ (List.mem_of_getElem? (i := 423) (by decide +kernel))
theorem wm_425 : Jvm.Cond.instanceMethod ({ cls := "MemoRuntime", name := "answerCircle", desc := "(I)V" } : Jvm.MethodName) ∈ lw_tbl := List.mem_append_right _ (List.mem_of_getElem? (i := 425) (by decide +kernel))
theorem wm_426 : Jvm.Cond.code ({ cls := "MemoRuntime", name := "answerCircle", desc := "(I)V" } : Jvm.MethodName) prog_1_method_28_code (5 : Nat) (Option.none : Option Jvm.ClassFile.FieldType) ∈ lw_tbl := List.mem_append_right _ (List.mem_of_getElem? (i := 426) (by decide +kernel))
theorem wm_427 : Jvm.Cond.methodLink "MemoRuntime" (159 : Nat) ({ cls := "MemoRuntime$RecentOrder", name := "putLast", desc := "(I)V" } : Jvm.MethodName) ∈ lw_tbl := List.mem_append_right _ (List.mem_of_getElem? (i := 427) (by decide +kernel))
theorem wm_428 : Jvm.Cond.instanceMethod ({ cls := "MemoRuntime$RecentOrder", name := "putLast", desc := "(I)V" } : Jvm.MethodName) ∈ lw_tbl := List.mem_append_right _ (List.mem_of_getElem? (i := 428) (by decide +kernel))
theorem wm_429 : Jvm.Cond.selects "MemoRuntime$RecentOrder" ({ cls := "MemoRuntime$RecentOrder", name := "putLast", desc := "(I)V" } : Jvm.MethodName) ({ cls := "MemoRuntime$RecentOrder", name := "putLast", desc := "(I)V" } : Jvm.MethodName) ∈ lw_tbl := List.mem_append_right _ (List.mem_of_getElem? (i := 429) (by decide +kernel))
theorem wm_430 : Jvm.Cond.code ({ cls := "MemoRuntime$RecentOrder", name := "putLast", desc := "(I)V" } : Jvm.MethodName) prog_6_method_3_code (3 : Nat) (Option.none : Option Jvm.ClassFile.FieldType) ∈ lw_tbl := List.mem_append_right _ (List.mem_of_getElem? (i := 430) (by decide +kernel))
theorem wm_431 : Jvm.Cond.methodLink "MemoRuntime" (233 : Nat) ({ cls := "MemoRuntime", name := "isGood", desc := "(I)Z" } : Jvm.MethodName) ∈ lw_tbl := List.mem_append_right _ (List.mem_of_getElem? (i := 431) (by decide +kernel))
theorem wm_433 : Jvm.Cond.instanceMethod ({ cls := "MemoRuntime", name := "isGood", desc := "(I)Z" } : Jvm.MethodName) ∈ lw_tbl := List.mem_append_right _ (List.mem_of_getElem? (i := 433) (by decide +kernel))
theorem wm_434 : Jvm.Cond.code ({ cls := "MemoRuntime", name := "isGood", desc := "(I)Z" } : Jvm.MethodName) prog_1_method_29_code (2 : Nat) (Option.some Jvm.ClassFile.FieldType.boolean) ∈ lw_tbl := List.mem_append_right _ (List.mem_of_getElem? (i := 434) (by decide +kernel))
theorem wm_435 : Jvm.Cond.methodLink "MemoRuntime" (171 : Nat) ({ cls := "MemoRuntime$RecentOrder", name := "holds", desc := "(I)Z" } : Jvm.MethodName) ∈ lw_tbl := List.mem_append_right _ (List.mem_of_getElem? (i := 435) (by decide +kernel))
theorem wm_436 : Jvm.Cond.instanceMethod ({ cls := "MemoRuntime$RecentOrder", name := "holds", desc := "(I)Z" } : Jvm.MethodName) ∈ lw_tbl := List.mem_append_right _ (List.mem_of_getElem? (i := 436) (by decide +kernel))
theorem wm_437 : Jvm.Cond.selects "MemoRuntime$RecentOrder" ({ cls := "MemoRuntime$RecentOrder", name := "holds", desc := "(I)Z" } : Jvm.MethodName) ({ cls := "MemoRuntime$RecentOrder", name := "holds", desc := "(I)Z" } : Jvm.MethodName) ∈ lw_tbl := List.mem_append_right _ (List.mem_of_getElem? (i := 437) (by decide +kernel))
theorem wm_438 : Jvm.Cond.code ({ cls := "MemoRuntime$RecentOrder", name := "holds", desc := "(I)Z" } : Jvm.MethodName) prog_6_method_2_code (2 : Nat) (Option.some Jvm.ClassFile.FieldType.boolean) ∈ lw_tbl := List.mem_append_right _ (List.mem_of_getElem? (i := 438) (by decide +kernel))
theorem wm_439 : Jvm.Cond.methodLink "MemoRuntime" (236 : Nat) ({ cls := "MemoRuntime", name := "skip", desc := "(I)Z" } : Jvm.MethodName) ∈ lw_tbl := List.mem_append_right _ (List.mem_of_getElem? (i := 439) (by decide +kernel))
theorem wm_441 : Jvm.Cond.instanceMethod ({ cls := "MemoRuntime", name := "skip", desc := "(I)Z" } : Jvm.MethodName) ∈ lw_tbl := List.mem_append_right _ (List.mem_of_getElem? (i := 441) (by decide +kernel))
theorem wm_442 : Jvm.Cond.code ({ cls := "MemoRuntime", name := "skip", desc := "(I)Z" } : Jvm.MethodName) prog_1_method_30_code (3 : Nat) (Option.some Jvm.ClassFile.FieldType.boolean) ∈ lw_tbl := List.mem_append_right _ (List.mem_of_getElem? (i := 442) (by decide +kernel))
theorem wm_443 : Jvm.Cond.methodLink "MemoRuntime" (252 : Nat) ({ cls := "MemoRuntime$Edits", name := "touched", desc := "(II)Z" } : Jvm.MethodName) ∈ lw_tbl := List.mem_append_right _ (List.mem_of_getElem? (i := 443) (by decide +kernel))
theorem wm_444 : Jvm.Cond.instanceMethod ({ cls := "MemoRuntime$Edits", name := "touched", desc := "(II)Z" } : Jvm.MethodName) ∈ lw_tbl := List.mem_append_right _ (List.mem_of_getElem? (i := 444) (by decide +kernel))
theorem wm_445 : Jvm.Cond.selects "MemoRuntime$Edits" ({ cls := "MemoRuntime$Edits", name := "touched", desc := "(II)Z" } : Jvm.MethodName) ({ cls := "MemoRuntime$Edits", name := "touched", desc := "(II)Z" } : Jvm.MethodName) ∈ lw_tbl := List.mem_append_right _ (List.mem_of_getElem? (i := 445) (by decide +kernel))
theorem wm_446 : Jvm.Cond.code ({ cls := "MemoRuntime$Edits", name := "touched", desc := "(II)Z" } : Jvm.MethodName) prog_3_method_3_code (4 : Nat) (Option.some Jvm.ClassFile.FieldType.boolean) ∈ lw_tbl := List.mem_append_right _ (List.mem_of_getElem? (i := 446) (by decide +kernel))
theorem wm_447 : Jvm.Cond.fieldLink "MemoRuntime" (149 : Nat) "MemoRuntime$Outcome" "ANSWERED" "LMemoRuntime$Outcome;" ∈ lw_tbl := List.mem_append_right _ (List.mem_of_getElem? (i := 447) (by decide +kernel))
theorem wm_449 : Jvm.Cond.fieldLink "MemoRuntime" (239 : Nat) "MemoRuntime$Outcome" "GIVEN_UP" "LMemoRuntime$Outcome;" ∈ lw_tbl := List.mem_append_right _ (List.mem_of_getElem? (i := 449) (by decide +kernel))
theorem wm_451 : Jvm.Cond.methodLink "MemoRuntime" (242 : Nat) ({ cls := "MemoRuntime", name := "verify", desc := "(I)LMemoRuntime$Outcome;" } : Jvm.MethodName) ∈ lw_tbl := List.mem_append_right _ (List.mem_of_getElem? (i := 451) (by decide +kernel))
theorem wm_453 : Jvm.Cond.instanceMethod ({ cls := "MemoRuntime", name := "verify", desc := "(I)LMemoRuntime$Outcome;" } : Jvm.MethodName) ∈ lw_tbl := List.mem_append_right _ (List.mem_of_getElem? (i := 453) (by decide +kernel))
theorem wm_454 : Jvm.Cond.code ({ cls := "MemoRuntime", name := "verify", desc := "(I)LMemoRuntime$Outcome;" } : Jvm.MethodName) prog_1_method_31_code (6 : Nat) (Option.some (Jvm.ClassFile.FieldType.object "MemoRuntime$Outcome")) ∈ lw_tbl := List.mem_append_right _ (List.mem_of_getElem? (i := 454) (by decide +kernel))
theorem wm_455 : Jvm.Cond.fieldLink "MemoRuntime" (245 : Nat) "MemoRuntime$Outcome" "STALE" "LMemoRuntime$Outcome;" ∈ lw_tbl := List.mem_append_right _ (List.mem_of_getElem? (i := 455) (by decide +kernel))
theorem wm_457 : Jvm.Cond.methodLink "MemoRuntime" (256 : Nat) ({ cls := "MemoRuntime", name := "askForRead", desc := "(I)LMemoRuntime$Outcome;" } : Jvm.MethodName) ∈ lw_tbl := List.mem_append_right _ (List.mem_of_getElem? (i := 457) (by decide +kernel))
theorem wm_459 : Jvm.Cond.instanceMethod ({ cls := "MemoRuntime", name := "askForRead", desc := "(I)LMemoRuntime$Outcome;" } : Jvm.MethodName) ∈ lw_tbl := List.mem_append_right _ (List.mem_of_getElem? (i := 459) (by decide +kernel))
theorem wm_460 : Jvm.Cond.code ({ cls := "MemoRuntime", name := "askForRead", desc := "(I)LMemoRuntime$Outcome;" } : Jvm.MethodName) prog_1_method_34_code (2 : Nat) (Option.some (Jvm.ClassFile.FieldType.object "MemoRuntime$Outcome")) ∈ lw_tbl := List.mem_append_right _ (List.mem_of_getElem? (i := 460) (by decide +kernel))
theorem wm_461 : Jvm.Cond.methodLink "MemoRuntime" (295 : Nat) ({ cls := "MemoRuntime", name := "isCellRead", desc := "(I)Z" } : Jvm.MethodName) ∈ lw_tbl := List.mem_append_right _ (List.mem_of_getElem? (i := 461) (by decide +kernel))
theorem wm_462 : Jvm.Cond.static ({ cls := "MemoRuntime", name := "isCellRead", desc := "(I)Z" } : Jvm.MethodName) ∈ lw_tbl := List.mem_append_right _ (List.mem_of_getElem? (i := 462) (by decide +kernel))
theorem wm_463 : Jvm.Cond.code ({ cls := "MemoRuntime", name := "isCellRead", desc := "(I)Z" } : Jvm.MethodName) prog_1_method_35_code (1 : Nat) (Option.some Jvm.ClassFile.FieldType.boolean) ∈ lw_tbl := List.mem_append_right _ (List.mem_of_getElem? (i := 463) (by decide +kernel))
theorem wm_464 : Jvm.Cond.methodLink "MemoRuntime" (259 : Nat) ({ cls := "MemoRuntime", name := "changedOf", desc := "(I)I" } : Jvm.MethodName) ∈ lw_tbl := List.mem_append_right _ (List.mem_of_getElem? (i := 464) (by decide +kernel))
theorem wm_466 : Jvm.Cond.instanceMethod ({ cls := "MemoRuntime", name := "changedOf", desc := "(I)I" } : Jvm.MethodName) ∈ lw_tbl := List.mem_append_right _ (List.mem_of_getElem? (i := 466) (by decide +kernel))
theorem wm_467 : Jvm.Cond.code ({ cls := "MemoRuntime", name := "changedOf", desc := "(I)I" } : Jvm.MethodName) prog_1_method_37_code (2 : Nat) (Option.some Jvm.ClassFile.FieldType.int) ∈ lw_tbl := List.mem_append_right _ (List.mem_of_getElem? (i := 467) (by decide +kernel))
theorem wm_468 : Jvm.Cond.methodLink "MemoRuntime" (262 : Nat) ({ cls := "MemoRuntime", name := "leastClassOfReads", desc := "(LMemoRuntime$Cell;)I" } : Jvm.MethodName) ∈ lw_tbl := List.mem_append_right _ (List.mem_of_getElem? (i := 468) (by decide +kernel))
theorem wm_470 : Jvm.Cond.instanceMethod ({ cls := "MemoRuntime", name := "leastClassOfReads", desc := "(LMemoRuntime$Cell;)I" } : Jvm.MethodName) ∈ lw_tbl := List.mem_append_right _ (List.mem_of_getElem? (i := 470) (by decide +kernel))
theorem wm_471 : Jvm.Cond.code ({ cls := "MemoRuntime", name := "leastClassOfReads", desc := "(LMemoRuntime$Cell;)I" } : Jvm.MethodName) prog_1_method_39_code (4 : Nat) (Option.some Jvm.ClassFile.FieldType.int) ∈ lw_tbl := List.mem_append_right _ (List.mem_of_getElem? (i := 471) (by decide +kernel))
theorem wm_472 : Jvm.Cond.methodLink "MemoRuntime" (298 : Nat) ({ cls := "MemoRuntime", name := "classOf", desc := "(I)I" } : Jvm.MethodName) ∈ lw_tbl := List.mem_append_right _ (List.mem_of_getElem? (i := 472) (by decide +kernel))
theorem wm_474 : Jvm.Cond.instanceMethod ({ cls := "MemoRuntime", name := "classOf", desc := "(I)I" } : Jvm.MethodName) ∈ lw_tbl := List.mem_append_right _ (List.mem_of_getElem? (i := 474) (by decide +kernel))
theorem wm_475 : Jvm.Cond.code ({ cls := "MemoRuntime", name := "classOf", desc := "(I)I" } : Jvm.MethodName) prog_1_method_38_code (2 : Nat) (Option.some Jvm.ClassFile.FieldType.int) ∈ lw_tbl := List.mem_append_right _ (List.mem_of_getElem? (i := 475) (by decide +kernel))
theorem wm_476 : Jvm.Cond.methodLink "MemoRuntime" (301 : Nat) ({ cls := "java/lang/Math", name := "min", desc := "(II)I" } : Jvm.MethodName) ∈ lw_tbl := List.mem_append_right _ (List.mem_of_getElem? (i := 476) (by decide +kernel))
theorem wm_477 : Jvm.Cond.static ({ cls := "java/lang/Math", name := "min", desc := "(II)I" } : Jvm.MethodName) ∈ lw_tbl := List.mem_append_right _ (List.mem_of_getElem? (i := 477) (by decide +kernel))
theorem wm_479 : Jvm.Cond.methodLink "MemoRuntime" (248 : Nat) ({ cls := "MemoRuntime", name := "run", desc := "(ILMemoRuntime$Working;)LMemoRuntime$Outcome;" } : Jvm.MethodName) ∈ lw_tbl := List.mem_append_right _ (List.mem_of_getElem? (i := 479) (by decide +kernel))
theorem wm_481 : Jvm.Cond.instanceMethod ({ cls := "MemoRuntime", name := "run", desc := "(ILMemoRuntime$Working;)LMemoRuntime$Outcome;" } : Jvm.MethodName) ∈ lw_tbl := List.mem_append_right _ (List.mem_of_getElem? (i := 481) (by decide +kernel))
theorem wm_482 : Jvm.Cond.code ({ cls := "MemoRuntime", name := "run", desc := "(ILMemoRuntime$Working;)LMemoRuntime$Outcome;" } : Jvm.MethodName) prog_1_method_32_code (5 : Nat) (Option.some (Jvm.ClassFile.FieldType.object "MemoRuntime$Outcome")) ∈ lw_tbl := List.mem_append_right _ (List.mem_of_getElem? (i := 482) (by decide +kernel))
theorem wm_483 : Jvm.Cond.methodLink "MemoRuntime" (266 : Nat) ({ cls := "MemoRuntime$Working", name := "begin", desc := "(LMemoRuntime$Text;I)V" } : Jvm.MethodName) ∈ lw_tbl := List.mem_append_right _ (List.mem_of_getElem? (i := 483) (by decide +kernel))
theorem wm_484 : Jvm.Cond.instanceMethod ({ cls := "MemoRuntime$Working", name := "begin", desc := "(LMemoRuntime$Text;I)V" } : Jvm.MethodName) ∈ lw_tbl := List.mem_append_right _ (List.mem_of_getElem? (i := 484) (by decide +kernel))
theorem wm_485 : Jvm.Cond.selects "MemoRuntime$Working" ({ cls := "MemoRuntime$Working", name := "begin", desc := "(LMemoRuntime$Text;I)V" } : Jvm.MethodName) ({ cls := "MemoRuntime$Working", name := "begin", desc := "(LMemoRuntime$Text;I)V" } : Jvm.MethodName) ∈ lw_tbl := List.mem_append_right _ (List.mem_of_getElem? (i := 485) (by decide +kernel))
theorem wm_486 : Jvm.Cond.code ({ cls := "MemoRuntime$Working", name := "begin", desc := "(LMemoRuntime$Text;I)V" } : Jvm.MethodName) prog_8_method_2_code (3 : Nat) (Option.none : Option Jvm.ClassFile.FieldType) ∈ lw_tbl := List.mem_append_right _ (List.mem_of_getElem? (i := 486) (by decide +kernel))
theorem wm_487 : Jvm.Cond.methodLink "MemoRuntime" (270 : Nat) ({ cls := "MemoRuntime$Working", name := "goOn", desc := "()V" } : Jvm.MethodName) ∈ lw_tbl := List.mem_append_right _ (List.mem_of_getElem? (i := 487) (by decide +kernel))
theorem wm_488 : Jvm.Cond.instanceMethod ({ cls := "MemoRuntime$Working", name := "goOn", desc := "()V" } : Jvm.MethodName) ∈ lw_tbl := List.mem_append_right _ (List.mem_of_getElem? (i := 488) (by decide +kernel))
theorem wm_489 : Jvm.Cond.selects "MemoRuntime$Working" ({ cls := "MemoRuntime$Working", name := "goOn", desc := "()V" } : Jvm.MethodName) ({ cls := "MemoRuntime$Working", name := "goOn", desc := "()V" } : Jvm.MethodName) ∈ lw_tbl := List.mem_append_right _ (List.mem_of_getElem? (i := 489) (by decide +kernel))
theorem wm_490 : Jvm.Cond.code ({ cls := "MemoRuntime$Working", name := "goOn", desc := "()V" } : Jvm.MethodName) prog_8_method_3_code (3 : Nat) (Option.none : Option Jvm.ClassFile.FieldType) ∈ lw_tbl := List.mem_append_right _ (List.mem_of_getElem? (i := 490) (by decide +kernel))
theorem wm_491 : Jvm.Cond.methodLink "MemoRuntime$Working" (58 : Nat) ({ cls := "MemoRuntime$Text", name := "operandsOf", desc := "(C)I" } : Jvm.MethodName) ∈ lw_tbl := List.mem_append_right _ (List.mem_of_getElem? (i := 491) (by decide +kernel))
theorem wm_492 : Jvm.Cond.methodLink "MemoRuntime$Working" (62 : Nat) ({ cls := "MemoRuntime$Working", name := "letWait", desc := "(C)V" } : Jvm.MethodName) ∈ lw_tbl := List.mem_append_right _ (List.mem_of_getElem? (i := 492) (by decide +kernel))
theorem wm_494 : Jvm.Cond.instanceMethod ({ cls := "MemoRuntime$Working", name := "letWait", desc := "(C)V" } : Jvm.MethodName) ∈ lw_tbl := List.mem_append_right _ (List.mem_of_getElem? (i := 494) (by decide +kernel))
theorem wm_495 : Jvm.Cond.code ({ cls := "MemoRuntime$Working", name := "letWait", desc := "(C)V" } : Jvm.MethodName) prog_8_method_6_code (2 : Nat) (Option.none : Option Jvm.ClassFile.FieldType) ∈ lw_tbl := List.mem_append_right _ (List.mem_of_getElem? (i := 495) (by decide +kernel))
theorem wm_496 : Jvm.Cond.methodLink "MemoRuntime$Working" (66 : Nat) ({ cls := "MemoRuntime$Working", name := "handOver", desc := "(I)V" } : Jvm.MethodName) ∈ lw_tbl := List.mem_append_right _ (List.mem_of_getElem? (i := 496) (by decide +kernel))
theorem wm_498 : Jvm.Cond.instanceMethod ({ cls := "MemoRuntime$Working", name := "handOver", desc := "(I)V" } : Jvm.MethodName) ∈ lw_tbl := List.mem_append_right _ (List.mem_of_getElem? (i := 498) (by decide +kernel))
theorem wm_499 : Jvm.Cond.code ({ cls := "MemoRuntime$Working", name := "handOver", desc := "(I)V" } : Jvm.MethodName) prog_8_method_7_code (4 : Nat) (Option.none : Option Jvm.ClassFile.FieldType) ∈ lw_tbl := List.mem_append_right _ (List.mem_of_getElem? (i := 499) (by decide +kernel))
theorem wm_500 : Jvm.Cond.methodLink "MemoRuntime$Working" (73 : Nat) ({ cls := "MemoRuntime$Text", name := "behind", desc := "(I)I" } : Jvm.MethodName) ∈ lw_tbl := List.mem_append_right _ (List.mem_of_getElem? (i := 500) (by decide +kernel))
theorem wm_501 : Jvm.Cond.instanceMethod ({ cls := "MemoRuntime$Text", name := "behind", desc := "(I)I" } : Jvm.MethodName) ∈ lw_tbl := List.mem_append_right _ (List.mem_of_getElem? (i := 501) (by decide +kernel))
theorem wm_502 : Jvm.Cond.selects "MemoRuntime$Text" ({ cls := "MemoRuntime$Text", name := "behind", desc := "(I)I" } : Jvm.MethodName) ({ cls := "MemoRuntime$Text", name := "behind", desc := "(I)I" } : Jvm.MethodName) ∈ lw_tbl := List.mem_append_right _ (List.mem_of_getElem? (i := 502) (by decide +kernel))
theorem wm_503 : Jvm.Cond.code ({ cls := "MemoRuntime$Text", name := "behind", desc := "(I)I" } : Jvm.MethodName) prog_7_method_6_code (4 : Nat) (Option.some Jvm.ClassFile.FieldType.int) ∈ lw_tbl := List.mem_append_right _ (List.mem_of_getElem? (i := 503) (by decide +kernel))
theorem wm_504 : Jvm.Cond.methodLink "MemoRuntime$Working" (77 : Nat) ({ cls := "MemoRuntime$Working", name := "together", desc := "(CII)I" } : Jvm.MethodName) ∈ lw_tbl := List.mem_append_right _ (List.mem_of_getElem? (i := 504) (by decide +kernel))
theorem wm_505 : Jvm.Cond.static ({ cls := "MemoRuntime$Working", name := "together", desc := "(CII)I" } : Jvm.MethodName) ∈ lw_tbl := List.mem_append_right _ (List.mem_of_getElem? (i := 505) (by decide +kernel))
theorem wm_506 : Jvm.Cond.code ({ cls := "MemoRuntime$Working", name := "together", desc := "(CII)I" } : Jvm.MethodName) prog_8_method_10_code (3 : Nat) (Option.some Jvm.ClassFile.FieldType.int) ∈ lw_tbl := List.mem_append_right _ (List.mem_of_getElem? (i := 506) (by decide +kernel))
theorem wm_507 : Jvm.Cond.methodLink "MemoRuntime$Working" (81 : Nat) ({ cls := "MemoRuntime$Working", name := "takeFirst", desc := "(C)V" } : Jvm.MethodName) ∈ lw_tbl := List.mem_append_right _ (List.mem_of_getElem? (i := 507) (by decide +kernel))
theorem wm_509 : Jvm.Cond.instanceMethod ({ cls := "MemoRuntime$Working", name := "takeFirst", desc := "(C)V" } : Jvm.MethodName) ∈ lw_tbl := List.mem_append_right _ (List.mem_of_getElem? (i := 509) (by decide +kernel))
theorem wm_510 : Jvm.Cond.code ({ cls := "MemoRuntime$Working", name := "takeFirst", desc := "(C)V" } : Jvm.MethodName) prog_8_method_8_code (2 : Nat) (Option.none : Option Jvm.ClassFile.FieldType) ∈ lw_tbl := List.mem_append_right _ (List.mem_of_getElem? (i := 510) (by decide +kernel))
theorem wm_511 : Jvm.Cond.methodLink "MemoRuntime$Working" (84 : Nat) ({ cls := "MemoRuntime$Working", name := "readBy", desc := "(CI)I" } : Jvm.MethodName) ∈ lw_tbl := List.mem_append_right _ (List.mem_of_getElem? (i := 511) (by decide +kernel))
theorem wm_512 : Jvm.Cond.static ({ cls := "MemoRuntime$Working", name := "readBy", desc := "(CI)I" } : Jvm.MethodName) ∈ lw_tbl := List.mem_append_right _ (List.mem_of_getElem? (i := 512) (by decide +kernel))
theorem wm_513 : Jvm.Cond.code ({ cls := "MemoRuntime$Working", name := "readBy", desc := "(CI)I" } : Jvm.MethodName) prog_8_method_9_code (2 : Nat) (Option.some Jvm.ClassFile.FieldType.int) ∈ lw_tbl := List.mem_append_right _ (List.mem_of_getElem? (i := 513) (by decide +kernel))
theorem wm_514 : Jvm.Cond.methodLink "MemoRuntime" (276 : Nat) ({ cls := "MemoRuntime", name := "valueOf", desc := "(I)I" } : Jvm.MethodName) ∈ lw_tbl := List.mem_append_right _ (List.mem_of_getElem? (i := 514) (by decide +kernel))
theorem wm_516 : Jvm.Cond.instanceMethod ({ cls := "MemoRuntime", name := "valueOf", desc := "(I)I" } : Jvm.MethodName) ∈ lw_tbl := List.mem_append_right _ (List.mem_of_getElem? (i := 516) (by decide +kernel))
theorem wm_517 : Jvm.Cond.code ({ cls := "MemoRuntime", name := "valueOf", desc := "(I)I" } : Jvm.MethodName) prog_1_method_36_code (2 : Nat) (Option.some Jvm.ClassFile.FieldType.int) ∈ lw_tbl := List.mem_append_right _ (List.mem_of_getElem? (i := 517) (by decide +kernel))
theorem wm_518 : Jvm.Cond.methodLink "MemoRuntime" (279 : Nat) ({ cls := "MemoRuntime$Working", name := "take", desc := "(I)V" } : Jvm.MethodName) ∈ lw_tbl := List.mem_append_right _ (List.mem_of_getElem? (i := 518) (by decide +kernel))
theorem wm_519 : Jvm.Cond.instanceMethod ({ cls := "MemoRuntime$Working", name := "take", desc := "(I)V" } : Jvm.MethodName) ∈ lw_tbl := List.mem_append_right _ (List.mem_of_getElem? (i := 519) (by decide +kernel))
theorem wm_520 : Jvm.Cond.selects "MemoRuntime$Working" ({ cls := "MemoRuntime$Working", name := "take", desc := "(I)V" } : Jvm.MethodName) ({ cls := "MemoRuntime$Working", name := "take", desc := "(I)V" } : Jvm.MethodName) ∈ lw_tbl := List.mem_append_right _ (List.mem_of_getElem? (i := 520) (by decide +kernel))
theorem wm_521 : Jvm.Cond.code ({ cls := "MemoRuntime$Working", name := "take", desc := "(I)V" } : Jvm.MethodName) prog_8_method_4_code (2 : Nat) (Option.none : Option Jvm.ClassFile.FieldType) ∈ lw_tbl := List.mem_append_right _ (List.mem_of_getElem? (i := 521) (by decide +kernel))
theorem wm_522 : Jvm.Cond.methodLink "MemoRuntime$Working" (70 : Nat) ({ cls := "MemoRuntime$Working", name := "noteRead", desc := "(I)V" } : Jvm.MethodName) ∈ lw_tbl := List.mem_append_right _ (List.mem_of_getElem? (i := 522) (by decide +kernel))
theorem wm_524 : Jvm.Cond.instanceMethod ({ cls := "MemoRuntime$Working", name := "noteRead", desc := "(I)V" } : Jvm.MethodName) ∈ lw_tbl := List.mem_append_right _ (List.mem_of_getElem? (i := 524) (by decide +kernel))
theorem wm_525 : Jvm.Cond.code ({ cls := "MemoRuntime$Working", name := "noteRead", desc := "(I)V" } : Jvm.MethodName) prog_8_method_5_code (3 : Nat) (Option.none : Option Jvm.ClassFile.FieldType) ∈ lw_tbl := List.mem_append_right _ (List.mem_of_getElem? (i := 525) (by decide +kernel))
theorem wm_526 : Jvm.Cond.methodLink "MemoRuntime" (282 : Nat) ({ cls := "MemoRuntime", name := "keep", desc := "(ILMemoRuntime$Working;)V" } : Jvm.MethodName) ∈ lw_tbl := List.mem_append_right _ (List.mem_of_getElem? (i := 526) (by decide +kernel))
theorem wm_528 : Jvm.Cond.instanceMethod ({ cls := "MemoRuntime", name := "keep", desc := "(ILMemoRuntime$Working;)V" } : Jvm.MethodName) ∈ lw_tbl := List.mem_append_right _ (List.mem_of_getElem? (i := 528) (by decide +kernel))
theorem wm_529 : Jvm.Cond.code ({ cls := "MemoRuntime", name := "keep", desc := "(ILMemoRuntime$Working;)V" } : Jvm.MethodName) prog_1_method_33_code (4 : Nat) (Option.none : Option Jvm.ClassFile.FieldType) ∈ lw_tbl := List.mem_append_right _ (List.mem_of_getElem? (i := 529) (by decide +kernel))
theorem wm_530 : Jvm.Cond.methodLink "MemoRuntime" (289 : Nat) ({ cls := "java/lang/System", name := "arraycopy", desc := "(Ljava/lang/Object;ILjava/lang/Object;II)V" } : Jvm.MethodName) ∈ lw_tbl := List.mem_append_right _ (List.mem_of_getElem? (i := 530) (by decide +kernel))
theorem wm_531 : Jvm.Cond.static ({ cls := "java/lang/System", name := "arraycopy", desc := "(Ljava/lang/Object;ILjava/lang/Object;II)V" } : Jvm.MethodName) ∈ lw_tbl := List.mem_append_right _ (List.mem_of_getElem? (i := 531) (by decide +kernel))
theorem wm_532 : Jvm.Cond.native ({ cls := "java/lang/System", name := "arraycopy", desc := "(Ljava/lang/Object;ILjava/lang/Object;II)V" } : Jvm.MethodName) ∈ lw_tbl := List.mem_append_right _ (List.mem_of_getElem? (i := 532) (by decide +kernel))
theorem wm_549 : Jvm.Cond.methodLink "MemoRuntime" (162 : Nat) ({ cls := "MemoRuntime", name := "letFirstGo", desc := "()I" } : Jvm.MethodName) ∈ lw_tbl := List.mem_append_right _ (List.mem_of_getElem? (i := 549) (by decide +kernel))
theorem wm_551 : Jvm.Cond.instanceMethod ({ cls := "MemoRuntime", name := "letFirstGo", desc := "()I" } : Jvm.MethodName) ∈ lw_tbl := List.mem_append_right _ (List.mem_of_getElem? (i := 551) (by decide +kernel))
theorem wm_552 : Jvm.Cond.code ({ cls := "MemoRuntime", name := "letFirstGo", desc := "()I" } : Jvm.MethodName) prog_1_method_25_code (3 : Nat) (Option.some Jvm.ClassFile.FieldType.int) ∈ lw_tbl := List.mem_append_right _ (List.mem_of_getElem? (i := 552) (by decide +kernel))
theorem wm_553 : Jvm.Cond.methodLink "MemoRuntime" (221 : Nat) ({ cls := "java/lang/Math", name := "max", desc := "(II)I" } : Jvm.MethodName) ∈ lw_tbl := List.mem_append_right _ (List.mem_of_getElem? (i := 553) (by decide +kernel))
theorem wm_554 : Jvm.Cond.static ({ cls := "java/lang/Math", name := "max", desc := "(II)I" } : Jvm.MethodName) ∈ lw_tbl := List.mem_append_right _ (List.mem_of_getElem? (i := 554) (by decide +kernel))
theorem wm_556 : Jvm.Cond.methodLink "MemoRuntimeLaw" (95 : Nat) ({ cls := "MemoRuntimeLaw", name := "kept", desc := "(LMemoRuntime;II[J)I" } : Jvm.MethodName) ∈ lw_tbl := List.mem_append_right _ (List.mem_of_getElem? (i := 556) (by decide +kernel))
theorem wm_557 : Jvm.Cond.static ({ cls := "MemoRuntimeLaw", name := "kept", desc := "(LMemoRuntime;II[J)I" } : Jvm.MethodName) ∈ lw_tbl := List.mem_append_right _ (List.mem_of_getElem? (i := 557) (by decide +kernel))
theorem wm_558 : Jvm.Cond.codeWith ({ cls := "MemoRuntimeLaw", name := "kept", desc := "(LMemoRuntime;II[J)I" } : Jvm.MethodName) method_8_code (5 : Nat) (Option.some Jvm.ClassFile.FieldType.int) [((0 : Nat), (17 : Nat), (20 : Nat), (13 : Nat))] ∈ lw_tbl := List.mem_append_right _ (List.mem_of_getElem? (i := 558) (by decide +kernel))
theorem wm_559 : Jvm.Cond.methodLink "MemoRuntimeLaw" (33 : Nat) ({ cls := "MemoRuntime", name := "kept", desc := "(II)Z" } : Jvm.MethodName) ∈ lw_tbl := List.mem_append_right _ (List.mem_of_getElem? (i := 559) (by decide +kernel))
theorem wm_560 : Jvm.Cond.instanceMethod ({ cls := "MemoRuntime", name := "kept", desc := "(II)Z" } : Jvm.MethodName) ∈ lw_tbl := List.mem_append_right _ (List.mem_of_getElem? (i := 560) (by decide +kernel))
theorem wm_561 : Jvm.Cond.selects "MemoRuntime" ({ cls := "MemoRuntime", name := "kept", desc := "(II)Z" } : Jvm.MethodName) ({ cls := "MemoRuntime", name := "kept", desc := "(II)Z" } : Jvm.MethodName) ∈ lw_tbl := List.mem_append_right _ (List.mem_of_getElem? (i := 561) (by decide +kernel))
theorem wm_562 : Jvm.Cond.code ({ cls := "MemoRuntime", name := "kept", desc := "(II)Z" } : Jvm.MethodName) prog_1_method_10_code (3 : Nat) (Option.some Jvm.ClassFile.FieldType.boolean) ∈ lw_tbl := List.mem_append_right _ (List.mem_of_getElem? (i := 562) (by decide +kernel))
theorem wm_563 : Jvm.Cond.methodLink "MemoRuntimeLaw" (98 : Nat) ({ cls := "MemoRuntimeLaw", name := "cell", desc := "(LMemoRuntime;III[J)I" } : Jvm.MethodName) ∈ lw_tbl := List.mem_append_right _ (List.mem_of_getElem? (i := 563) (by decide +kernel))
theorem wm_564 : Jvm.Cond.static ({ cls := "MemoRuntimeLaw", name := "cell", desc := "(LMemoRuntime;III[J)I" } : Jvm.MethodName) ∈ lw_tbl := List.mem_append_right _ (List.mem_of_getElem? (i := 564) (by decide +kernel))
theorem wm_565 : Jvm.Cond.codeWith ({ cls := "MemoRuntimeLaw", name := "cell", desc := "(LMemoRuntime;III[J)I" } : Jvm.MethodName) method_9_code (6 : Nat) (Option.some Jvm.ClassFile.FieldType.int) [((0 : Nat), (12 : Nat), (15 : Nat), (13 : Nat)), ((0 : Nat), (12 : Nat), (19 : Nat), (40 : Nat))] ∈ lw_tbl := List.mem_append_right _ (List.mem_of_getElem? (i := 565) (by decide +kernel))
theorem wm_567 : Jvm.Cond.methodLink "MemoRuntimeLaw" (36 : Nat) ({ cls := "MemoRuntime", name := "cell", desc := "(III)I" } : Jvm.MethodName) ∈ lw_tbl := List.mem_append_right _ (List.mem_of_getElem? (i := 567) (by decide +kernel))
theorem wm_568 : Jvm.Cond.instanceMethod ({ cls := "MemoRuntime", name := "cell", desc := "(III)I" } : Jvm.MethodName) ∈ lw_tbl := List.mem_append_right _ (List.mem_of_getElem? (i := 568) (by decide +kernel))
theorem wm_569 : Jvm.Cond.selects "MemoRuntime" ({ cls := "MemoRuntime", name := "cell", desc := "(III)I" } : Jvm.MethodName) ({ cls := "MemoRuntime", name := "cell", desc := "(III)I" } : Jvm.MethodName) ∈ lw_tbl := List.mem_append_right _ (List.mem_of_getElem? (i := 569) (by decide +kernel))
theorem wm_570 : Jvm.Cond.code ({ cls := "MemoRuntime", name := "cell", desc := "(III)I" } : Jvm.MethodName) prog_1_method_11_code (5 : Nat) (Option.some Jvm.ClassFile.FieldType.int) ∈ lw_tbl := List.mem_append_right _ (List.mem_of_getElem? (i := 570) (by decide +kernel))
theorem wm_571 : Jvm.Cond.methodLink "MemoRuntime" (175 : Nat) ({ cls := "MemoRuntime", name := "keptCell", desc := "(I)LMemoRuntime$Cell;" } : Jvm.MethodName) ∈ lw_tbl := List.mem_append_right _ (List.mem_of_getElem? (i := 571) (by decide +kernel))
theorem wm_573 : Jvm.Cond.instanceMethod ({ cls := "MemoRuntime", name := "keptCell", desc := "(I)LMemoRuntime$Cell;" } : Jvm.MethodName) ∈ lw_tbl := List.mem_append_right _ (List.mem_of_getElem? (i := 573) (by decide +kernel))
theorem wm_574 : Jvm.Cond.code ({ cls := "MemoRuntime", name := "keptCell", desc := "(I)LMemoRuntime$Cell;" } : Jvm.MethodName) prog_1_method_21_code (2 : Nat) (Option.some (Jvm.ClassFile.FieldType.object "MemoRuntime$Cell")) ∈ lw_tbl := List.mem_append_right _ (List.mem_of_getElem? (i := 574) (by decide +kernel))
theorem wm_591 : Jvm.Cond.methodLink "MemoRuntimeLaw" (101 : Nat) ({ cls := "MemoRuntimeLaw", name := "read", desc := "(LMemoRuntime;III[J)I" } : Jvm.MethodName) ∈ lw_tbl := List.mem_append_right _ (List.mem_of_getElem? (i := 591) (by decide +kernel))
theorem wm_592 : Jvm.Cond.static ({ cls := "MemoRuntimeLaw", name := "read", desc := "(LMemoRuntime;III[J)I" } : Jvm.MethodName) ∈ lw_tbl := List.mem_append_right _ (List.mem_of_getElem? (i := 592) (by decide +kernel))
theorem wm_593 : Jvm.Cond.codeWith ({ cls := "MemoRuntimeLaw", name := "read", desc := "(LMemoRuntime;III[J)I" } : Jvm.MethodName) method_10_code (6 : Nat) (Option.some Jvm.ClassFile.FieldType.int) [((0 : Nat), (12 : Nat), (15 : Nat), (13 : Nat)), ((0 : Nat), (12 : Nat), (19 : Nat), (40 : Nat))] ∈ lw_tbl := List.mem_append_right _ (List.mem_of_getElem? (i := 593) (by decide +kernel))
theorem wm_594 : Jvm.Cond.methodLink "MemoRuntimeLaw" (42 : Nat) ({ cls := "MemoRuntime", name := "read", desc := "(III)I" } : Jvm.MethodName) ∈ lw_tbl := List.mem_append_right _ (List.mem_of_getElem? (i := 594) (by decide +kernel))
theorem wm_595 : Jvm.Cond.instanceMethod ({ cls := "MemoRuntime", name := "read", desc := "(III)I" } : Jvm.MethodName) ∈ lw_tbl := List.mem_append_right _ (List.mem_of_getElem? (i := 595) (by decide +kernel))
theorem wm_596 : Jvm.Cond.selects "MemoRuntime" ({ cls := "MemoRuntime", name := "read", desc := "(III)I" } : Jvm.MethodName) ({ cls := "MemoRuntime", name := "read", desc := "(III)I" } : Jvm.MethodName) ∈ lw_tbl := List.mem_append_right _ (List.mem_of_getElem? (i := 596) (by decide +kernel))
theorem wm_597 : Jvm.Cond.code ({ cls := "MemoRuntime", name := "read", desc := "(III)I" } : Jvm.MethodName) prog_1_method_12_code (5 : Nat) (Option.some Jvm.ClassFile.FieldType.int) ∈ lw_tbl := List.mem_append_right _ (List.mem_of_getElem? (i := 597) (by decide +kernel))
theorem wm_598 : Jvm.Cond.methodLink "MemoRuntimeLaw" (108 : Nat) ({ cls := "MemoRuntimeLaw", name := "bound", desc := "(LMemoRuntime;I[J)I" } : Jvm.MethodName) ∈ lw_tbl := List.mem_append_right _ (List.mem_of_getElem? (i := 598) (by decide +kernel))
theorem wm_599 : Jvm.Cond.static ({ cls := "MemoRuntimeLaw", name := "bound", desc := "(LMemoRuntime;I[J)I" } : Jvm.MethodName) ∈ lw_tbl := List.mem_append_right _ (List.mem_of_getElem? (i := 599) (by decide +kernel))
theorem wm_600 : Jvm.Cond.codeWith ({ cls := "MemoRuntimeLaw", name := "bound", desc := "(LMemoRuntime;I[J)I" } : Jvm.MethodName) method_11_code (4 : Nat) (Option.some Jvm.ClassFile.FieldType.int) [((0 : Nat), (9 : Nat), (12 : Nat), (13 : Nat))] ∈ lw_tbl := List.mem_append_right _ (List.mem_of_getElem? (i := 600) (by decide +kernel))
theorem wm_601 : Jvm.Cond.methodLink "MemoRuntimeLaw" (45 : Nat) ({ cls := "MemoRuntime", name := "bound", desc := "(I)I" } : Jvm.MethodName) ∈ lw_tbl := List.mem_append_right _ (List.mem_of_getElem? (i := 601) (by decide +kernel))
theorem wm_602 : Jvm.Cond.instanceMethod ({ cls := "MemoRuntime", name := "bound", desc := "(I)I" } : Jvm.MethodName) ∈ lw_tbl := List.mem_append_right _ (List.mem_of_getElem? (i := 602) (by decide +kernel))
theorem wm_603 : Jvm.Cond.selects "MemoRuntime" ({ cls := "MemoRuntime", name := "bound", desc := "(I)I" } : Jvm.MethodName) ({ cls := "MemoRuntime", name := "bound", desc := "(I)I" } : Jvm.MethodName) ∈ lw_tbl := List.mem_append_right _ (List.mem_of_getElem? (i := 603) (by decide +kernel))
theorem wm_604 : Jvm.Cond.code ({ cls := "MemoRuntime", name := "bound", desc := "(I)I" } : Jvm.MethodName) prog_1_method_14_code (2 : Nat) (Option.some Jvm.ClassFile.FieldType.int) ∈ lw_tbl := List.mem_append_right _ (List.mem_of_getElem? (i := 604) (by decide +kernel))
theorem wm_606 : Jvm.Cond.methodLink "MemoRuntimeLaw" (111 : Nat) ({ cls := "MemoRuntimeLaw", name := "drop", desc := "(LMemoRuntime;II[J)I" } : Jvm.MethodName) ∈ lw_tbl := List.mem_append_right _ (List.mem_of_getElem? (i := 606) (by decide +kernel))
theorem wm_607 : Jvm.Cond.static ({ cls := "MemoRuntimeLaw", name := "drop", desc := "(LMemoRuntime;II[J)I" } : Jvm.MethodName) ∈ lw_tbl := List.mem_append_right _ (List.mem_of_getElem? (i := 607) (by decide +kernel))
theorem wm_608 : Jvm.Cond.codeWith ({ cls := "MemoRuntimeLaw", name := "drop", desc := "(LMemoRuntime;II[J)I" } : Jvm.MethodName) method_12_code (5 : Nat) (Option.some Jvm.ClassFile.FieldType.int) [((0 : Nat), (17 : Nat), (20 : Nat), (13 : Nat))] ∈ lw_tbl := List.mem_append_right _ (List.mem_of_getElem? (i := 608) (by decide +kernel))
theorem wm_609 : Jvm.Cond.methodLink "MemoRuntimeLaw" (48 : Nat) ({ cls := "MemoRuntime", name := "drop", desc := "(II)Z" } : Jvm.MethodName) ∈ lw_tbl := List.mem_append_right _ (List.mem_of_getElem? (i := 609) (by decide +kernel))
theorem wm_610 : Jvm.Cond.instanceMethod ({ cls := "MemoRuntime", name := "drop", desc := "(II)Z" } : Jvm.MethodName) ∈ lw_tbl := List.mem_append_right _ (List.mem_of_getElem? (i := 610) (by decide +kernel))
theorem wm_611 : Jvm.Cond.selects "MemoRuntime" ({ cls := "MemoRuntime", name := "drop", desc := "(II)Z" } : Jvm.MethodName) ({ cls := "MemoRuntime", name := "drop", desc := "(II)Z" } : Jvm.MethodName) ∈ lw_tbl := List.mem_append_right _ (List.mem_of_getElem? (i := 611) (by decide +kernel))
theorem wm_612 : Jvm.Cond.code ({ cls := "MemoRuntime", name := "drop", desc := "(II)Z" } : Jvm.MethodName) prog_1_method_15_code (5 : Nat) (Option.some Jvm.ClassFile.FieldType.boolean) ∈ lw_tbl := List.mem_append_right _ (List.mem_of_getElem? (i := 612) (by decide +kernel))
theorem wm_613 : Jvm.Cond.classLink "MemoRuntimeLaw" (52 : Nat) "MemoRuntimeModel" ∈ lw_tbl := List.mem_append_right _ (List.mem_of_getElem? (i := 613) (by decide +kernel))
theorem wm_614 : Jvm.Cond.instantiable "MemoRuntimeModel" (37 : Nat) ∈ lw_tbl := List.mem_append_right _ (List.mem_of_getElem? (i := 614) (by decide +kernel))
theorem wm_615 : Jvm.Cond.methodLink "MemoRuntimeLaw" (54 : Nat) ({ cls := "MemoRuntimeModel", name := "<init>", desc := "()V" } : Jvm.MethodName) ∈ lw_tbl := List.mem_append_right _ (List.mem_of_getElem? (i := 615) (by decide +kernel))
theorem wm_616 : Jvm.Cond.instanceMethod ({ cls := "MemoRuntimeModel", name := "<init>", desc := "()V" } : Jvm.MethodName) ∈ lw_tbl := List.mem_append_right _ (List.mem_of_getElem? (i := 616) (by decide +kernel))
theorem wm_617 : Jvm.Cond.code ({ cls := "MemoRuntimeModel", name := "<init>", desc := "()V" } : Jvm.MethodName) prog_10_method_1_code (2 : Nat) (Option.none : Option Jvm.ClassFile.FieldType) ∈ lw_tbl := List.mem_append_right _ (List.mem_of_getElem? (i := 617) (by decide +kernel))
theorem wm_618 : Jvm.Cond.methodLink "MemoRuntimeModel" (1 : Nat) ({ cls := "java/lang/Object", name := "<init>", desc := "()V" } : Jvm.MethodName) ∈ lw_tbl := List.mem_append_right _ (List.mem_of_getElem? (i := 618) (by decide +kernel))
theorem wm_619 : Jvm.Cond.fieldLink "MemoRuntimeModel" (84 : Nat) "MemoRuntimeModel" "thrown" "I" ∈ lw_tbl := List.mem_append_right _ (List.mem_of_getElem? (i := 619) (by decide +kernel))
theorem wm_620 : Jvm.Cond.fieldLink "MemoRuntimeModel" (7 : Nat) "MemoRuntimeModel" "draft" "[I" ∈ lw_tbl := List.mem_append_right _ (List.mem_of_getElem? (i := 620) (by decide +kernel))
theorem wm_621 : Jvm.Cond.fieldLink "MemoRuntimeModel" (89 : Nat) "MemoRuntimeModel" "length" "I" ∈ lw_tbl := List.mem_append_right _ (List.mem_of_getElem? (i := 621) (by decide +kernel))
theorem wm_622 : Jvm.Cond.fieldLink "MemoRuntimeModel" (13 : Nat) "MemoRuntimeModel" "texts" "[I" ∈ lw_tbl := List.mem_append_right _ (List.mem_of_getElem? (i := 622) (by decide +kernel))
theorem wm_623 : Jvm.Cond.fieldLink "MemoRuntimeModel" (16 : Nat) "MemoRuntimeModel" "lengths" "[I" ∈ lw_tbl := List.mem_append_right _ (List.mem_of_getElem? (i := 623) (by decide +kernel))
theorem wm_624 : Jvm.Cond.fieldLink "MemoRuntimeModel" (99 : Nat) "MemoRuntimeModel" "revision" "I" ∈ lw_tbl := List.mem_append_right _ (List.mem_of_getElem? (i := 624) (by decide +kernel))
theorem wm_625 : Jvm.Cond.fieldLink "MemoRuntimeModel" (19 : Nat) "MemoRuntimeModel" "inputs" "[I" ∈ lw_tbl := List.mem_append_right _ (List.mem_of_getElem? (i := 625) (by decide +kernel))
theorem wm_626 : Jvm.Cond.fieldLink "MemoRuntimeModel" (22 : Nat) "MemoRuntimeModel" "inputChanged" "[I" ∈ lw_tbl := List.mem_append_right _ (List.mem_of_getElem? (i := 626) (by decide +kernel))
theorem wm_627 : Jvm.Cond.fieldLink "MemoRuntimeModel" (25 : Nat) "MemoRuntimeModel" "classes" "[I" ∈ lw_tbl := List.mem_append_right _ (List.mem_of_getElem? (i := 627) (by decide +kernel))
theorem wm_628 : Jvm.Cond.fieldLink "MemoRuntimeModel" (28 : Nat) "MemoRuntimeModel" "circles" "[I" ∈ lw_tbl := List.mem_append_right _ (List.mem_of_getElem? (i := 628) (by decide +kernel))
theorem wm_629 : Jvm.Cond.fieldLink "MemoRuntimeModel" (31 : Nat) "MemoRuntimeModel" "edited" "[I" ∈ lw_tbl := List.mem_append_right _ (List.mem_of_getElem? (i := 629) (by decide +kernel))
theorem wm_630 : Jvm.Cond.fieldLink "MemoRuntimeModel" (34 : Nat) "MemoRuntimeModel" "has" "[Z" ∈ lw_tbl := List.mem_append_right _ (List.mem_of_getElem? (i := 630) (by decide +kernel))
theorem wm_631 : Jvm.Cond.fieldLink "MemoRuntimeModel" (38 : Nat) "MemoRuntimeModel" "value" "[I" ∈ lw_tbl := List.mem_append_right _ (List.mem_of_getElem? (i := 631) (by decide +kernel))
theorem wm_632 : Jvm.Cond.fieldLink "MemoRuntimeModel" (41 : Nat) "MemoRuntimeModel" "good" "[I" ∈ lw_tbl := List.mem_append_right _ (List.mem_of_getElem? (i := 632) (by decide +kernel))
theorem wm_633 : Jvm.Cond.fieldLink "MemoRuntimeModel" (44 : Nat) "MemoRuntimeModel" "changed" "[I" ∈ lw_tbl := List.mem_append_right _ (List.mem_of_getElem? (i := 633) (by decide +kernel))
theorem wm_634 : Jvm.Cond.fieldLink "MemoRuntimeModel" (47 : Nat) "MemoRuntimeModel" "level" "[I" ∈ lw_tbl := List.mem_append_right _ (List.mem_of_getElem? (i := 634) (by decide +kernel))
theorem wm_635 : Jvm.Cond.fieldLink "MemoRuntimeModel" (50 : Nat) "MemoRuntimeModel" "round" "[Z" ∈ lw_tbl := List.mem_append_right _ (List.mem_of_getElem? (i := 635) (by decide +kernel))
theorem wm_636 : Jvm.Cond.fieldLink "MemoRuntimeModel" (53 : Nat) "MemoRuntimeModel" "reads" "[I" ∈ lw_tbl := List.mem_append_right _ (List.mem_of_getElem? (i := 636) (by decide +kernel))
theorem wm_637 : Jvm.Cond.fieldLink "MemoRuntimeModel" (56 : Nat) "MemoRuntimeModel" "many" "[I" ∈ lw_tbl := List.mem_append_right _ (List.mem_of_getElem? (i := 637) (by decide +kernel))
theorem wm_638 : Jvm.Cond.fieldLink "MemoRuntimeModel" (59 : Nat) "MemoRuntimeModel" "stamp" "[I" ∈ lw_tbl := List.mem_append_right _ (List.mem_of_getElem? (i := 638) (by decide +kernel))
theorem wm_639 : Jvm.Cond.fieldLink "MemoRuntimeModel" (110 : Nat) "MemoRuntimeModel" "clock" "I" ∈ lw_tbl := List.mem_append_right _ (List.mem_of_getElem? (i := 639) (by decide +kernel))
theorem wm_640 : Jvm.Cond.fieldLink "MemoRuntimeModel" (62 : Nat) "MemoRuntimeModel" "bound" "I" ∈ lw_tbl := List.mem_append_right _ (List.mem_of_getElem? (i := 640) (by decide +kernel))
theorem wm_641 : Jvm.Cond.fieldLink "MemoRuntimeModel" (170 : Nat) "MemoRuntimeModel" "ran" "I" ∈ lw_tbl := List.mem_append_right _ (List.mem_of_getElem? (i := 641) (by decide +kernel))
theorem wm_642 : Jvm.Cond.fieldLink "MemoRuntimeModel" (144 : Nat) "MemoRuntimeModel" "verified" "I" ∈ lw_tbl := List.mem_append_right _ (List.mem_of_getElem? (i := 642) (by decide +kernel))
theorem wm_643 : Jvm.Cond.fieldLink "MemoRuntimeModel" (131 : Nat) "MemoRuntimeModel" "skipped" "I" ∈ lw_tbl := List.mem_append_right _ (List.mem_of_getElem? (i := 643) (by decide +kernel))
theorem wm_644 : Jvm.Cond.fieldLink "MemoRuntimeModel" (116 : Nat) "MemoRuntimeModel" "circled" "I" ∈ lw_tbl := List.mem_append_right _ (List.mem_of_getElem? (i := 644) (by decide +kernel))
theorem wm_645 : Jvm.Cond.fieldLink "MemoRuntimeModel" (113 : Nat) "MemoRuntimeModel" "depth" "I" ∈ lw_tbl := List.mem_append_right _ (List.mem_of_getElem? (i := 645) (by decide +kernel))
theorem wm_646 : Jvm.Cond.fieldLink "MemoRuntimeModel" (66 : Nat) "MemoRuntimeModel" "under" "[I" ∈ lw_tbl := List.mem_append_right _ (List.mem_of_getElem? (i := 646) (by decide +kernel))
theorem wm_647 : Jvm.Cond.fieldLink "MemoRuntimeModel" (69 : Nat) "MemoRuntimeModel" "running" "[Z" ∈ lw_tbl := List.mem_append_right _ (List.mem_of_getElem? (i := 647) (by decide +kernel))
theorem wm_648 : Jvm.Cond.fieldLink "MemoRuntimeModel" (134 : Nat) "MemoRuntimeModel" "gaveUp" "Z" ∈ lw_tbl := List.mem_append_right _ (List.mem_of_getElem? (i := 648) (by decide +kernel))
theorem wm_649 : Jvm.Cond.fieldLink "MemoRuntimeModel" (150 : Nat) "MemoRuntimeModel" "waiting" "I" ∈ lw_tbl := List.mem_append_right _ (List.mem_of_getElem? (i := 649) (by decide +kernel))
theorem wm_650 : Jvm.Cond.fieldLink "MemoRuntimeModel" (72 : Nat) "MemoRuntimeModel" "operation" "[I" ∈ lw_tbl := List.mem_append_right _ (List.mem_of_getElem? (i := 650) (by decide +kernel))
theorem wm_651 : Jvm.Cond.fieldLink "MemoRuntimeModel" (75 : Nat) "MemoRuntimeModel" "collected" "[I" ∈ lw_tbl := List.mem_append_right _ (List.mem_of_getElem? (i := 651) (by decide +kernel))
theorem wm_652 : Jvm.Cond.fieldLink "MemoRuntimeModel" (78 : Nat) "MemoRuntimeModel" "left" "[I" ∈ lw_tbl := List.mem_append_right _ (List.mem_of_getElem? (i := 652) (by decide +kernel))
theorem wm_653 : Jvm.Cond.fieldLink "MemoRuntimeModel" (147 : Nat) "MemoRuntimeModel" "readCount" "I" ∈ lw_tbl := List.mem_append_right _ (List.mem_of_getElem? (i := 653) (by decide +kernel))
theorem wm_654 : Jvm.Cond.fieldLink "MemoRuntimeModel" (81 : Nat) "MemoRuntimeModel" "readNow" "[I" ∈ lw_tbl := List.mem_append_right _ (List.mem_of_getElem? (i := 654) (by decide +kernel))
theorem wm_655 : Jvm.Cond.fieldLink "MemoRuntimeModel" (153 : Nat) "MemoRuntimeModel" "result" "I" ∈ lw_tbl := List.mem_append_right _ (List.mem_of_getElem? (i := 655) (by decide +kernel))
theorem wm_731 : Jvm.Cond.methodLink "MemoRuntimeLaw" (73 : Nat) ({ cls := "MemoRuntimeModel", name := "thrown", desc := "()I" } : Jvm.MethodName) ∈ lw_tbl := List.mem_append_right _ (List.mem_of_getElem? (i := 731) (by decide +kernel))
theorem wm_732 : Jvm.Cond.instanceMethod ({ cls := "MemoRuntimeModel", name := "thrown", desc := "()I" } : Jvm.MethodName) ∈ lw_tbl := List.mem_append_right _ (List.mem_of_getElem? (i := 732) (by decide +kernel))
theorem wm_733 : Jvm.Cond.selects "MemoRuntimeModel" ({ cls := "MemoRuntimeModel", name := "thrown", desc := "()I" } : Jvm.MethodName) ({ cls := "MemoRuntimeModel", name := "thrown", desc := "()I" } : Jvm.MethodName) ∈ lw_tbl := List.mem_append_right _ (List.mem_of_getElem? (i := 733) (by decide +kernel))
theorem wm_734 : Jvm.Cond.code ({ cls := "MemoRuntimeModel", name := "thrown", desc := "()I" } : Jvm.MethodName) prog_10_method_2_code (1 : Nat) (Option.some Jvm.ClassFile.FieldType.int) ∈ lw_tbl := List.mem_append_right _ (List.mem_of_getElem? (i := 734) (by decide +kernel))
theorem wm_735 : Jvm.Cond.methodLink "MemoRuntimeLaw" (61 : Nat) ({ cls := "MemoRuntimeModel", name := "write", desc := "(J)I" } : Jvm.MethodName) ∈ lw_tbl := List.mem_append_right _ (List.mem_of_getElem? (i := 735) (by decide +kernel))
theorem wm_736 : Jvm.Cond.instanceMethod ({ cls := "MemoRuntimeModel", name := "write", desc := "(J)I" } : Jvm.MethodName) ∈ lw_tbl := List.mem_append_right _ (List.mem_of_getElem? (i := 736) (by decide +kernel))
theorem wm_737 : Jvm.Cond.selects "MemoRuntimeModel" ({ cls := "MemoRuntimeModel", name := "write", desc := "(J)I" } : Jvm.MethodName) ({ cls := "MemoRuntimeModel", name := "write", desc := "(J)I" } : Jvm.MethodName) ∈ lw_tbl := List.mem_append_right _ (List.mem_of_getElem? (i := 737) (by decide +kernel))
theorem wm_738 : Jvm.Cond.code ({ cls := "MemoRuntimeModel", name := "write", desc := "(J)I" } : Jvm.MethodName) prog_10_method_3_code (6 : Nat) (Option.some Jvm.ClassFile.FieldType.int) ∈ lw_tbl := List.mem_append_right _ (List.mem_of_getElem? (i := 738) (by decide +kernel))
theorem wm_739 : Jvm.Cond.constantLong "MemoRuntimeModel" (87 : Nat) (255 : Int64) ∈ lw_tbl := List.mem_append_right _ (List.mem_of_getElem? (i := 739) (by decide +kernel))
theorem wm_740 : Jvm.Cond.methodLink "MemoRuntimeLaw" (66 : Nat) ({ cls := "MemoRuntimeModel", name := "wipe", desc := "()I" } : Jvm.MethodName) ∈ lw_tbl := List.mem_append_right _ (List.mem_of_getElem? (i := 740) (by decide +kernel))
theorem wm_741 : Jvm.Cond.instanceMethod ({ cls := "MemoRuntimeModel", name := "wipe", desc := "()I" } : Jvm.MethodName) ∈ lw_tbl := List.mem_append_right _ (List.mem_of_getElem? (i := 741) (by decide +kernel))
theorem wm_742 : Jvm.Cond.selects "MemoRuntimeModel" ({ cls := "MemoRuntimeModel", name := "wipe", desc := "()I" } : Jvm.MethodName) ({ cls := "MemoRuntimeModel", name := "wipe", desc := "()I" } : Jvm.MethodName) ∈ lw_tbl := List.mem_append_right _ (List.mem_of_getElem? (i := 742) (by decide +kernel))
theorem wm_743 : Jvm.Cond.code ({ cls := "MemoRuntimeModel", name := "wipe", desc := "()I" } : Jvm.MethodName) prog_10_method_4_code (2 : Nat) (Option.some Jvm.ClassFile.FieldType.int) ∈ lw_tbl := List.mem_append_right _ (List.mem_of_getElem? (i := 743) (by decide +kernel))
theorem wm_744 : Jvm.Cond.methodLink "MemoRuntimeLaw" (72 : Nat) ({ cls := "MemoRuntimeModel", name := "define", desc := "(I)I" } : Jvm.MethodName) ∈ lw_tbl := List.mem_append_right _ (List.mem_of_getElem? (i := 744) (by decide +kernel))
theorem wm_745 : Jvm.Cond.instanceMethod ({ cls := "MemoRuntimeModel", name := "define", desc := "(I)I" } : Jvm.MethodName) ∈ lw_tbl := List.mem_append_right _ (List.mem_of_getElem? (i := 745) (by decide +kernel))
theorem wm_746 : Jvm.Cond.selects "MemoRuntimeModel" ({ cls := "MemoRuntimeModel", name := "define", desc := "(I)I" } : Jvm.MethodName) ({ cls := "MemoRuntimeModel", name := "define", desc := "(I)I" } : Jvm.MethodName) ∈ lw_tbl := List.mem_append_right _ (List.mem_of_getElem? (i := 746) (by decide +kernel))
theorem wm_747 : Jvm.Cond.code ({ cls := "MemoRuntimeModel", name := "define", desc := "(I)I" } : Jvm.MethodName) prog_10_method_7_code (4 : Nat) (Option.some Jvm.ClassFile.FieldType.int) ∈ lw_tbl := List.mem_append_right _ (List.mem_of_getElem? (i := 747) (by decide +kernel))
theorem wm_748 : Jvm.Cond.methodLink "MemoRuntimeModel" (92 : Nat) ({ cls := "MemoRuntimeModel", name := "wants", desc := "(I)I" } : Jvm.MethodName) ∈ lw_tbl := List.mem_append_right _ (List.mem_of_getElem? (i := 748) (by decide +kernel))
theorem wm_749 : Jvm.Cond.static ({ cls := "MemoRuntimeModel", name := "wants", desc := "(I)I" } : Jvm.MethodName) ∈ lw_tbl := List.mem_append_right _ (List.mem_of_getElem? (i := 749) (by decide +kernel))
theorem wm_750 : Jvm.Cond.code ({ cls := "MemoRuntimeModel", name := "wants", desc := "(I)I" } : Jvm.MethodName) prog_10_method_5_code (1 : Nat) (Option.some Jvm.ClassFile.FieldType.int) ∈ lw_tbl := List.mem_append_right _ (List.mem_of_getElem? (i := 750) (by decide +kernel))
theorem wm_751 : Jvm.Cond.methodLink "MemoRuntimeModel" (96 : Nat) ({ cls := "MemoRuntimeModel", name := "forgetAll", desc := "()V" } : Jvm.MethodName) ∈ lw_tbl := List.mem_append_right _ (List.mem_of_getElem? (i := 751) (by decide +kernel))
theorem wm_753 : Jvm.Cond.instanceMethod ({ cls := "MemoRuntimeModel", name := "forgetAll", desc := "()V" } : Jvm.MethodName) ∈ lw_tbl := List.mem_append_right _ (List.mem_of_getElem? (i := 753) (by decide +kernel))
theorem wm_754 : Jvm.Cond.code ({ cls := "MemoRuntimeModel", name := "forgetAll", desc := "()V" } : Jvm.MethodName) prog_10_method_6_code (2 : Nat) (Option.none : Option Jvm.ClassFile.FieldType) ∈ lw_tbl := List.mem_append_right _ (List.mem_of_getElem? (i := 754) (by decide +kernel))
theorem wm_755 : Jvm.Cond.methodLink "MemoRuntimeLaw" (79 : Nat) ({ cls := "MemoRuntimeModel", name := "input", desc := "(III)Z" } : Jvm.MethodName) ∈ lw_tbl := List.mem_append_right _ (List.mem_of_getElem? (i := 755) (by decide +kernel))
theorem wm_756 : Jvm.Cond.instanceMethod ({ cls := "MemoRuntimeModel", name := "input", desc := "(III)Z" } : Jvm.MethodName) ∈ lw_tbl := List.mem_append_right _ (List.mem_of_getElem? (i := 756) (by decide +kernel))
theorem wm_757 : Jvm.Cond.selects "MemoRuntimeModel" ({ cls := "MemoRuntimeModel", name := "input", desc := "(III)Z" } : Jvm.MethodName) ({ cls := "MemoRuntimeModel", name := "input", desc := "(III)Z" } : Jvm.MethodName) ∈ lw_tbl := List.mem_append_right _ (List.mem_of_getElem? (i := 757) (by decide +kernel))
theorem wm_758 : Jvm.Cond.code ({ cls := "MemoRuntimeModel", name := "input", desc := "(III)Z" } : Jvm.MethodName) prog_10_method_10_code (4 : Nat) (Option.some Jvm.ClassFile.FieldType.boolean) ∈ lw_tbl := List.mem_append_right _ (List.mem_of_getElem? (i := 758) (by decide +kernel))
theorem wm_759 : Jvm.Cond.methodLink "MemoRuntimeModel" (102 : Nat) ({ cls := "MemoRuntimeModel", name := "noKey", desc := "(I)Z" } : Jvm.MethodName) ∈ lw_tbl := List.mem_append_right _ (List.mem_of_getElem? (i := 759) (by decide +kernel))
theorem wm_760 : Jvm.Cond.static ({ cls := "MemoRuntimeModel", name := "noKey", desc := "(I)Z" } : Jvm.MethodName) ∈ lw_tbl := List.mem_append_right _ (List.mem_of_getElem? (i := 760) (by decide +kernel))
theorem wm_761 : Jvm.Cond.code ({ cls := "MemoRuntimeModel", name := "noKey", desc := "(I)Z" } : Jvm.MethodName) prog_10_method_9_code (1 : Nat) (Option.some Jvm.ClassFile.FieldType.boolean) ∈ lw_tbl := List.mem_append_right _ (List.mem_of_getElem? (i := 761) (by decide +kernel))
theorem wm_762 : Jvm.Cond.methodLink "MemoRuntimeModel" (106 : Nat) ({ cls := "MemoRuntimeModel", name := "edit", desc := "(I)V" } : Jvm.MethodName) ∈ lw_tbl := List.mem_append_right _ (List.mem_of_getElem? (i := 762) (by decide +kernel))
theorem wm_764 : Jvm.Cond.instanceMethod ({ cls := "MemoRuntimeModel", name := "edit", desc := "(I)V" } : Jvm.MethodName) ∈ lw_tbl := List.mem_append_right _ (List.mem_of_getElem? (i := 764) (by decide +kernel))
theorem wm_765 : Jvm.Cond.code ({ cls := "MemoRuntimeModel", name := "edit", desc := "(I)V" } : Jvm.MethodName) prog_10_method_8_code (3 : Nat) (Option.none : Option Jvm.ClassFile.FieldType) ∈ lw_tbl := List.mem_append_right _ (List.mem_of_getElem? (i := 765) (by decide +kernel))
theorem wm_766 : Jvm.Cond.methodLink "MemoRuntimeLaw" (83 : Nat) ({ cls := "MemoRuntimeModel", name := "circle", desc := "(II)Z" } : Jvm.MethodName) ∈ lw_tbl := List.mem_append_right _ (List.mem_of_getElem? (i := 766) (by decide +kernel))
theorem wm_767 : Jvm.Cond.instanceMethod ({ cls := "MemoRuntimeModel", name := "circle", desc := "(II)Z" } : Jvm.MethodName) ∈ lw_tbl := List.mem_append_right _ (List.mem_of_getElem? (i := 767) (by decide +kernel))
theorem wm_768 : Jvm.Cond.selects "MemoRuntimeModel" ({ cls := "MemoRuntimeModel", name := "circle", desc := "(II)Z" } : Jvm.MethodName) ({ cls := "MemoRuntimeModel", name := "circle", desc := "(II)Z" } : Jvm.MethodName) ∈ lw_tbl := List.mem_append_right _ (List.mem_of_getElem? (i := 768) (by decide +kernel))
theorem wm_769 : Jvm.Cond.code ({ cls := "MemoRuntimeModel", name := "circle", desc := "(II)Z" } : Jvm.MethodName) prog_10_method_11_code (3 : Nat) (Option.some Jvm.ClassFile.FieldType.boolean) ∈ lw_tbl := List.mem_append_right _ (List.mem_of_getElem? (i := 769) (by decide +kernel))
theorem wm_770 : Jvm.Cond.methodLink "MemoRuntimeLaw" (87 : Nat) ({ cls := "MemoRuntimeModel", name := "level", desc := "(II)V" } : Jvm.MethodName) ∈ lw_tbl := List.mem_append_right _ (List.mem_of_getElem? (i := 770) (by decide +kernel))
theorem wm_771 : Jvm.Cond.instanceMethod ({ cls := "MemoRuntimeModel", name := "level", desc := "(II)V" } : Jvm.MethodName) ∈ lw_tbl := List.mem_append_right _ (List.mem_of_getElem? (i := 771) (by decide +kernel))
theorem wm_772 : Jvm.Cond.selects "MemoRuntimeModel" ({ cls := "MemoRuntimeModel", name := "level", desc := "(II)V" } : Jvm.MethodName) ({ cls := "MemoRuntimeModel", name := "level", desc := "(II)V" } : Jvm.MethodName) ∈ lw_tbl := List.mem_append_right _ (List.mem_of_getElem? (i := 772) (by decide +kernel))
theorem wm_773 : Jvm.Cond.code ({ cls := "MemoRuntimeModel", name := "level", desc := "(II)V" } : Jvm.MethodName) prog_10_method_12_code (3 : Nat) (Option.none : Option Jvm.ClassFile.FieldType) ∈ lw_tbl := List.mem_append_right _ (List.mem_of_getElem? (i := 773) (by decide +kernel))
theorem wm_774 : Jvm.Cond.methodLink "MemoRuntimeLaw" (90 : Nat) ({ cls := "MemoRuntimeModel", name := "demand", desc := "(II)I" } : Jvm.MethodName) ∈ lw_tbl := List.mem_append_right _ (List.mem_of_getElem? (i := 774) (by decide +kernel))
theorem wm_775 : Jvm.Cond.instanceMethod ({ cls := "MemoRuntimeModel", name := "demand", desc := "(II)I" } : Jvm.MethodName) ∈ lw_tbl := List.mem_append_right _ (List.mem_of_getElem? (i := 775) (by decide +kernel))
theorem wm_776 : Jvm.Cond.selects "MemoRuntimeModel" ({ cls := "MemoRuntimeModel", name := "demand", desc := "(II)I" } : Jvm.MethodName) ({ cls := "MemoRuntimeModel", name := "demand", desc := "(II)I" } : Jvm.MethodName) ∈ lw_tbl := List.mem_append_right _ (List.mem_of_getElem? (i := 776) (by decide +kernel))
theorem wm_777 : Jvm.Cond.code ({ cls := "MemoRuntimeModel", name := "demand", desc := "(II)I" } : Jvm.MethodName) prog_10_method_29_code (5 : Nat) (Option.some Jvm.ClassFile.FieldType.int) ∈ lw_tbl := List.mem_append_right _ (List.mem_of_getElem? (i := 777) (by decide +kernel))
theorem wm_778 : Jvm.Cond.methodLink "MemoRuntimeModel" (180 : Nat) ({ cls := "MemoRuntimeModel", name := "noCell", desc := "(II)Z" } : Jvm.MethodName) ∈ lw_tbl := List.mem_append_right _ (List.mem_of_getElem? (i := 778) (by decide +kernel))
theorem wm_779 : Jvm.Cond.static ({ cls := "MemoRuntimeModel", name := "noCell", desc := "(II)Z" } : Jvm.MethodName) ∈ lw_tbl := List.mem_append_right _ (List.mem_of_getElem? (i := 779) (by decide +kernel))
theorem wm_780 : Jvm.Cond.code ({ cls := "MemoRuntimeModel", name := "noCell", desc := "(II)Z" } : Jvm.MethodName) prog_10_method_25_code (2 : Nat) (Option.some Jvm.ClassFile.FieldType.boolean) ∈ lw_tbl := List.mem_append_right _ (List.mem_of_getElem? (i := 780) (by decide +kernel))
theorem wm_781 : Jvm.Cond.methodLink "MemoRuntimeModel" (138 : Nat) ({ cls := "MemoRuntimeModel", name := "isGood", desc := "(I)Z" } : Jvm.MethodName) ∈ lw_tbl := List.mem_append_right _ (List.mem_of_getElem? (i := 781) (by decide +kernel))
theorem wm_783 : Jvm.Cond.instanceMethod ({ cls := "MemoRuntimeModel", name := "isGood", desc := "(I)Z" } : Jvm.MethodName) ∈ lw_tbl := List.mem_append_right _ (List.mem_of_getElem? (i := 783) (by decide +kernel))
theorem wm_784 : Jvm.Cond.code ({ cls := "MemoRuntimeModel", name := "isGood", desc := "(I)Z" } : Jvm.MethodName) prog_10_method_17_code (2 : Nat) (Option.some Jvm.ClassFile.FieldType.boolean) ∈ lw_tbl := List.mem_append_right _ (List.mem_of_getElem? (i := 784) (by decide +kernel))
theorem wm_785 : Jvm.Cond.methodLink "MemoRuntimeModel" (122 : Nat) ({ cls := "MemoRuntimeModel", name := "isUnder", desc := "(I)Z" } : Jvm.MethodName) ∈ lw_tbl := List.mem_append_right _ (List.mem_of_getElem? (i := 785) (by decide +kernel))
theorem wm_787 : Jvm.Cond.instanceMethod ({ cls := "MemoRuntimeModel", name := "isUnder", desc := "(I)Z" } : Jvm.MethodName) ∈ lw_tbl := List.mem_append_right _ (List.mem_of_getElem? (i := 787) (by decide +kernel))
theorem wm_788 : Jvm.Cond.code ({ cls := "MemoRuntimeModel", name := "isUnder", desc := "(I)Z" } : Jvm.MethodName) prog_10_method_14_code (4 : Nat) (Option.some Jvm.ClassFile.FieldType.boolean) ∈ lw_tbl := List.mem_append_right _ (List.mem_of_getElem? (i := 788) (by decide +kernel))
theorem wm_789 : Jvm.Cond.methodLink "MemoRuntimeModel" (125 : Nat) ({ cls := "MemoRuntimeModel", name := "close", desc := "(I)V" } : Jvm.MethodName) ∈ lw_tbl := List.mem_append_right _ (List.mem_of_getElem? (i := 789) (by decide +kernel))
theorem wm_791 : Jvm.Cond.instanceMethod ({ cls := "MemoRuntimeModel", name := "close", desc := "(I)V" } : Jvm.MethodName) ∈ lw_tbl := List.mem_append_right _ (List.mem_of_getElem? (i := 791) (by decide +kernel))
theorem wm_792 : Jvm.Cond.code ({ cls := "MemoRuntimeModel", name := "close", desc := "(I)V" } : Jvm.MethodName) prog_10_method_16_code (5 : Nat) (Option.none : Option Jvm.ClassFile.FieldType) ∈ lw_tbl := List.mem_append_right _ (List.mem_of_getElem? (i := 792) (by decide +kernel))
theorem wm_793 : Jvm.Cond.methodLink "MemoRuntimeModel" (119 : Nat) ({ cls := "MemoRuntimeModel", name := "end", desc := "(I)V" } : Jvm.MethodName) ∈ lw_tbl := List.mem_append_right _ (List.mem_of_getElem? (i := 793) (by decide +kernel))
theorem wm_795 : Jvm.Cond.instanceMethod ({ cls := "MemoRuntimeModel", name := "end", desc := "(I)V" } : Jvm.MethodName) ∈ lw_tbl := List.mem_append_right _ (List.mem_of_getElem? (i := 795) (by decide +kernel))
theorem wm_796 : Jvm.Cond.code ({ cls := "MemoRuntimeModel", name := "end", desc := "(I)V" } : Jvm.MethodName) prog_10_method_13_code (2 : Nat) (Option.none : Option Jvm.ClassFile.FieldType) ∈ lw_tbl := List.mem_append_right _ (List.mem_of_getElem? (i := 796) (by decide +kernel))
theorem wm_797 : Jvm.Cond.methodLink "MemoRuntimeModel" (128 : Nat) ({ cls := "MemoRuntimeModel", name := "isUntouched", desc := "(I)Z" } : Jvm.MethodName) ∈ lw_tbl := List.mem_append_right _ (List.mem_of_getElem? (i := 797) (by decide +kernel))
theorem wm_799 : Jvm.Cond.instanceMethod ({ cls := "MemoRuntimeModel", name := "isUntouched", desc := "(I)Z" } : Jvm.MethodName) ∈ lw_tbl := List.mem_append_right _ (List.mem_of_getElem? (i := 799) (by decide +kernel))
theorem wm_800 : Jvm.Cond.code ({ cls := "MemoRuntimeModel", name := "isUntouched", desc := "(I)Z" } : Jvm.MethodName) prog_10_method_15_code (4 : Nat) (Option.some Jvm.ClassFile.FieldType.boolean) ∈ lw_tbl := List.mem_append_right _ (List.mem_of_getElem? (i := 800) (by decide +kernel))
theorem wm_801 : Jvm.Cond.methodLink "MemoRuntimeModel" (183 : Nat) ({ cls := "MemoRuntimeModel", name := "run", desc := "()V" } : Jvm.MethodName) ∈ lw_tbl := List.mem_append_right _ (List.mem_of_getElem? (i := 801) (by decide +kernel))
theorem wm_803 : Jvm.Cond.instanceMethod ({ cls := "MemoRuntimeModel", name := "run", desc := "()V" } : Jvm.MethodName) ∈ lw_tbl := List.mem_append_right _ (List.mem_of_getElem? (i := 803) (by decide +kernel))
theorem wm_804 : Jvm.Cond.code ({ cls := "MemoRuntimeModel", name := "run", desc := "()V" } : Jvm.MethodName) prog_10_method_24_code (4 : Nat) (Option.none : Option Jvm.ClassFile.FieldType) ∈ lw_tbl := List.mem_append_right _ (List.mem_of_getElem? (i := 804) (by decide +kernel))
theorem wm_805 : Jvm.Cond.methodLink "MemoRuntimeModel" (166 : Nat) ({ cls := "MemoRuntimeModel", name := "worksOut", desc := "(II)Z" } : Jvm.MethodName) ∈ lw_tbl := List.mem_append_right _ (List.mem_of_getElem? (i := 805) (by decide +kernel))
theorem wm_807 : Jvm.Cond.instanceMethod ({ cls := "MemoRuntimeModel", name := "worksOut", desc := "(II)Z" } : Jvm.MethodName) ∈ lw_tbl := List.mem_append_right _ (List.mem_of_getElem? (i := 807) (by decide +kernel))
theorem wm_808 : Jvm.Cond.code ({ cls := "MemoRuntimeModel", name := "worksOut", desc := "(II)Z" } : Jvm.MethodName) prog_10_method_23_code (7 : Nat) (Option.some Jvm.ClassFile.FieldType.boolean) ∈ lw_tbl := List.mem_append_right _ (List.mem_of_getElem? (i := 808) (by decide +kernel))
theorem wm_809 : Jvm.Cond.methodLink "MemoRuntimeModel" (163 : Nat) ({ cls := "MemoRuntimeModel", name := "hand", desc := "(II)I" } : Jvm.MethodName) ∈ lw_tbl := List.mem_append_right _ (List.mem_of_getElem? (i := 809) (by decide +kernel))
theorem wm_811 : Jvm.Cond.instanceMethod ({ cls := "MemoRuntimeModel", name := "hand", desc := "(II)I" } : Jvm.MethodName) ∈ lw_tbl := List.mem_append_right _ (List.mem_of_getElem? (i := 811) (by decide +kernel))
theorem wm_812 : Jvm.Cond.code ({ cls := "MemoRuntimeModel", name := "hand", desc := "(II)I" } : Jvm.MethodName) prog_10_method_22_code (7 : Nat) (Option.some Jvm.ClassFile.FieldType.int) ∈ lw_tbl := List.mem_append_right _ (List.mem_of_getElem? (i := 812) (by decide +kernel))
theorem wm_813 : Jvm.Cond.methodLink "MemoRuntimeModel" (156 : Nat) ({ cls := "MemoRuntimeModel", name := "note", desc := "(I)V" } : Jvm.MethodName) ∈ lw_tbl := List.mem_append_right _ (List.mem_of_getElem? (i := 813) (by decide +kernel))
theorem wm_815 : Jvm.Cond.instanceMethod ({ cls := "MemoRuntimeModel", name := "note", desc := "(I)V" } : Jvm.MethodName) ∈ lw_tbl := List.mem_append_right _ (List.mem_of_getElem? (i := 815) (by decide +kernel))
theorem wm_816 : Jvm.Cond.code ({ cls := "MemoRuntimeModel", name := "note", desc := "(I)V" } : Jvm.MethodName) prog_10_method_20_code (3 : Nat) (Option.none : Option Jvm.ClassFile.FieldType) ∈ lw_tbl := List.mem_append_right _ (List.mem_of_getElem? (i := 816) (by decide +kernel))
theorem wm_817 : Jvm.Cond.methodLink "MemoRuntimeModel" (159 : Nat) ({ cls := "MemoRuntimeModel", name := "behind", desc := "(II)I" } : Jvm.MethodName) ∈ lw_tbl := List.mem_append_right _ (List.mem_of_getElem? (i := 817) (by decide +kernel))
theorem wm_819 : Jvm.Cond.instanceMethod ({ cls := "MemoRuntimeModel", name := "behind", desc := "(II)I" } : Jvm.MethodName) ∈ lw_tbl := List.mem_append_right _ (List.mem_of_getElem? (i := 819) (by decide +kernel))
theorem wm_820 : Jvm.Cond.code ({ cls := "MemoRuntimeModel", name := "behind", desc := "(II)I" } : Jvm.MethodName) prog_10_method_21_code (5 : Nat) (Option.some Jvm.ClassFile.FieldType.int) ∈ lw_tbl := List.mem_append_right _ (List.mem_of_getElem? (i := 820) (by decide +kernel))
theorem wm_821 : Jvm.Cond.methodLink "MemoRuntimeModel" (141 : Nat) ({ cls := "MemoRuntimeModel", name := "classOf", desc := "(I)I" } : Jvm.MethodName) ∈ lw_tbl := List.mem_append_right _ (List.mem_of_getElem? (i := 821) (by decide +kernel))
theorem wm_823 : Jvm.Cond.instanceMethod ({ cls := "MemoRuntimeModel", name := "classOf", desc := "(I)I" } : Jvm.MethodName) ∈ lw_tbl := List.mem_append_right _ (List.mem_of_getElem? (i := 823) (by decide +kernel))
theorem wm_824 : Jvm.Cond.code ({ cls := "MemoRuntimeModel", name := "classOf", desc := "(I)I" } : Jvm.MethodName) prog_10_method_18_code (2 : Nat) (Option.some Jvm.ClassFile.FieldType.int) ∈ lw_tbl := List.mem_append_right _ (List.mem_of_getElem? (i := 824) (by decide +kernel))
theorem wm_825 : Jvm.Cond.methodLink "MemoRuntimeModel" (186 : Nat) ({ cls := "MemoRuntimeModel", name := "verify", desc := "()V" } : Jvm.MethodName) ∈ lw_tbl := List.mem_append_right _ (List.mem_of_getElem? (i := 825) (by decide +kernel))
theorem wm_827 : Jvm.Cond.instanceMethod ({ cls := "MemoRuntimeModel", name := "verify", desc := "()V" } : Jvm.MethodName) ∈ lw_tbl := List.mem_append_right _ (List.mem_of_getElem? (i := 827) (by decide +kernel))
theorem wm_828 : Jvm.Cond.code ({ cls := "MemoRuntimeModel", name := "verify", desc := "()V" } : Jvm.MethodName) prog_10_method_19_code (6 : Nat) (Option.none : Option Jvm.ClassFile.FieldType) ∈ lw_tbl := List.mem_append_right _ (List.mem_of_getElem? (i := 828) (by decide +kernel))
theorem wm_829 : Jvm.Cond.methodLink "MemoRuntimeModel" (189 : Nat) ({ cls := "MemoRuntimeModel", name := "shrink", desc := "()I" } : Jvm.MethodName) ∈ lw_tbl := List.mem_append_right _ (List.mem_of_getElem? (i := 829) (by decide +kernel))
theorem wm_831 : Jvm.Cond.instanceMethod ({ cls := "MemoRuntimeModel", name := "shrink", desc := "()I" } : Jvm.MethodName) ∈ lw_tbl := List.mem_append_right _ (List.mem_of_getElem? (i := 831) (by decide +kernel))
theorem wm_832 : Jvm.Cond.code ({ cls := "MemoRuntimeModel", name := "shrink", desc := "()I" } : Jvm.MethodName) prog_10_method_28_code (2 : Nat) (Option.some Jvm.ClassFile.FieldType.int) ∈ lw_tbl := List.mem_append_right _ (List.mem_of_getElem? (i := 832) (by decide +kernel))
theorem wm_833 : Jvm.Cond.methodLink "MemoRuntimeModel" (173 : Nat) ({ cls := "MemoRuntimeModel", name := "keptCells", desc := "()I" } : Jvm.MethodName) ∈ lw_tbl := List.mem_append_right _ (List.mem_of_getElem? (i := 833) (by decide +kernel))
theorem wm_835 : Jvm.Cond.instanceMethod ({ cls := "MemoRuntimeModel", name := "keptCells", desc := "()I" } : Jvm.MethodName) ∈ lw_tbl := List.mem_append_right _ (List.mem_of_getElem? (i := 835) (by decide +kernel))
theorem wm_836 : Jvm.Cond.code ({ cls := "MemoRuntimeModel", name := "keptCells", desc := "()I" } : Jvm.MethodName) prog_10_method_26_code (3 : Nat) (Option.some Jvm.ClassFile.FieldType.int) ∈ lw_tbl := List.mem_append_right _ (List.mem_of_getElem? (i := 836) (by decide +kernel))
theorem wm_837 : Jvm.Cond.methodLink "MemoRuntimeModel" (177 : Nat) ({ cls := "MemoRuntimeModel", name := "recentCell", desc := "(I)I" } : Jvm.MethodName) ∈ lw_tbl := List.mem_append_right _ (List.mem_of_getElem? (i := 837) (by decide +kernel))
theorem wm_839 : Jvm.Cond.instanceMethod ({ cls := "MemoRuntimeModel", name := "recentCell", desc := "(I)I" } : Jvm.MethodName) ∈ lw_tbl := List.mem_append_right _ (List.mem_of_getElem? (i := 839) (by decide +kernel))
theorem wm_840 : Jvm.Cond.code ({ cls := "MemoRuntimeModel", name := "recentCell", desc := "(I)I" } : Jvm.MethodName) prog_10_method_27_code (5 : Nat) (Option.some Jvm.ClassFile.FieldType.int) ∈ lw_tbl := List.mem_append_right _ (List.mem_of_getElem? (i := 840) (by decide +kernel))
theorem wm_841 : Jvm.Cond.methodLink "MemoRuntimeLaw" (94 : Nat) ({ cls := "MemoRuntimeModel", name := "count", desc := "(I)I" } : Jvm.MethodName) ∈ lw_tbl := List.mem_append_right _ (List.mem_of_getElem? (i := 841) (by decide +kernel))
theorem wm_842 : Jvm.Cond.instanceMethod ({ cls := "MemoRuntimeModel", name := "count", desc := "(I)I" } : Jvm.MethodName) ∈ lw_tbl := List.mem_append_right _ (List.mem_of_getElem? (i := 842) (by decide +kernel))
theorem wm_843 : Jvm.Cond.selects "MemoRuntimeModel" ({ cls := "MemoRuntimeModel", name := "count", desc := "(I)I" } : Jvm.MethodName) ({ cls := "MemoRuntimeModel", name := "count", desc := "(I)I" } : Jvm.MethodName) ∈ lw_tbl := List.mem_append_right _ (List.mem_of_getElem? (i := 843) (by decide +kernel))
theorem wm_844 : Jvm.Cond.code ({ cls := "MemoRuntimeModel", name := "count", desc := "(I)I" } : Jvm.MethodName) prog_10_method_30_code (2 : Nat) (Option.some Jvm.ClassFile.FieldType.int) ∈ lw_tbl := List.mem_append_right _ (List.mem_of_getElem? (i := 844) (by decide +kernel))
theorem wm_845 : Jvm.Cond.methodLink "MemoRuntimeLaw" (97 : Nat) ({ cls := "MemoRuntimeModel", name := "kept", desc := "(II)Z" } : Jvm.MethodName) ∈ lw_tbl := List.mem_append_right _ (List.mem_of_getElem? (i := 845) (by decide +kernel))
theorem wm_846 : Jvm.Cond.instanceMethod ({ cls := "MemoRuntimeModel", name := "kept", desc := "(II)Z" } : Jvm.MethodName) ∈ lw_tbl := List.mem_append_right _ (List.mem_of_getElem? (i := 846) (by decide +kernel))
theorem wm_847 : Jvm.Cond.selects "MemoRuntimeModel" ({ cls := "MemoRuntimeModel", name := "kept", desc := "(II)Z" } : Jvm.MethodName) ({ cls := "MemoRuntimeModel", name := "kept", desc := "(II)Z" } : Jvm.MethodName) ∈ lw_tbl := List.mem_append_right _ (List.mem_of_getElem? (i := 847) (by decide +kernel))
theorem wm_848 : Jvm.Cond.code ({ cls := "MemoRuntimeModel", name := "kept", desc := "(II)Z" } : Jvm.MethodName) prog_10_method_31_code (3 : Nat) (Option.some Jvm.ClassFile.FieldType.boolean) ∈ lw_tbl := List.mem_append_right _ (List.mem_of_getElem? (i := 848) (by decide +kernel))
theorem wm_849 : Jvm.Cond.methodLink "MemoRuntimeLaw" (100 : Nat) ({ cls := "MemoRuntimeModel", name := "cell", desc := "(III)I" } : Jvm.MethodName) ∈ lw_tbl := List.mem_append_right _ (List.mem_of_getElem? (i := 849) (by decide +kernel))
theorem wm_850 : Jvm.Cond.instanceMethod ({ cls := "MemoRuntimeModel", name := "cell", desc := "(III)I" } : Jvm.MethodName) ∈ lw_tbl := List.mem_append_right _ (List.mem_of_getElem? (i := 850) (by decide +kernel))
theorem wm_851 : Jvm.Cond.selects "MemoRuntimeModel" ({ cls := "MemoRuntimeModel", name := "cell", desc := "(III)I" } : Jvm.MethodName) ({ cls := "MemoRuntimeModel", name := "cell", desc := "(III)I" } : Jvm.MethodName) ∈ lw_tbl := List.mem_append_right _ (List.mem_of_getElem? (i := 851) (by decide +kernel))
theorem wm_852 : Jvm.Cond.code ({ cls := "MemoRuntimeModel", name := "cell", desc := "(III)I" } : Jvm.MethodName) prog_10_method_32_code (5 : Nat) (Option.some Jvm.ClassFile.FieldType.int) ∈ lw_tbl := List.mem_append_right _ (List.mem_of_getElem? (i := 852) (by decide +kernel))
theorem wm_853 : Jvm.Cond.methodLink "MemoRuntimeLaw" (103 : Nat) ({ cls := "MemoRuntimeModel", name := "read", desc := "(III)I" } : Jvm.MethodName) ∈ lw_tbl := List.mem_append_right _ (List.mem_of_getElem? (i := 853) (by decide +kernel))
theorem wm_854 : Jvm.Cond.instanceMethod ({ cls := "MemoRuntimeModel", name := "read", desc := "(III)I" } : Jvm.MethodName) ∈ lw_tbl := List.mem_append_right _ (List.mem_of_getElem? (i := 854) (by decide +kernel))
theorem wm_855 : Jvm.Cond.selects "MemoRuntimeModel" ({ cls := "MemoRuntimeModel", name := "read", desc := "(III)I" } : Jvm.MethodName) ({ cls := "MemoRuntimeModel", name := "read", desc := "(III)I" } : Jvm.MethodName) ∈ lw_tbl := List.mem_append_right _ (List.mem_of_getElem? (i := 855) (by decide +kernel))
theorem wm_856 : Jvm.Cond.code ({ cls := "MemoRuntimeModel", name := "read", desc := "(III)I" } : Jvm.MethodName) prog_10_method_33_code (5 : Nat) (Option.some Jvm.ClassFile.FieldType.int) ∈ lw_tbl := List.mem_append_right _ (List.mem_of_getElem? (i := 856) (by decide +kernel))
theorem wm_857 : Jvm.Cond.methodLink "MemoRuntimeLaw" (107 : Nat) ({ cls := "MemoRuntimeModel", name := "recent", desc := "(I)I" } : Jvm.MethodName) ∈ lw_tbl := List.mem_append_right _ (List.mem_of_getElem? (i := 857) (by decide +kernel))
theorem wm_858 : Jvm.Cond.instanceMethod ({ cls := "MemoRuntimeModel", name := "recent", desc := "(I)I" } : Jvm.MethodName) ∈ lw_tbl := List.mem_append_right _ (List.mem_of_getElem? (i := 858) (by decide +kernel))
theorem wm_859 : Jvm.Cond.selects "MemoRuntimeModel" ({ cls := "MemoRuntimeModel", name := "recent", desc := "(I)I" } : Jvm.MethodName) ({ cls := "MemoRuntimeModel", name := "recent", desc := "(I)I" } : Jvm.MethodName) ∈ lw_tbl := List.mem_append_right _ (List.mem_of_getElem? (i := 859) (by decide +kernel))
theorem wm_860 : Jvm.Cond.code ({ cls := "MemoRuntimeModel", name := "recent", desc := "(I)I" } : Jvm.MethodName) prog_10_method_34_code (2 : Nat) (Option.some Jvm.ClassFile.FieldType.int) ∈ lw_tbl := List.mem_append_right _ (List.mem_of_getElem? (i := 860) (by decide +kernel))
theorem wm_861 : Jvm.Cond.methodLink "MemoRuntimeLaw" (110 : Nat) ({ cls := "MemoRuntimeModel", name := "bound", desc := "(I)I" } : Jvm.MethodName) ∈ lw_tbl := List.mem_append_right _ (List.mem_of_getElem? (i := 861) (by decide +kernel))
theorem wm_862 : Jvm.Cond.instanceMethod ({ cls := "MemoRuntimeModel", name := "bound", desc := "(I)I" } : Jvm.MethodName) ∈ lw_tbl := List.mem_append_right _ (List.mem_of_getElem? (i := 862) (by decide +kernel))
theorem wm_863 : Jvm.Cond.selects "MemoRuntimeModel" ({ cls := "MemoRuntimeModel", name := "bound", desc := "(I)I" } : Jvm.MethodName) ({ cls := "MemoRuntimeModel", name := "bound", desc := "(I)I" } : Jvm.MethodName) ∈ lw_tbl := List.mem_append_right _ (List.mem_of_getElem? (i := 863) (by decide +kernel))
theorem wm_864 : Jvm.Cond.code ({ cls := "MemoRuntimeModel", name := "bound", desc := "(I)I" } : Jvm.MethodName) prog_10_method_35_code (2 : Nat) (Option.some Jvm.ClassFile.FieldType.int) ∈ lw_tbl := List.mem_append_right _ (List.mem_of_getElem? (i := 864) (by decide +kernel))
theorem wm_865 : Jvm.Cond.methodLink "MemoRuntimeLaw" (113 : Nat) ({ cls := "MemoRuntimeModel", name := "drop", desc := "(II)Z" } : Jvm.MethodName) ∈ lw_tbl := List.mem_append_right _ (List.mem_of_getElem? (i := 865) (by decide +kernel))
theorem wm_866 : Jvm.Cond.instanceMethod ({ cls := "MemoRuntimeModel", name := "drop", desc := "(II)Z" } : Jvm.MethodName) ∈ lw_tbl := List.mem_append_right _ (List.mem_of_getElem? (i := 866) (by decide +kernel))
theorem wm_867 : Jvm.Cond.selects "MemoRuntimeModel" ({ cls := "MemoRuntimeModel", name := "drop", desc := "(II)Z" } : Jvm.MethodName) ({ cls := "MemoRuntimeModel", name := "drop", desc := "(II)Z" } : Jvm.MethodName) ∈ lw_tbl := List.mem_append_right _ (List.mem_of_getElem? (i := 867) (by decide +kernel))
theorem wm_868 : Jvm.Cond.code ({ cls := "MemoRuntimeModel", name := "drop", desc := "(II)Z" } : Jvm.MethodName) prog_10_method_36_code (4 : Nat) (Option.some Jvm.ClassFile.FieldType.boolean) ∈ lw_tbl := List.mem_append_right _ (List.mem_of_getElem? (i := 868) (by decide +kernel))
theorem wm_869 : Jvm.Cond.constantLong "MemoRuntimeLaw" (55 : Nat) (4294967295 : Int64) ∈ lw_tbl := List.mem_append_right _ (List.mem_of_getElem? (i := 869) (by decide +kernel))
theorem wm_870 : Jvm.Cond.arrayClass Jvm.ClassFile.FieldType.long ∈ lw_tbl := List.mem_append_right _ (List.mem_of_getElem? (i := 870) (by decide +kernel))
end
section
/-! What each entry of a pool means. Written by program. -/
def pf_L : List (Nat × Nat × Nat × Nat) := [(0, 9, 0, 0), (0, 15, 0, 1), (0, 19, 0, 2), (0, 22, 0, 3), (0, 25, 0, 4), (0, 28, 0, 5), (0, 31, 0, 6), (1, 9, 1, 0), (1, 15, 1, 1), (2, 9, 2, 0), (2, 15, 2, 1), (2, 18, 2, 2), (3, 9, 3, 0), (3, 15, 3, 1), (3, 19, 3, 2), (3, 23, 3, 3), (4, 9, 4, 0), (4, 15, 4, 1), (5, 9, 5, 0), (5, 15, 5, 1), (5, 18, 5, 2), (5, 22, 5, 3), (5, 28, 5, 4), (5, 32, 5, 5), (5, 35, 5, 6), (5, 38, 5, 7), (5, 42, 5, 8), (5, 46, 5, 9), (5, 49, 5, 10), (5, 52, 4, 1), (5, 55, 4, 0), (6, 10, 6, 0), (6, 16, 6, 1), (6, 20, 6, 2), (6, 27, 6, 3), (6, 34, 6, 4), (6, 40, 6, 5), (6, 47, 6, 6), (6, 51, 6, 7), (6, 55, 6, 8), (6, 60, 6, 9), (6, 64, 6, 10), (6, 67, 6, 11), (6, 70, 6, 12), (6, 73, 6, 13), (6, 76, 6, 14), (6, 85, 4, 1), (6, 117, 2, 0), (6, 120, 2, 2), (6, 126, 2, 1), (6, 129, 1, 0), (6, 165, 0, 0), (6, 168, 3, 0), (6, 179, 0, 3), (6, 182, 0, 4), (6, 184, 0, 5), (6, 187, 0, 6), (6, 191, 0, 2), (6, 194, 0, 1), (6, 273, 5, 0), (6, 286, 5, 1), (6, 287, 5, 3), (6, 288, 5, 2), (7, 7, 7, 1), (7, 13, 7, 3), (7, 16, 7, 4), (7, 19, 7, 6), (7, 22, 7, 7), (7, 25, 7, 8), (7, 28, 7, 9), (7, 31, 7, 10), (7, 34, 7, 11), (7, 38, 7, 12), (7, 41, 7, 13), (7, 44, 7, 14), (7, 47, 7, 15), (7, 50, 7, 16), (7, 53, 7, 17), (7, 56, 7, 18), (7, 59, 7, 19), (7, 62, 7, 21), (7, 66, 7, 27), (7, 69, 7, 28), (7, 72, 7, 31), (7, 75, 7, 32), (7, 78, 7, 33), (7, 81, 7, 35), (7, 84, 7, 0), (7, 89, 7, 2), (7, 99, 7, 5), (7, 110, 7, 20), (7, 113, 7, 26), (7, 116, 7, 25), (7, 131, 7, 24), (7, 134, 7, 29), (7, 144, 7, 23), (7, 147, 7, 34), (7, 150, 7, 30), (7, 153, 7, 36), (7, 170, 7, 22)]
theorem pf_0 {s0 : State} (hY : pk_Y s0) : pw_fl s0 "MemoRuntime$Cell" 9 0 0 := ⟨("MemoRuntime$Cell", tc_T0, 7), rfl, by decide, by decide +kernel, Or.inl (hY _ wm_113 rfl)⟩
theorem pf_1 {s0 : State} (hY : pk_Y s0) : pw_fl s0 "MemoRuntime$Cell" 15 0 1 := ⟨("MemoRuntime$Cell", tc_T0, 7), rfl, by decide, by decide +kernel, Or.inl (hY _ wm_115 rfl)⟩
theorem pf_2 {s0 : State} (hY : pk_Y s0) : pw_fl s0 "MemoRuntime$Cell" 19 0 2 := ⟨("MemoRuntime$Cell", tc_T0, 7), rfl, by decide, by decide +kernel, Or.inl (hY _ wm_117 rfl)⟩
theorem pf_3 {s0 : State} (hY : pk_Y s0) : pw_fl s0 "MemoRuntime$Cell" 22 0 3 := ⟨("MemoRuntime$Cell", tc_T0, 7), rfl, by decide, by decide +kernel, Or.inl (hY _ wm_119 rfl)⟩
theorem pf_4 {s0 : State} (hY : pk_Y s0) : pw_fl s0 "MemoRuntime$Cell" 25 0 4 := ⟨("MemoRuntime$Cell", tc_T0, 7), rfl, by decide, by decide +kernel, Or.inl (hY _ wm_121 rfl)⟩
theorem pf_5 {s0 : State} (hY : pk_Y s0) : pw_fl s0 "MemoRuntime$Cell" 28 0 5 := ⟨("MemoRuntime$Cell", tc_T0, 7), rfl, by decide, by decide +kernel, Or.inl (hY _ wm_123 rfl)⟩
theorem pf_6 {s0 : State} (hY : pk_Y s0) : pw_fl s0 "MemoRuntime$Cell" 31 0 6 := ⟨("MemoRuntime$Cell", tc_T0, 7), rfl, by decide, by decide +kernel, Or.inl (hY _ wm_125 rfl)⟩
theorem pf_7 {s0 : State} (hY : pk_Y s0) : pw_fl s0 "MemoRuntime$Edits" 9 1 0 := ⟨("MemoRuntime$Edits", tc_T1, 2), rfl, by decide, by decide +kernel, Or.inl (hY _ wm_71 rfl)⟩
theorem pf_8 {s0 : State} (hY : pk_Y s0) : pw_fl s0 "MemoRuntime$Edits" 15 1 1 := ⟨("MemoRuntime$Edits", tc_T1, 2), rfl, by decide, by decide +kernel, Or.inl (hY _ wm_73 rfl)⟩
theorem pf_9 {s0 : State} (hY : pk_Y s0) : pw_fl s0 "MemoRuntime$Inputs" 9 2 0 := ⟨("MemoRuntime$Inputs", tc_T2, 3), rfl, by decide, by decide +kernel, Or.inl (hY _ wm_51 rfl)⟩
theorem pf_10 {s0 : State} (hY : pk_Y s0) : pw_fl s0 "MemoRuntime$Inputs" 15 2 1 := ⟨("MemoRuntime$Inputs", tc_T2, 3), rfl, by decide, by decide +kernel, Or.inl (hY _ wm_53 rfl)⟩
theorem pf_11 {s0 : State} (hY : pk_Y s0) : pw_fl s0 "MemoRuntime$Inputs" 18 2 2 := ⟨("MemoRuntime$Inputs", tc_T2, 3), rfl, by decide, by decide +kernel, Or.inl (hY _ wm_55 rfl)⟩
theorem pf_12 {s0 : State} (hY : pk_Y s0) : pw_fl s0 "MemoRuntime$RecentOrder" 9 3 0 := ⟨("MemoRuntime$RecentOrder", tc_T3, 4), rfl, by decide, by decide +kernel, Or.inl (hY _ wm_87 rfl)⟩
theorem pf_13 {s0 : State} (hY : pk_Y s0) : pw_fl s0 "MemoRuntime$RecentOrder" 15 3 1 := ⟨("MemoRuntime$RecentOrder", tc_T3, 4), rfl, by decide, by decide +kernel, Or.inl (hY _ wm_89 rfl)⟩
theorem pf_14 {s0 : State} (hY : pk_Y s0) : pw_fl s0 "MemoRuntime$RecentOrder" 19 3 2 := ⟨("MemoRuntime$RecentOrder", tc_T3, 4), rfl, by decide, by decide +kernel, Or.inl (hY _ wm_90 rfl)⟩
theorem pf_15 {s0 : State} (hY : pk_Y s0) : pw_fl s0 "MemoRuntime$RecentOrder" 23 3 3 := ⟨("MemoRuntime$RecentOrder", tc_T3, 4), rfl, by decide, by decide +kernel, Or.inl (hY _ wm_91 rfl)⟩
theorem pf_16 {s0 : State} (hY : pk_Y s0) : pw_fl s0 "MemoRuntime$Text" 9 4 0 := ⟨("MemoRuntime$Text", tc_T4, 2), rfl, by decide, by decide +kernel, Or.inl (hY _ wm_33 rfl)⟩
theorem pf_17 {s0 : State} (hY : pk_Y s0) : pw_fl s0 "MemoRuntime$Text" 15 4 1 := ⟨("MemoRuntime$Text", tc_T4, 2), rfl, by decide, by decide +kernel, Or.inl (hY _ wm_35 rfl)⟩
theorem pf_18 {s0 : State} (hY : pk_Y s0) : pw_fl s0 "MemoRuntime$Working" 9 5 0 := ⟨("MemoRuntime$Working", tc_T5, 11), rfl, by decide, by decide +kernel, Or.inl (hY _ wm_149 rfl)⟩
theorem pf_19 {s0 : State} (hY : pk_Y s0) : pw_fl s0 "MemoRuntime$Working" 15 5 1 := ⟨("MemoRuntime$Working", tc_T5, 11), rfl, by decide, by decide +kernel, Or.inl (hY _ wm_151 rfl)⟩
theorem pf_20 {s0 : State} (hY : pk_Y s0) : pw_fl s0 "MemoRuntime$Working" 18 5 2 := ⟨("MemoRuntime$Working", tc_T5, 11), rfl, by decide, by decide +kernel, Or.inl (hY _ wm_153 rfl)⟩
theorem pf_21 {s0 : State} (hY : pk_Y s0) : pw_fl s0 "MemoRuntime$Working" 22 5 3 := ⟨("MemoRuntime$Working", tc_T5, 11), rfl, by decide, by decide +kernel, Or.inl (hY _ wm_155 rfl)⟩
theorem pf_22 {s0 : State} (hY : pk_Y s0) : pw_fl s0 "MemoRuntime$Working" 28 5 4 := ⟨("MemoRuntime$Working", tc_T5, 11), rfl, by decide, by decide +kernel, Or.inl (hY _ wm_157 rfl)⟩
theorem pf_23 {s0 : State} (hY : pk_Y s0) : pw_fl s0 "MemoRuntime$Working" 32 5 5 := ⟨("MemoRuntime$Working", tc_T5, 11), rfl, by decide, by decide +kernel, Or.inl (hY _ wm_158 rfl)⟩
theorem pf_24 {s0 : State} (hY : pk_Y s0) : pw_fl s0 "MemoRuntime$Working" 35 5 6 := ⟨("MemoRuntime$Working", tc_T5, 11), rfl, by decide, by decide +kernel, Or.inl (hY _ wm_159 rfl)⟩
theorem pf_25 {s0 : State} (hY : pk_Y s0) : pw_fl s0 "MemoRuntime$Working" 38 5 7 := ⟨("MemoRuntime$Working", tc_T5, 11), rfl, by decide, by decide +kernel, Or.inl (hY _ wm_160 rfl)⟩
theorem pf_26 {s0 : State} (hY : pk_Y s0) : pw_fl s0 "MemoRuntime$Working" 42 5 8 := ⟨("MemoRuntime$Working", tc_T5, 11), rfl, by decide, by decide +kernel, Or.inl (hY _ wm_161 rfl)⟩
theorem pf_27 {s0 : State} (hY : pk_Y s0) : pw_fl s0 "MemoRuntime$Working" 46 5 9 := ⟨("MemoRuntime$Working", tc_T5, 11), rfl, by decide, by decide +kernel, Or.inl (hY _ wm_162 rfl)⟩
theorem pf_28 {s0 : State} (hY : pk_Y s0) : pw_fl s0 "MemoRuntime$Working" 49 5 10 := ⟨("MemoRuntime$Working", tc_T5, 11), rfl, by decide, by decide +kernel, Or.inl (hY _ wm_163 rfl)⟩
theorem pf_29 {s0 : State} (hY : pk_Y s0) : pw_fl s0 "MemoRuntime$Working" 52 4 1 := ⟨("MemoRuntime$Text", tc_T4, 2), rfl, by decide, by decide +kernel, Or.inl (hY _ wm_37 rfl)⟩
theorem pf_30 {s0 : State} (hY : pk_Y s0) : pw_fl s0 "MemoRuntime$Working" 55 4 0 := ⟨("MemoRuntime$Text", tc_T4, 2), rfl, by decide, by decide +kernel, Or.inl (hY _ wm_34 rfl)⟩
theorem pf_31 {s0 : State} (hY : pk_Y s0) : pw_fl s0 "MemoRuntime" 10 6 0 := ⟨("MemoRuntime", tc_T6, 15), rfl, by decide, by decide +kernel, Or.inl (hY _ wm_187 rfl)⟩
theorem pf_32 {s0 : State} (hY : pk_Y s0) : pw_fl s0 "MemoRuntime" 16 6 1 := ⟨("MemoRuntime", tc_T6, 15), rfl, by decide, by decide +kernel, Or.inl (hY _ wm_188 rfl)⟩
theorem pf_33 {s0 : State} (hY : pk_Y s0) : pw_fl s0 "MemoRuntime" 20 6 2 := ⟨("MemoRuntime", tc_T6, 15), rfl, by decide, by decide +kernel, Or.inl (hY _ wm_189 rfl)⟩
theorem pf_34 {s0 : State} (hY : pk_Y s0) : pw_fl s0 "MemoRuntime" 27 6 3 := ⟨("MemoRuntime", tc_T6, 15), rfl, by decide, by decide +kernel, Or.inl (hY _ wm_190 rfl)⟩
theorem pf_35 {s0 : State} (hY : pk_Y s0) : pw_fl s0 "MemoRuntime" 34 6 4 := ⟨("MemoRuntime", tc_T6, 15), rfl, by decide, by decide +kernel, Or.inl (hY _ wm_191 rfl)⟩
theorem pf_36 {s0 : State} (hY : pk_Y s0) : pw_fl s0 "MemoRuntime" 40 6 5 := ⟨("MemoRuntime", tc_T6, 15), rfl, by decide, by decide +kernel, Or.inl (hY _ wm_192 rfl)⟩
theorem pf_37 {s0 : State} (hY : pk_Y s0) : pw_fl s0 "MemoRuntime" 47 6 6 := ⟨("MemoRuntime", tc_T6, 15), rfl, by decide, by decide +kernel, Or.inl (hY _ wm_193 rfl)⟩
theorem pf_38 {s0 : State} (hY : pk_Y s0) : pw_fl s0 "MemoRuntime" 51 6 7 := ⟨("MemoRuntime", tc_T6, 15), rfl, by decide, by decide +kernel, Or.inl (hY _ wm_194 rfl)⟩
theorem pf_39 {s0 : State} (hY : pk_Y s0) : pw_fl s0 "MemoRuntime" 55 6 8 := ⟨("MemoRuntime", tc_T6, 15), rfl, by decide, by decide +kernel, Or.inl (hY _ wm_195 rfl)⟩
theorem pf_40 {s0 : State} (hY : pk_Y s0) : pw_fl s0 "MemoRuntime" 60 6 9 := ⟨("MemoRuntime", tc_T6, 15), rfl, by decide, by decide +kernel, Or.inl (hY _ wm_196 rfl)⟩
theorem pf_41 {s0 : State} (hY : pk_Y s0) : pw_fl s0 "MemoRuntime" 64 6 10 := ⟨("MemoRuntime", tc_T6, 15), rfl, by decide, by decide +kernel, Or.inl (hY _ wm_197 rfl)⟩
theorem pf_42 {s0 : State} (hY : pk_Y s0) : pw_fl s0 "MemoRuntime" 67 6 11 := ⟨("MemoRuntime", tc_T6, 15), rfl, by decide, by decide +kernel, Or.inl (hY _ wm_198 rfl)⟩
theorem pf_43 {s0 : State} (hY : pk_Y s0) : pw_fl s0 "MemoRuntime" 70 6 12 := ⟨("MemoRuntime", tc_T6, 15), rfl, by decide, by decide +kernel, Or.inl (hY _ wm_199 rfl)⟩
theorem pf_44 {s0 : State} (hY : pk_Y s0) : pw_fl s0 "MemoRuntime" 73 6 13 := ⟨("MemoRuntime", tc_T6, 15), rfl, by decide, by decide +kernel, Or.inl (hY _ wm_200 rfl)⟩
theorem pf_45 {s0 : State} (hY : pk_Y s0) : pw_fl s0 "MemoRuntime" 76 6 14 := ⟨("MemoRuntime", tc_T6, 15), rfl, by decide, by decide +kernel, Or.inl (hY _ wm_201 rfl)⟩
theorem pf_46 {s0 : State} (hY : pk_Y s0) : pw_fl s0 "MemoRuntime" 85 4 1 := ⟨("MemoRuntime$Text", tc_T4, 2), rfl, by decide, by decide +kernel, Or.inl (hY _ wm_36 rfl)⟩
theorem pf_47 {s0 : State} (hY : pk_Y s0) : pw_fl s0 "MemoRuntime" 117 2 0 := ⟨("MemoRuntime$Inputs", tc_T2, 3), rfl, by decide, by decide +kernel, Or.inl (hY _ wm_52 rfl)⟩
theorem pf_48 {s0 : State} (hY : pk_Y s0) : pw_fl s0 "MemoRuntime" 120 2 2 := ⟨("MemoRuntime$Inputs", tc_T2, 3), rfl, by decide, by decide +kernel, Or.inl (hY _ wm_56 rfl)⟩
theorem pf_49 {s0 : State} (hY : pk_Y s0) : pw_fl s0 "MemoRuntime" 126 2 1 := ⟨("MemoRuntime$Inputs", tc_T2, 3), rfl, by decide, by decide +kernel, Or.inl (hY _ wm_54 rfl)⟩
theorem pf_50 {s0 : State} (hY : pk_Y s0) : pw_fl s0 "MemoRuntime" 129 1 0 := ⟨("MemoRuntime$Edits", tc_T1, 2), rfl, by decide, by decide +kernel, Or.inl (hY _ wm_72 rfl)⟩
theorem pf_51 {s0 : State} (hY : pk_Y s0) : pw_fl s0 "MemoRuntime" 165 0 0 := ⟨("MemoRuntime$Cell", tc_T0, 7), rfl, by decide, by decide +kernel, Or.inl (hY _ wm_114 rfl)⟩
theorem pf_52 {s0 : State} (hY : pk_Y s0) : pw_fl s0 "MemoRuntime" 168 3 0 := ⟨("MemoRuntime$RecentOrder", tc_T3, 4), rfl, by decide, by decide +kernel, Or.inl (hY _ wm_88 rfl)⟩
theorem pf_53 {s0 : State} (hY : pk_Y s0) : pw_fl s0 "MemoRuntime" 179 0 3 := ⟨("MemoRuntime$Cell", tc_T0, 7), rfl, by decide, by decide +kernel, Or.inl (hY _ wm_120 rfl)⟩
theorem pf_54 {s0 : State} (hY : pk_Y s0) : pw_fl s0 "MemoRuntime" 182 0 4 := ⟨("MemoRuntime$Cell", tc_T0, 7), rfl, by decide, by decide +kernel, Or.inl (hY _ wm_122 rfl)⟩
theorem pf_55 {s0 : State} (hY : pk_Y s0) : pw_fl s0 "MemoRuntime" 184 0 5 := ⟨("MemoRuntime$Cell", tc_T0, 7), rfl, by decide, by decide +kernel, Or.inl (hY _ wm_124 rfl)⟩
theorem pf_56 {s0 : State} (hY : pk_Y s0) : pw_fl s0 "MemoRuntime" 187 0 6 := ⟨("MemoRuntime$Cell", tc_T0, 7), rfl, by decide, by decide +kernel, Or.inl (hY _ wm_126 rfl)⟩
theorem pf_57 {s0 : State} (hY : pk_Y s0) : pw_fl s0 "MemoRuntime" 191 0 2 := ⟨("MemoRuntime$Cell", tc_T0, 7), rfl, by decide, by decide +kernel, Or.inl (hY _ wm_118 rfl)⟩
theorem pf_58 {s0 : State} (hY : pk_Y s0) : pw_fl s0 "MemoRuntime" 194 0 1 := ⟨("MemoRuntime$Cell", tc_T0, 7), rfl, by decide, by decide +kernel, Or.inl (hY _ wm_116 rfl)⟩
theorem pf_59 {s0 : State} (hY : pk_Y s0) : pw_fl s0 "MemoRuntime" 273 5 0 := ⟨("MemoRuntime$Working", tc_T5, 11), rfl, by decide, by decide +kernel, Or.inl (hY _ wm_150 rfl)⟩
theorem pf_60 {s0 : State} (hY : pk_Y s0) : pw_fl s0 "MemoRuntime" 286 5 1 := ⟨("MemoRuntime$Working", tc_T5, 11), rfl, by decide, by decide +kernel, Or.inl (hY _ wm_152 rfl)⟩
theorem pf_61 {s0 : State} (hY : pk_Y s0) : pw_fl s0 "MemoRuntime" 287 5 3 := ⟨("MemoRuntime$Working", tc_T5, 11), rfl, by decide, by decide +kernel, Or.inl (hY _ wm_156 rfl)⟩
theorem pf_62 {s0 : State} (hY : pk_Y s0) : pw_fl s0 "MemoRuntime" 288 5 2 := ⟨("MemoRuntime$Working", tc_T5, 11), rfl, by decide, by decide +kernel, Or.inl (hY _ wm_154 rfl)⟩
theorem pf_63 {s0 : State} (hY : pk_Y s0) : pw_fl s0 "MemoRuntimeModel" 7 7 1 := ⟨("MemoRuntimeModel", tc_T7, 37), rfl, by decide, by decide +kernel, Or.inl (hY _ wm_620 rfl)⟩
theorem pf_64 {s0 : State} (hY : pk_Y s0) : pw_fl s0 "MemoRuntimeModel" 13 7 3 := ⟨("MemoRuntimeModel", tc_T7, 37), rfl, by decide, by decide +kernel, Or.inl (hY _ wm_622 rfl)⟩
theorem pf_65 {s0 : State} (hY : pk_Y s0) : pw_fl s0 "MemoRuntimeModel" 16 7 4 := ⟨("MemoRuntimeModel", tc_T7, 37), rfl, by decide, by decide +kernel, Or.inl (hY _ wm_623 rfl)⟩
theorem pf_66 {s0 : State} (hY : pk_Y s0) : pw_fl s0 "MemoRuntimeModel" 19 7 6 := ⟨("MemoRuntimeModel", tc_T7, 37), rfl, by decide, by decide +kernel, Or.inl (hY _ wm_625 rfl)⟩
theorem pf_67 {s0 : State} (hY : pk_Y s0) : pw_fl s0 "MemoRuntimeModel" 22 7 7 := ⟨("MemoRuntimeModel", tc_T7, 37), rfl, by decide, by decide +kernel, Or.inl (hY _ wm_626 rfl)⟩
theorem pf_68 {s0 : State} (hY : pk_Y s0) : pw_fl s0 "MemoRuntimeModel" 25 7 8 := ⟨("MemoRuntimeModel", tc_T7, 37), rfl, by decide, by decide +kernel, Or.inl (hY _ wm_627 rfl)⟩
theorem pf_69 {s0 : State} (hY : pk_Y s0) : pw_fl s0 "MemoRuntimeModel" 28 7 9 := ⟨("MemoRuntimeModel", tc_T7, 37), rfl, by decide, by decide +kernel, Or.inl (hY _ wm_628 rfl)⟩
theorem pf_70 {s0 : State} (hY : pk_Y s0) : pw_fl s0 "MemoRuntimeModel" 31 7 10 := ⟨("MemoRuntimeModel", tc_T7, 37), rfl, by decide, by decide +kernel, Or.inl (hY _ wm_629 rfl)⟩
theorem pf_71 {s0 : State} (hY : pk_Y s0) : pw_fl s0 "MemoRuntimeModel" 34 7 11 := ⟨("MemoRuntimeModel", tc_T7, 37), rfl, by decide, by decide +kernel, Or.inl (hY _ wm_630 rfl)⟩
theorem pf_72 {s0 : State} (hY : pk_Y s0) : pw_fl s0 "MemoRuntimeModel" 38 7 12 := ⟨("MemoRuntimeModel", tc_T7, 37), rfl, by decide, by decide +kernel, Or.inl (hY _ wm_631 rfl)⟩
theorem pf_73 {s0 : State} (hY : pk_Y s0) : pw_fl s0 "MemoRuntimeModel" 41 7 13 := ⟨("MemoRuntimeModel", tc_T7, 37), rfl, by decide, by decide +kernel, Or.inl (hY _ wm_632 rfl)⟩
theorem pf_74 {s0 : State} (hY : pk_Y s0) : pw_fl s0 "MemoRuntimeModel" 44 7 14 := ⟨("MemoRuntimeModel", tc_T7, 37), rfl, by decide, by decide +kernel, Or.inl (hY _ wm_633 rfl)⟩
theorem pf_75 {s0 : State} (hY : pk_Y s0) : pw_fl s0 "MemoRuntimeModel" 47 7 15 := ⟨("MemoRuntimeModel", tc_T7, 37), rfl, by decide, by decide +kernel, Or.inl (hY _ wm_634 rfl)⟩
theorem pf_76 {s0 : State} (hY : pk_Y s0) : pw_fl s0 "MemoRuntimeModel" 50 7 16 := ⟨("MemoRuntimeModel", tc_T7, 37), rfl, by decide, by decide +kernel, Or.inl (hY _ wm_635 rfl)⟩
theorem pf_77 {s0 : State} (hY : pk_Y s0) : pw_fl s0 "MemoRuntimeModel" 53 7 17 := ⟨("MemoRuntimeModel", tc_T7, 37), rfl, by decide, by decide +kernel, Or.inl (hY _ wm_636 rfl)⟩
theorem pf_78 {s0 : State} (hY : pk_Y s0) : pw_fl s0 "MemoRuntimeModel" 56 7 18 := ⟨("MemoRuntimeModel", tc_T7, 37), rfl, by decide, by decide +kernel, Or.inl (hY _ wm_637 rfl)⟩
theorem pf_79 {s0 : State} (hY : pk_Y s0) : pw_fl s0 "MemoRuntimeModel" 59 7 19 := ⟨("MemoRuntimeModel", tc_T7, 37), rfl, by decide, by decide +kernel, Or.inl (hY _ wm_638 rfl)⟩
theorem pf_80 {s0 : State} (hY : pk_Y s0) : pw_fl s0 "MemoRuntimeModel" 62 7 21 := ⟨("MemoRuntimeModel", tc_T7, 37), rfl, by decide, by decide +kernel, Or.inl (hY _ wm_640 rfl)⟩
theorem pf_81 {s0 : State} (hY : pk_Y s0) : pw_fl s0 "MemoRuntimeModel" 66 7 27 := ⟨("MemoRuntimeModel", tc_T7, 37), rfl, by decide, by decide +kernel, Or.inl (hY _ wm_646 rfl)⟩
theorem pf_82 {s0 : State} (hY : pk_Y s0) : pw_fl s0 "MemoRuntimeModel" 69 7 28 := ⟨("MemoRuntimeModel", tc_T7, 37), rfl, by decide, by decide +kernel, Or.inl (hY _ wm_647 rfl)⟩
theorem pf_83 {s0 : State} (hY : pk_Y s0) : pw_fl s0 "MemoRuntimeModel" 72 7 31 := ⟨("MemoRuntimeModel", tc_T7, 37), rfl, by decide, by decide +kernel, Or.inl (hY _ wm_650 rfl)⟩
theorem pf_84 {s0 : State} (hY : pk_Y s0) : pw_fl s0 "MemoRuntimeModel" 75 7 32 := ⟨("MemoRuntimeModel", tc_T7, 37), rfl, by decide, by decide +kernel, Or.inl (hY _ wm_651 rfl)⟩
theorem pf_85 {s0 : State} (hY : pk_Y s0) : pw_fl s0 "MemoRuntimeModel" 78 7 33 := ⟨("MemoRuntimeModel", tc_T7, 37), rfl, by decide, by decide +kernel, Or.inl (hY _ wm_652 rfl)⟩
theorem pf_86 {s0 : State} (hY : pk_Y s0) : pw_fl s0 "MemoRuntimeModel" 81 7 35 := ⟨("MemoRuntimeModel", tc_T7, 37), rfl, by decide, by decide +kernel, Or.inl (hY _ wm_654 rfl)⟩
theorem pf_87 {s0 : State} (hY : pk_Y s0) : pw_fl s0 "MemoRuntimeModel" 84 7 0 := ⟨("MemoRuntimeModel", tc_T7, 37), rfl, by decide, by decide +kernel, Or.inl (hY _ wm_619 rfl)⟩
theorem pf_88 {s0 : State} (hY : pk_Y s0) : pw_fl s0 "MemoRuntimeModel" 89 7 2 := ⟨("MemoRuntimeModel", tc_T7, 37), rfl, by decide, by decide +kernel, Or.inl (hY _ wm_621 rfl)⟩
theorem pf_89 {s0 : State} (hY : pk_Y s0) : pw_fl s0 "MemoRuntimeModel" 99 7 5 := ⟨("MemoRuntimeModel", tc_T7, 37), rfl, by decide, by decide +kernel, Or.inl (hY _ wm_624 rfl)⟩
theorem pf_90 {s0 : State} (hY : pk_Y s0) : pw_fl s0 "MemoRuntimeModel" 110 7 20 := ⟨("MemoRuntimeModel", tc_T7, 37), rfl, by decide, by decide +kernel, Or.inl (hY _ wm_639 rfl)⟩
theorem pf_91 {s0 : State} (hY : pk_Y s0) : pw_fl s0 "MemoRuntimeModel" 113 7 26 := ⟨("MemoRuntimeModel", tc_T7, 37), rfl, by decide, by decide +kernel, Or.inl (hY _ wm_645 rfl)⟩
theorem pf_92 {s0 : State} (hY : pk_Y s0) : pw_fl s0 "MemoRuntimeModel" 116 7 25 := ⟨("MemoRuntimeModel", tc_T7, 37), rfl, by decide, by decide +kernel, Or.inl (hY _ wm_644 rfl)⟩
theorem pf_93 {s0 : State} (hY : pk_Y s0) : pw_fl s0 "MemoRuntimeModel" 131 7 24 := ⟨("MemoRuntimeModel", tc_T7, 37), rfl, by decide, by decide +kernel, Or.inl (hY _ wm_643 rfl)⟩
theorem pf_94 {s0 : State} (hY : pk_Y s0) : pw_fl s0 "MemoRuntimeModel" 134 7 29 := ⟨("MemoRuntimeModel", tc_T7, 37), rfl, by decide, by decide +kernel, Or.inl (hY _ wm_648 rfl)⟩
theorem pf_95 {s0 : State} (hY : pk_Y s0) : pw_fl s0 "MemoRuntimeModel" 144 7 23 := ⟨("MemoRuntimeModel", tc_T7, 37), rfl, by decide, by decide +kernel, Or.inl (hY _ wm_642 rfl)⟩
theorem pf_96 {s0 : State} (hY : pk_Y s0) : pw_fl s0 "MemoRuntimeModel" 147 7 34 := ⟨("MemoRuntimeModel", tc_T7, 37), rfl, by decide, by decide +kernel, Or.inl (hY _ wm_653 rfl)⟩
theorem pf_97 {s0 : State} (hY : pk_Y s0) : pw_fl s0 "MemoRuntimeModel" 150 7 30 := ⟨("MemoRuntimeModel", tc_T7, 37), rfl, by decide, by decide +kernel, Or.inl (hY _ wm_649 rfl)⟩
theorem pf_98 {s0 : State} (hY : pk_Y s0) : pw_fl s0 "MemoRuntimeModel" 153 7 36 := ⟨("MemoRuntimeModel", tc_T7, 37), rfl, by decide, by decide +kernel, Or.inl (hY _ wm_655 rfl)⟩
theorem pf_99 {s0 : State} (hY : pk_Y s0) : pw_fl s0 "MemoRuntimeModel" 170 7 22 := ⟨("MemoRuntimeModel", tc_T7, 37), rfl, by decide, by decide +kernel, Or.inl (hY _ wm_641 rfl)⟩
theorem pf_ok {s0 : State} (hY : pk_Y s0) : ∀ q ∈ pf_L, pw_fl s0 (tb_on q.1) q.2.1 q.2.2.1 q.2.2.2 := List.forall_mem_cons.mpr ⟨pf_0 hY, List.forall_mem_cons.mpr ⟨pf_1 hY, List.forall_mem_cons.mpr ⟨pf_2 hY, List.forall_mem_cons.mpr ⟨pf_3 hY, List.forall_mem_cons.mpr ⟨pf_4 hY, List.forall_mem_cons.mpr ⟨pf_5 hY, List.forall_mem_cons.mpr ⟨pf_6 hY, List.forall_mem_cons.mpr ⟨pf_7 hY, List.forall_mem_cons.mpr ⟨pf_8 hY, List.forall_mem_cons.mpr ⟨pf_9 hY, List.forall_mem_cons.mpr ⟨pf_10 hY, List.forall_mem_cons.mpr ⟨pf_11 hY, List.forall_mem_cons.mpr ⟨pf_12 hY, List.forall_mem_cons.mpr ⟨pf_13 hY, List.forall_mem_cons.mpr ⟨pf_14 hY, List.forall_mem_cons.mpr ⟨pf_15 hY, List.forall_mem_cons.mpr ⟨pf_16 hY, List.forall_mem_cons.mpr ⟨pf_17 hY, List.forall_mem_cons.mpr ⟨pf_18 hY, List.forall_mem_cons.mpr ⟨pf_19 hY, List.forall_mem_cons.mpr ⟨pf_20 hY, List.forall_mem_cons.mpr ⟨pf_21 hY, List.forall_mem_cons.mpr ⟨pf_22 hY, List.forall_mem_cons.mpr ⟨pf_23 hY, List.forall_mem_cons.mpr ⟨pf_24 hY, List.forall_mem_cons.mpr ⟨pf_25 hY, List.forall_mem_cons.mpr ⟨pf_26 hY, List.forall_mem_cons.mpr ⟨pf_27 hY, List.forall_mem_cons.mpr ⟨pf_28 hY, List.forall_mem_cons.mpr ⟨pf_29 hY, List.forall_mem_cons.mpr ⟨pf_30 hY, List.forall_mem_cons.mpr ⟨pf_31 hY, List.forall_mem_cons.mpr ⟨pf_32 hY, List.forall_mem_cons.mpr ⟨pf_33 hY, List.forall_mem_cons.mpr ⟨pf_34 hY, List.forall_mem_cons.mpr ⟨pf_35 hY, List.forall_mem_cons.mpr ⟨pf_36 hY, List.forall_mem_cons.mpr ⟨pf_37 hY, List.forall_mem_cons.mpr ⟨pf_38 hY, List.forall_mem_cons.mpr ⟨pf_39 hY, List.forall_mem_cons.mpr ⟨pf_40 hY, List.forall_mem_cons.mpr ⟨pf_41 hY, List.forall_mem_cons.mpr ⟨pf_42 hY, List.forall_mem_cons.mpr ⟨pf_43 hY, List.forall_mem_cons.mpr ⟨pf_44 hY, List.forall_mem_cons.mpr ⟨pf_45 hY, List.forall_mem_cons.mpr ⟨pf_46 hY, List.forall_mem_cons.mpr ⟨pf_47 hY, List.forall_mem_cons.mpr ⟨pf_48 hY, List.forall_mem_cons.mpr ⟨pf_49 hY, List.forall_mem_cons.mpr ⟨pf_50 hY, List.forall_mem_cons.mpr ⟨pf_51 hY, List.forall_mem_cons.mpr ⟨pf_52 hY, List.forall_mem_cons.mpr ⟨pf_53 hY, List.forall_mem_cons.mpr ⟨pf_54 hY, List.forall_mem_cons.mpr ⟨pf_55 hY, List.forall_mem_cons.mpr ⟨pf_56 hY, List.forall_mem_cons.mpr ⟨pf_57 hY, List.forall_mem_cons.mpr ⟨pf_58 hY, List.forall_mem_cons.mpr ⟨pf_59 hY, List.forall_mem_cons.mpr ⟨pf_60 hY, List.forall_mem_cons.mpr ⟨pf_61 hY, List.forall_mem_cons.mpr ⟨pf_62 hY, List.forall_mem_cons.mpr ⟨pf_63 hY, List.forall_mem_cons.mpr ⟨pf_64 hY, List.forall_mem_cons.mpr ⟨pf_65 hY, List.forall_mem_cons.mpr ⟨pf_66 hY, List.forall_mem_cons.mpr ⟨pf_67 hY, List.forall_mem_cons.mpr ⟨pf_68 hY, List.forall_mem_cons.mpr ⟨pf_69 hY, List.forall_mem_cons.mpr ⟨pf_70 hY, List.forall_mem_cons.mpr ⟨pf_71 hY, List.forall_mem_cons.mpr ⟨pf_72 hY, List.forall_mem_cons.mpr ⟨pf_73 hY, List.forall_mem_cons.mpr ⟨pf_74 hY, List.forall_mem_cons.mpr ⟨pf_75 hY, List.forall_mem_cons.mpr ⟨pf_76 hY, List.forall_mem_cons.mpr ⟨pf_77 hY, List.forall_mem_cons.mpr ⟨pf_78 hY, List.forall_mem_cons.mpr ⟨pf_79 hY, List.forall_mem_cons.mpr ⟨pf_80 hY, List.forall_mem_cons.mpr ⟨pf_81 hY, List.forall_mem_cons.mpr ⟨pf_82 hY, List.forall_mem_cons.mpr ⟨pf_83 hY, List.forall_mem_cons.mpr ⟨pf_84 hY, List.forall_mem_cons.mpr ⟨pf_85 hY, List.forall_mem_cons.mpr ⟨pf_86 hY, List.forall_mem_cons.mpr ⟨pf_87 hY, List.forall_mem_cons.mpr ⟨pf_88 hY, List.forall_mem_cons.mpr ⟨pf_89 hY, List.forall_mem_cons.mpr ⟨pf_90 hY, List.forall_mem_cons.mpr ⟨pf_91 hY, List.forall_mem_cons.mpr ⟨pf_92 hY, List.forall_mem_cons.mpr ⟨pf_93 hY, List.forall_mem_cons.mpr ⟨pf_94 hY, List.forall_mem_cons.mpr ⟨pf_95 hY, List.forall_mem_cons.mpr ⟨pf_96 hY, List.forall_mem_cons.mpr ⟨pf_97 hY, List.forall_mem_cons.mpr ⟨pf_98 hY, List.forall_mem_cons.mpr ⟨pf_99 hY, fun _ h => absurd h List.not_mem_nil⟩⟩⟩⟩⟩⟩⟩⟩⟩⟩⟩⟩⟩⟩⟩⟩⟩⟩⟩⟩⟩⟩⟩⟩⟩⟩⟩⟩⟩⟩⟩⟩⟩⟩⟩⟩⟩⟩⟩⟩⟩⟩⟩⟩⟩⟩⟩⟩⟩⟩⟩⟩⟩⟩⟩⟩⟩⟩⟩⟩⟩⟩⟩⟩⟩⟩⟩⟩⟩⟩⟩⟩⟩⟩⟩⟩⟩⟩⟩⟩⟩⟩⟩⟩⟩⟩⟩⟩⟩⟩⟩⟩⟩⟩⟩⟩⟩⟩⟩⟩
def pn_L : List (Nat × Nat × Nat) := [(5, 25, 4), (6, 7, 4), (6, 24, 2), (6, 31, 1), (6, 38, 0), (6, 44, 3), (6, 58, 5), (8, 8, 6), (8, 52, 7)]
def pn_P (s0 : State) (own : String) (idx a : Nat) : Prop := ∃ r : vw_C, vwCl[a]? = some r ∧ (Cond.classLink own idx r.1).before #[] s0 = true ∧ (Cond.instantiable r.1 r.2.2).before #[] s0 = true ∧ (Cond.initialized r.1).before #[] s0 = true ∧ (tb_df a).length = r.2.2 ∧ ∀ j, j < r.2.2 → defaultValue (tb_ft a j) = vp_V (tb_df a) j
theorem pn_0 {s0 : State} (hY : pk_Y s0) : pn_P s0 "MemoRuntime$Working" 25 4 := ⟨("MemoRuntime$Text", tc_T4, 2), rfl, (hY _ wm_147 rfl), (hY _ wm_28 rfl), (hY _ wm_2 rfl), rfl, by decide +kernel⟩
theorem pn_1 {s0 : State} (hY : pk_Y s0) : pn_P s0 "MemoRuntime" 7 4 := ⟨("MemoRuntime$Text", tc_T4, 2), rfl, (hY _ wm_27 rfl), (hY _ wm_28 rfl), (hY _ wm_2 rfl), rfl, by decide +kernel⟩
theorem pn_2 {s0 : State} (hY : pk_Y s0) : pn_P s0 "MemoRuntime" 24 2 := ⟨("MemoRuntime$Inputs", tc_T2, 3), rfl, (hY _ wm_45 rfl), (hY _ wm_46 rfl), (hY _ wm_3 rfl), rfl, by decide +kernel⟩
theorem pn_3 {s0 : State} (hY : pk_Y s0) : pn_P s0 "MemoRuntime" 31 1 := ⟨("MemoRuntime$Edits", tc_T1, 2), rfl, (hY _ wm_65 rfl), (hY _ wm_66 rfl), (hY _ wm_4 rfl), rfl, by decide +kernel⟩
theorem pn_4 {s0 : State} (hY : pk_Y s0) : pn_P s0 "MemoRuntime" 38 0 := ⟨("MemoRuntime$Cell", tc_T0, 7), rfl, (hY _ wm_79 rfl), (hY _ wm_108 rfl), (hY _ wm_6 rfl), rfl, by decide +kernel⟩
theorem pn_5 {s0 : State} (hY : pk_Y s0) : pn_P s0 "MemoRuntime" 44 3 := ⟨("MemoRuntime$RecentOrder", tc_T3, 4), rfl, (hY _ wm_81 rfl), (hY _ wm_82 rfl), (hY _ wm_5 rfl), rfl, by decide +kernel⟩
theorem pn_6 {s0 : State} (hY : pk_Y s0) : pn_P s0 "MemoRuntime" 58 5 := ⟨("MemoRuntime$Working", tc_T5, 11), rfl, (hY _ wm_102 rfl), (hY _ wm_142 rfl), (hY _ wm_7 rfl), rfl, by decide +kernel⟩
theorem pn_7 {s0 : State} (hY : pk_Y s0) : pn_P s0 "MemoRuntimeLaw" 8 6 := ⟨("MemoRuntime", tc_T6, 15), rfl, (hY _ wm_19 rfl), (hY _ wm_20 rfl), (hY _ wm_1 rfl), rfl, by decide +kernel⟩
theorem pn_8 {s0 : State} (hY : pk_Y s0) : pn_P s0 "MemoRuntimeLaw" 52 7 := ⟨("MemoRuntimeModel", tc_T7, 37), rfl, (hY _ wm_613 rfl), (hY _ wm_614 rfl), (hY _ wm_8 rfl), rfl, by decide +kernel⟩
theorem pn_ok {s0 : State} (hY : pk_Y s0) : ∀ q ∈ pn_L, pn_P s0 (tb_on q.1) q.2.1 q.2.2 := List.forall_mem_cons.mpr ⟨pn_0 hY, List.forall_mem_cons.mpr ⟨pn_1 hY, List.forall_mem_cons.mpr ⟨pn_2 hY, List.forall_mem_cons.mpr ⟨pn_3 hY, List.forall_mem_cons.mpr ⟨pn_4 hY, List.forall_mem_cons.mpr ⟨pn_5 hY, List.forall_mem_cons.mpr ⟨pn_6 hY, List.forall_mem_cons.mpr ⟨pn_7 hY, List.forall_mem_cons.mpr ⟨pn_8 hY, fun _ h => absurd h List.not_mem_nil⟩⟩⟩⟩⟩⟩⟩⟩⟩
def pa_L : List (Nat × Nat × Nat) := [(6, 7, 4), (6, 38, 0), (6, 58, 5)]
theorem pa_ok {s0 : State} (hY : pk_Y s0) : ∀ q ∈ pa_L, (Cond.classLink (tb_on q.1) q.2.1 (tb_cn q.2.2)).before #[] s0 = true ∧ (Cond.arrayOver (.object (tb_cn q.2.2))).before #[] s0 = true := List.forall_mem_cons.mpr ⟨⟨(hY _ wm_27 rfl), (hY _ wm_44 rfl)⟩, List.forall_mem_cons.mpr ⟨⟨(hY _ wm_79 rfl), (hY _ wm_80 rfl)⟩, List.forall_mem_cons.mpr ⟨⟨(hY _ wm_102 rfl), (hY _ wm_103 rfl)⟩, fun _ h => absurd h List.not_mem_nil⟩⟩⟩
def pl_L : List (Nat × Nat × Nat) := [(6, 216, 255), (7, 87, 255), (8, 55, 4294967295)]
theorem pl_ok {s0 : State} (hY : pk_Y s0) : ∀ q ∈ pl_L, (Cond.constantLong (tb_on q.1) q.2.1 (Int64.ofNat q.2.2)).before #[] s0 = true := List.forall_mem_cons.mpr ⟨(hY _ wm_243 rfl), List.forall_mem_cons.mpr ⟨(hY _ wm_739 rfl), List.forall_mem_cons.mpr ⟨(hY _ wm_869 rfl), fun _ h => absurd h List.not_mem_nil⟩⟩⟩
def pj_L : List (Nat × Nat × Nat) := [(3, 26, 83), (3, 30, 86), (4, 19, 89), (4, 23, 88), (5, 27, 87), (5, 58, 88), (5, 62, 98), (5, 66, 99), (5, 70, 97), (5, 73, 92), (5, 77, 102), (5, 81, 100), (5, 84, 101), (6, 9, 87), (6, 26, 79), (6, 33, 76), (6, 46, 80), (6, 79, 89), (6, 83, 75), (6, 84, 93), (6, 88, 22), (6, 92, 21), (6, 96, 17), (6, 100, 91), (6, 104, 90), (6, 108, 84), (6, 111, 16), (6, 114, 18), (6, 123, 23), (6, 132, 15), (6, 136, 19), (6, 145, 25), (6, 159, 82), (6, 162, 24), (6, 171, 81), (6, 175, 20), (6, 197, 85), (6, 206, 83), (6, 218, 77), (6, 227, 26), (6, 230, 27), (6, 233, 28), (6, 236, 29), (6, 242, 30), (6, 248, 31), (6, 252, 78), (6, 256, 33), (6, 259, 36), (6, 262, 38), (6, 266, 94), (6, 270, 95), (6, 276, 35), (6, 279, 96), (6, 282, 32), (6, 295, 34), (6, 298, 37), (7, 92, 43), (7, 96, 44), (7, 102, 47), (7, 106, 46), (7, 119, 51), (7, 122, 52), (7, 125, 54), (7, 128, 53), (7, 138, 55), (7, 141, 56), (7, 156, 58), (7, 159, 59), (7, 163, 60), (7, 166, 61), (7, 173, 64), (7, 177, 65), (7, 180, 63), (7, 183, 62), (7, 186, 57), (7, 189, 66), (8, 7, 3), (8, 15, 4), (8, 19, 5), (8, 23, 6), (8, 27, 7), (8, 33, 9), (8, 36, 10), (8, 42, 11), (8, 45, 13), (8, 48, 14), (8, 51, 0), (8, 54, 39), (8, 57, 1), (8, 61, 41), (8, 62, 2), (8, 66, 42), (8, 67, 103), (8, 72, 45), (8, 73, 40), (8, 76, 104), (8, 79, 48), (8, 80, 105), (8, 83, 49), (8, 84, 106), (8, 87, 50), (8, 88, 107), (8, 90, 67), (8, 91, 8), (8, 94, 68), (8, 95, 108), (8, 97, 69), (8, 98, 109), (8, 100, 70), (8, 101, 110), (8, 103, 71), (8, 104, 12), (8, 107, 72), (8, 108, 111), (8, 110, 73), (8, 111, 112), (8, 113, 74)]
def pm_P (s0 : State) (own : String) (idx a : Nat) : Prop := (Cond.methodLink own idx (tb_nm a)).before #[] s0 = true ∨ ∃ host, (Cond.methodLinkNest own idx (tb_nm a) host).before #[] s0 = true
def pj_L0 : List (Nat × Nat × Nat) := [(3, 26, 83), (3, 30, 86), (4, 19, 89), (4, 23, 88), (5, 27, 87), (5, 58, 88), (5, 62, 98), (5, 66, 99), (5, 70, 97), (5, 73, 92), (5, 77, 102), (5, 81, 100), (5, 84, 101), (6, 9, 87), (6, 26, 79), (6, 33, 76), (6, 46, 80), (6, 79, 89), (6, 83, 75), (6, 84, 93), (6, 88, 22), (6, 92, 21), (6, 96, 17), (6, 100, 91), (6, 104, 90), (6, 108, 84), (6, 111, 16), (6, 114, 18), (6, 123, 23), (6, 132, 15), (6, 136, 19), (6, 145, 25), (6, 159, 82), (6, 162, 24), (6, 171, 81), (6, 175, 20), (6, 197, 85), (6, 206, 83), (6, 218, 77), (6, 227, 26)]
theorem pj_ok0 {s0 : State} (hY : pk_Y s0) : ∀ q ∈ pj_L0, pm_P s0 (tb_on q.1) q.2.1 q.2.2 := List.forall_mem_cons.mpr ⟨Or.inl (hY _ wm_358 rfl), List.forall_mem_cons.mpr ⟨Or.inl (hY _ wm_362 rfl), List.forall_mem_cons.mpr ⟨Or.inl (hY _ wm_353 rfl), List.forall_mem_cons.mpr ⟨Or.inl (hY _ wm_346 rfl), List.forall_mem_cons.mpr ⟨Or.inr ⟨_, (hY _ wm_148 rfl)⟩, List.forall_mem_cons.mpr ⟨Or.inl (hY _ wm_491 rfl), List.forall_mem_cons.mpr ⟨Or.inl (hY _ wm_492 rfl), List.forall_mem_cons.mpr ⟨Or.inl (hY _ wm_496 rfl), List.forall_mem_cons.mpr ⟨Or.inl (hY _ wm_522 rfl), List.forall_mem_cons.mpr ⟨Or.inl (hY _ wm_500 rfl), List.forall_mem_cons.mpr ⟨Or.inl (hY _ wm_504 rfl), List.forall_mem_cons.mpr ⟨Or.inl (hY _ wm_507 rfl), List.forall_mem_cons.mpr ⟨Or.inl (hY _ wm_511 rfl), List.forall_mem_cons.mpr ⟨Or.inr ⟨_, (hY _ wm_29 rfl)⟩, List.forall_mem_cons.mpr ⟨Or.inr ⟨_, (hY _ wm_47 rfl)⟩, List.forall_mem_cons.mpr ⟨Or.inr ⟨_, (hY _ wm_67 rfl)⟩, List.forall_mem_cons.mpr ⟨Or.inl (hY _ wm_83 rfl), List.forall_mem_cons.mpr ⟨Or.inl (hY _ wm_104 rfl), List.forall_mem_cons.mpr ⟨Or.inr ⟨_, (hY _ wm_109 rfl)⟩, List.forall_mem_cons.mpr ⟨Or.inr ⟨_, (hY _ wm_143 rfl)⟩, List.forall_mem_cons.mpr ⟨Or.inl (hY _ wm_237 rfl), List.forall_mem_cons.mpr ⟨Or.inl (hY _ wm_240 rfl), List.forall_mem_cons.mpr ⟨Or.inl (hY _ wm_268 rfl), List.forall_mem_cons.mpr ⟨Or.inl (hY _ wm_342 rfl), List.forall_mem_cons.mpr ⟨Or.inl (hY _ wm_349 rfl), List.forall_mem_cons.mpr ⟨Or.inl (hY _ wm_354 rfl), List.forall_mem_cons.mpr ⟨Or.inl (hY _ wm_373 rfl), List.forall_mem_cons.mpr ⟨Or.inl (hY _ wm_376 rfl), List.forall_mem_cons.mpr ⟨Or.inl (hY _ wm_379 rfl), List.forall_mem_cons.mpr ⟨Or.inl (hY _ wm_271 rfl), List.forall_mem_cons.mpr ⟨Or.inl (hY _ wm_410 rfl), List.forall_mem_cons.mpr ⟨Or.inl (hY _ wm_415 rfl), List.forall_mem_cons.mpr ⟨Or.inl (hY _ wm_427 rfl), List.forall_mem_cons.mpr ⟨Or.inl (hY _ wm_549 rfl), List.forall_mem_cons.mpr ⟨Or.inl (hY _ wm_435 rfl), List.forall_mem_cons.mpr ⟨Or.inl (hY _ wm_571 rfl), List.forall_mem_cons.mpr ⟨Or.inl (hY _ wm_256 rfl), List.forall_mem_cons.mpr ⟨Or.inl (hY _ wm_387 rfl), List.forall_mem_cons.mpr ⟨Or.inl (hY _ wm_383 rfl), List.forall_mem_cons.mpr ⟨Or.inl (hY _ wm_419 rfl), fun _ h => absurd h List.not_mem_nil⟩⟩⟩⟩⟩⟩⟩⟩⟩⟩⟩⟩⟩⟩⟩⟩⟩⟩⟩⟩⟩⟩⟩⟩⟩⟩⟩⟩⟩⟩⟩⟩⟩⟩⟩⟩⟩⟩⟩⟩
def pj_L1 : List (Nat × Nat × Nat) := [(6, 230, 27), (6, 233, 28), (6, 236, 29), (6, 242, 30), (6, 248, 31), (6, 252, 78), (6, 256, 33), (6, 259, 36), (6, 262, 38), (6, 266, 94), (6, 270, 95), (6, 276, 35), (6, 279, 96), (6, 282, 32), (6, 295, 34), (6, 298, 37), (7, 92, 43), (7, 96, 44), (7, 102, 47), (7, 106, 46), (7, 119, 51), (7, 122, 52), (7, 125, 54), (7, 128, 53), (7, 138, 55), (7, 141, 56), (7, 156, 58), (7, 159, 59), (7, 163, 60), (7, 166, 61), (7, 173, 64), (7, 177, 65), (7, 180, 63), (7, 183, 62), (7, 186, 57), (7, 189, 66), (8, 7, 3), (8, 15, 4), (8, 19, 5), (8, 23, 6)]
theorem pj_ok1 {s0 : State} (hY : pk_Y s0) : ∀ q ∈ pj_L1, pm_P s0 (tb_on q.1) q.2.1 q.2.2 := List.forall_mem_cons.mpr ⟨Or.inl (hY _ wm_423 rfl), List.forall_mem_cons.mpr ⟨Or.inl (hY _ wm_431 rfl), List.forall_mem_cons.mpr ⟨Or.inl (hY _ wm_439 rfl), List.forall_mem_cons.mpr ⟨Or.inl (hY _ wm_451 rfl), List.forall_mem_cons.mpr ⟨Or.inl (hY _ wm_479 rfl), List.forall_mem_cons.mpr ⟨Or.inl (hY _ wm_443 rfl), List.forall_mem_cons.mpr ⟨Or.inl (hY _ wm_457 rfl), List.forall_mem_cons.mpr ⟨Or.inl (hY _ wm_464 rfl), List.forall_mem_cons.mpr ⟨Or.inl (hY _ wm_468 rfl), List.forall_mem_cons.mpr ⟨Or.inl (hY _ wm_483 rfl), List.forall_mem_cons.mpr ⟨Or.inl (hY _ wm_487 rfl), List.forall_mem_cons.mpr ⟨Or.inl (hY _ wm_514 rfl), List.forall_mem_cons.mpr ⟨Or.inl (hY _ wm_518 rfl), List.forall_mem_cons.mpr ⟨Or.inl (hY _ wm_526 rfl), List.forall_mem_cons.mpr ⟨Or.inl (hY _ wm_461 rfl), List.forall_mem_cons.mpr ⟨Or.inl (hY _ wm_472 rfl), List.forall_mem_cons.mpr ⟨Or.inl (hY _ wm_748 rfl), List.forall_mem_cons.mpr ⟨Or.inl (hY _ wm_751 rfl), List.forall_mem_cons.mpr ⟨Or.inl (hY _ wm_759 rfl), List.forall_mem_cons.mpr ⟨Or.inl (hY _ wm_762 rfl), List.forall_mem_cons.mpr ⟨Or.inl (hY _ wm_793 rfl), List.forall_mem_cons.mpr ⟨Or.inl (hY _ wm_785 rfl), List.forall_mem_cons.mpr ⟨Or.inl (hY _ wm_789 rfl), List.forall_mem_cons.mpr ⟨Or.inl (hY _ wm_797 rfl), List.forall_mem_cons.mpr ⟨Or.inl (hY _ wm_781 rfl), List.forall_mem_cons.mpr ⟨Or.inl (hY _ wm_821 rfl), List.forall_mem_cons.mpr ⟨Or.inl (hY _ wm_813 rfl), List.forall_mem_cons.mpr ⟨Or.inl (hY _ wm_817 rfl), List.forall_mem_cons.mpr ⟨Or.inl (hY _ wm_809 rfl), List.forall_mem_cons.mpr ⟨Or.inl (hY _ wm_805 rfl), List.forall_mem_cons.mpr ⟨Or.inl (hY _ wm_833 rfl), List.forall_mem_cons.mpr ⟨Or.inl (hY _ wm_837 rfl), List.forall_mem_cons.mpr ⟨Or.inl (hY _ wm_778 rfl), List.forall_mem_cons.mpr ⟨Or.inl (hY _ wm_801 rfl), List.forall_mem_cons.mpr ⟨Or.inl (hY _ wm_825 rfl), List.forall_mem_cons.mpr ⟨Or.inl (hY _ wm_829 rfl), List.forall_mem_cons.mpr ⟨Or.inl (hY _ wm_264 rfl), List.forall_mem_cons.mpr ⟨Or.inl (hY _ wm_369 rfl), List.forall_mem_cons.mpr ⟨Or.inl (hY _ wm_391 rfl), List.forall_mem_cons.mpr ⟨Or.inl (hY _ wm_398 rfl), fun _ h => absurd h List.not_mem_nil⟩⟩⟩⟩⟩⟩⟩⟩⟩⟩⟩⟩⟩⟩⟩⟩⟩⟩⟩⟩⟩⟩⟩⟩⟩⟩⟩⟩⟩⟩⟩⟩⟩⟩⟩⟩⟩⟩⟩⟩
def pj_L2 : List (Nat × Nat × Nat) := [(8, 27, 7), (8, 33, 9), (8, 36, 10), (8, 42, 11), (8, 45, 13), (8, 48, 14), (8, 51, 0), (8, 54, 39), (8, 57, 1), (8, 61, 41), (8, 62, 2), (8, 66, 42), (8, 67, 103), (8, 72, 45), (8, 73, 40), (8, 76, 104), (8, 79, 48), (8, 80, 105), (8, 83, 49), (8, 84, 106), (8, 87, 50), (8, 88, 107), (8, 90, 67), (8, 91, 8), (8, 94, 68), (8, 95, 108), (8, 97, 69), (8, 98, 109), (8, 100, 70), (8, 101, 110), (8, 103, 71), (8, 104, 12), (8, 107, 72), (8, 108, 111), (8, 110, 73), (8, 111, 112), (8, 113, 74)]
theorem pj_ok2 {s0 : State} (hY : pk_Y s0) : ∀ q ∈ pj_L2, pm_P s0 (tb_on q.1) q.2.1 q.2.2 := List.forall_mem_cons.mpr ⟨Or.inl (hY _ wm_406 rfl), List.forall_mem_cons.mpr ⟨Or.inl (hY _ wm_559 rfl), List.forall_mem_cons.mpr ⟨Or.inl (hY _ wm_567 rfl), List.forall_mem_cons.mpr ⟨Or.inl (hY _ wm_594 rfl), List.forall_mem_cons.mpr ⟨Or.inl (hY _ wm_601 rfl), List.forall_mem_cons.mpr ⟨Or.inl (hY _ wm_609 rfl), List.forall_mem_cons.mpr ⟨Or.inl (hY _ wm_21 rfl), List.forall_mem_cons.mpr ⟨Or.inl (hY _ wm_615 rfl), List.forall_mem_cons.mpr ⟨Or.inl (hY _ wm_233 rfl), List.forall_mem_cons.mpr ⟨Or.inl (hY _ wm_735 rfl), List.forall_mem_cons.mpr ⟨Or.inl (hY _ wm_244 rfl), List.forall_mem_cons.mpr ⟨Or.inl (hY _ wm_740 rfl), List.forall_mem_cons.mpr ⟨Or.inl (hY _ wm_260 rfl), List.forall_mem_cons.mpr ⟨Or.inl (hY _ wm_744 rfl), List.forall_mem_cons.mpr ⟨Or.inl (hY _ wm_731 rfl), List.forall_mem_cons.mpr ⟨Or.inl (hY _ wm_366 rfl), List.forall_mem_cons.mpr ⟨Or.inl (hY _ wm_755 rfl), List.forall_mem_cons.mpr ⟨Or.inl (hY _ wm_388 rfl), List.forall_mem_cons.mpr ⟨Or.inl (hY _ wm_766 rfl), List.forall_mem_cons.mpr ⟨Or.inl (hY _ wm_395 rfl), List.forall_mem_cons.mpr ⟨Or.inl (hY _ wm_770 rfl), List.forall_mem_cons.mpr ⟨Or.inl (hY _ wm_402 rfl), List.forall_mem_cons.mpr ⟨Or.inl (hY _ wm_774 rfl), List.forall_mem_cons.mpr ⟨Or.inl (hY _ wm_248 rfl), List.forall_mem_cons.mpr ⟨Or.inl (hY _ wm_841 rfl), List.forall_mem_cons.mpr ⟨Or.inl (hY _ wm_556 rfl), List.forall_mem_cons.mpr ⟨Or.inl (hY _ wm_845 rfl), List.forall_mem_cons.mpr ⟨Or.inl (hY _ wm_563 rfl), List.forall_mem_cons.mpr ⟨Or.inl (hY _ wm_849 rfl), List.forall_mem_cons.mpr ⟨Or.inl (hY _ wm_591 rfl), List.forall_mem_cons.mpr ⟨Or.inl (hY _ wm_853 rfl), List.forall_mem_cons.mpr ⟨Or.inl (hY _ wm_252 rfl), List.forall_mem_cons.mpr ⟨Or.inl (hY _ wm_857 rfl), List.forall_mem_cons.mpr ⟨Or.inl (hY _ wm_598 rfl), List.forall_mem_cons.mpr ⟨Or.inl (hY _ wm_861 rfl), List.forall_mem_cons.mpr ⟨Or.inl (hY _ wm_606 rfl), List.forall_mem_cons.mpr ⟨Or.inl (hY _ wm_865 rfl), fun _ h => absurd h List.not_mem_nil⟩⟩⟩⟩⟩⟩⟩⟩⟩⟩⟩⟩⟩⟩⟩⟩⟩⟩⟩⟩⟩⟩⟩⟩⟩⟩⟩⟩⟩⟩⟩⟩⟩⟩⟩⟩⟩
theorem pj_split : pj_L = pj_L0 ++ (pj_L1 ++ (pj_L2)) := rfl
theorem pj_ok {s0 : State} (hY : pk_Y s0) : ∀ q ∈ pj_L, pm_P s0 (tb_on q.1) q.2.1 q.2.2 := by
  rw [pj_split]
  exact List.forall_mem_append.mpr ⟨pj_ok0 hY, List.forall_mem_append.mpr ⟨pj_ok1 hY, pj_ok2 hY⟩⟩
theorem md_0 {s0 : State} (hY : pk_Y s0) : pw_md s0 0 := ⟨(pk_cw (hY _ wm_23 rfl)), (hY _ wm_1 rfl), by decide +kernel, by decide +kernel, by decide⟩
theorem md_1 {s0 : State} (hY : pk_Y s0) : pw_md s0 1 := ⟨(pk_cw (hY _ wm_236 rfl)), (hY _ wm_1 rfl), by decide +kernel, by decide +kernel, by decide⟩
theorem md_2 {s0 : State} (hY : pk_Y s0) : pw_md s0 2 := ⟨(pk_cw (hY _ wm_247 rfl)), (hY _ wm_1 rfl), by decide +kernel, by decide +kernel, by decide⟩
theorem md_3 {s0 : State} (hY : pk_Y s0) : pw_md s0 3 := ⟨(pk_cw (hY _ wm_267 rfl)), (hY _ wm_1 rfl), by decide +kernel, by decide +kernel, by decide⟩
theorem md_4 {s0 : State} (hY : pk_Y s0) : pw_md s0 4 := ⟨(pk_cw (hY _ wm_372 rfl)), (hY _ wm_1 rfl), by decide +kernel, by decide +kernel, by decide⟩
theorem md_5 {s0 : State} (hY : pk_Y s0) : pw_md s0 5 := ⟨(pk_cw (hY _ wm_394 rfl)), (hY _ wm_1 rfl), by decide +kernel, by decide +kernel, by decide⟩
theorem md_6 {s0 : State} (hY : pk_Y s0) : pw_md s0 6 := ⟨(pk_cw (hY _ wm_401 rfl)), (hY _ wm_1 rfl), by decide +kernel, by decide +kernel, by decide⟩
theorem md_7 {s0 : State} (hY : pk_Y s0) : pw_md s0 7 := ⟨(pk_cw (hY _ wm_409 rfl)), (hY _ wm_1 rfl), by decide +kernel, by decide +kernel, by decide⟩
theorem md_8 {s0 : State} (hY : pk_Y s0) : pw_md s0 8 := ⟨(pk_cw (hY _ wm_251 rfl)), (hY _ wm_1 rfl), by decide +kernel, by decide +kernel, by decide⟩
theorem md_9 {s0 : State} (hY : pk_Y s0) : pw_md s0 9 := ⟨(pk_cw (hY _ wm_562 rfl)), (hY _ wm_1 rfl), by decide +kernel, by decide +kernel, by decide⟩
theorem md_10 {s0 : State} (hY : pk_Y s0) : pw_md s0 10 := ⟨(pk_cw (hY _ wm_570 rfl)), (hY _ wm_1 rfl), by decide +kernel, by decide +kernel, by decide⟩
theorem md_11 {s0 : State} (hY : pk_Y s0) : pw_md s0 11 := ⟨(pk_cw (hY _ wm_597 rfl)), (hY _ wm_1 rfl), by decide +kernel, by decide +kernel, by decide⟩
theorem md_12 {s0 : State} (hY : pk_Y s0) : pw_md s0 12 := ⟨(pk_cw (hY _ wm_255 rfl)), (hY _ wm_1 rfl), by decide +kernel, by decide +kernel, by decide⟩
theorem md_13 {s0 : State} (hY : pk_Y s0) : pw_md s0 13 := ⟨(pk_cw (hY _ wm_604 rfl)), (hY _ wm_1 rfl), by decide +kernel, by decide +kernel, by decide⟩
theorem md_14 {s0 : State} (hY : pk_Y s0) : pw_md s0 14 := ⟨(pk_cw (hY _ wm_612 rfl)), (hY _ wm_1 rfl), by decide +kernel, by decide +kernel, by decide⟩
theorem md_15 {s0 : State} (hY : pk_Y s0) : pw_md s0 15 := ⟨(pk_cw (hY _ wm_273 rfl)), (hY _ wm_1 rfl), by decide +kernel, by decide +kernel, by decide⟩
theorem md_16 {s0 : State} (hY : pk_Y s0) : pw_md s0 16 := ⟨(pk_cw (hY _ wm_375 rfl)), (hY _ wm_1 rfl), by decide +kernel, by decide +kernel, by decide⟩
theorem md_17 {s0 : State} (hY : pk_Y s0) : pw_md s0 17 := ⟨(pk_cw (hY _ wm_270 rfl)), (hY _ wm_1 rfl), by decide +kernel, by decide +kernel, by decide⟩
theorem md_18 {s0 : State} (hY : pk_Y s0) : pw_md s0 18 := ⟨(pk_cw (hY _ wm_378 rfl)), (hY _ wm_1 rfl), by decide +kernel, by decide +kernel, by decide⟩
theorem md_19 {s0 : State} (hY : pk_Y s0) : pw_md s0 19 := ⟨(pk_cw (hY _ wm_412 rfl)), (hY _ wm_1 rfl), by decide +kernel, by decide +kernel, by decide⟩
theorem md_20 {s0 : State} (hY : pk_Y s0) : pw_md s0 20 := ⟨(pk_cw (hY _ wm_574 rfl)), (hY _ wm_1 rfl), by decide +kernel, by decide +kernel, by decide⟩
theorem md_21 {s0 : State} (hY : pk_Y s0) : pw_md s0 21 := ⟨(pk_cw (hY _ wm_242 rfl)), (hY _ wm_1 rfl), by decide +kernel, by decide +kernel, by decide⟩
theorem md_22 {s0 : State} (hY : pk_Y s0) : pw_md s0 22 := ⟨(pk_cw (hY _ wm_239 rfl)), (hY _ wm_1 rfl), by decide +kernel, by decide +kernel, by decide⟩
theorem md_23 {s0 : State} (hY : pk_Y s0) : pw_md s0 23 := ⟨(pk_cw (hY _ wm_382 rfl)), (hY _ wm_1 rfl), by decide +kernel, by decide +kernel, by decide⟩
theorem md_24 {s0 : State} (hY : pk_Y s0) : pw_md s0 24 := ⟨(pk_cw (hY _ wm_552 rfl)), (hY _ wm_1 rfl), by decide +kernel, by decide +kernel, by decide⟩
theorem md_25 {s0 : State} (hY : pk_Y s0) : pw_md s0 25 := ⟨(pk_cw (hY _ wm_418 rfl)), (hY _ wm_1 rfl), by decide +kernel, by decide +kernel, by decide⟩
theorem md_26 {s0 : State} (hY : pk_Y s0) : pw_md s0 26 := ⟨(pk_cw (hY _ wm_422 rfl)), (hY _ wm_1 rfl), by decide +kernel, by decide +kernel, by decide⟩
theorem md_27 {s0 : State} (hY : pk_Y s0) : pw_md s0 27 := ⟨(pk_cw (hY _ wm_426 rfl)), (hY _ wm_1 rfl), by decide +kernel, by decide +kernel, by decide⟩
theorem md_28 {s0 : State} (hY : pk_Y s0) : pw_md s0 28 := ⟨(pk_cw (hY _ wm_434 rfl)), (hY _ wm_1 rfl), by decide +kernel, by decide +kernel, by decide⟩
theorem md_29 {s0 : State} (hY : pk_Y s0) : pw_md s0 29 := ⟨(pk_cw (hY _ wm_442 rfl)), (hY _ wm_1 rfl), by decide +kernel, by decide +kernel, by decide⟩
theorem md_30 {s0 : State} (hY : pk_Y s0) : pw_md s0 30 := ⟨(pk_cw (hY _ wm_454 rfl)), (hY _ wm_1 rfl), by decide +kernel, by decide +kernel, by decide⟩
theorem md_31 {s0 : State} (hY : pk_Y s0) : pw_md s0 31 := ⟨(pk_cw (hY _ wm_482 rfl)), (hY _ wm_1 rfl), by decide +kernel, by decide +kernel, by decide⟩
theorem md_32 {s0 : State} (hY : pk_Y s0) : pw_md s0 32 := ⟨(pk_cw (hY _ wm_529 rfl)), (hY _ wm_1 rfl), by decide +kernel, by decide +kernel, by decide⟩
theorem md_33 {s0 : State} (hY : pk_Y s0) : pw_md s0 33 := ⟨(pk_cw (hY _ wm_460 rfl)), (hY _ wm_1 rfl), by decide +kernel, by decide +kernel, by decide⟩
theorem md_34 {s0 : State} (hY : pk_Y s0) : pw_md s0 34 := ⟨(pk_cw (hY _ wm_463 rfl)), (hY _ wm_1 rfl), by decide +kernel, by decide +kernel, by decide⟩
theorem md_35 {s0 : State} (hY : pk_Y s0) : pw_md s0 35 := ⟨(pk_cw (hY _ wm_517 rfl)), (hY _ wm_1 rfl), by decide +kernel, by decide +kernel, by decide⟩
theorem md_36 {s0 : State} (hY : pk_Y s0) : pw_md s0 36 := ⟨(pk_cw (hY _ wm_467 rfl)), (hY _ wm_1 rfl), by decide +kernel, by decide +kernel, by decide⟩
theorem md_37 {s0 : State} (hY : pk_Y s0) : pw_md s0 37 := ⟨(pk_cw (hY _ wm_475 rfl)), (hY _ wm_1 rfl), by decide +kernel, by decide +kernel, by decide⟩
theorem md_38 {s0 : State} (hY : pk_Y s0) : pw_md s0 38 := ⟨(pk_cw (hY _ wm_471 rfl)), (hY _ wm_1 rfl), by decide +kernel, by decide +kernel, by decide⟩
theorem md_39 {s0 : State} (hY : pk_Y s0) : pw_md s0 39 := ⟨(pk_cw (hY _ wm_617 rfl)), (hY _ wm_8 rfl), by decide +kernel, by decide +kernel, by decide⟩
theorem md_40 {s0 : State} (hY : pk_Y s0) : pw_md s0 40 := ⟨(pk_cw (hY _ wm_734 rfl)), (hY _ wm_8 rfl), by decide +kernel, by decide +kernel, by decide⟩
theorem md_41 {s0 : State} (hY : pk_Y s0) : pw_md s0 41 := ⟨(pk_cw (hY _ wm_738 rfl)), (hY _ wm_8 rfl), by decide +kernel, by decide +kernel, by decide⟩
theorem md_42 {s0 : State} (hY : pk_Y s0) : pw_md s0 42 := ⟨(pk_cw (hY _ wm_743 rfl)), (hY _ wm_8 rfl), by decide +kernel, by decide +kernel, by decide⟩
theorem md_43 {s0 : State} (hY : pk_Y s0) : pw_md s0 43 := ⟨(pk_cw (hY _ wm_750 rfl)), (hY _ wm_8 rfl), by decide +kernel, by decide +kernel, by decide⟩
theorem md_44 {s0 : State} (hY : pk_Y s0) : pw_md s0 44 := ⟨(pk_cw (hY _ wm_754 rfl)), (hY _ wm_8 rfl), by decide +kernel, by decide +kernel, by decide⟩
theorem md_45 {s0 : State} (hY : pk_Y s0) : pw_md s0 45 := ⟨(pk_cw (hY _ wm_747 rfl)), (hY _ wm_8 rfl), by decide +kernel, by decide +kernel, by decide⟩
theorem md_46 {s0 : State} (hY : pk_Y s0) : pw_md s0 46 := ⟨(pk_cw (hY _ wm_765 rfl)), (hY _ wm_8 rfl), by decide +kernel, by decide +kernel, by decide⟩
theorem md_47 {s0 : State} (hY : pk_Y s0) : pw_md s0 47 := ⟨(pk_cw (hY _ wm_761 rfl)), (hY _ wm_8 rfl), by decide +kernel, by decide +kernel, by decide⟩
theorem md_48 {s0 : State} (hY : pk_Y s0) : pw_md s0 48 := ⟨(pk_cw (hY _ wm_758 rfl)), (hY _ wm_8 rfl), by decide +kernel, by decide +kernel, by decide⟩
theorem md_49 {s0 : State} (hY : pk_Y s0) : pw_md s0 49 := ⟨(pk_cw (hY _ wm_769 rfl)), (hY _ wm_8 rfl), by decide +kernel, by decide +kernel, by decide⟩
theorem md_50 {s0 : State} (hY : pk_Y s0) : pw_md s0 50 := ⟨(pk_cw (hY _ wm_773 rfl)), (hY _ wm_8 rfl), by decide +kernel, by decide +kernel, by decide⟩
theorem md_51 {s0 : State} (hY : pk_Y s0) : pw_md s0 51 := ⟨(pk_cw (hY _ wm_796 rfl)), (hY _ wm_8 rfl), by decide +kernel, by decide +kernel, by decide⟩
theorem md_52 {s0 : State} (hY : pk_Y s0) : pw_md s0 52 := ⟨(pk_cw (hY _ wm_788 rfl)), (hY _ wm_8 rfl), by decide +kernel, by decide +kernel, by decide⟩
theorem md_53 {s0 : State} (hY : pk_Y s0) : pw_md s0 53 := ⟨(pk_cw (hY _ wm_800 rfl)), (hY _ wm_8 rfl), by decide +kernel, by decide +kernel, by decide⟩
theorem md_54 {s0 : State} (hY : pk_Y s0) : pw_md s0 54 := ⟨(pk_cw (hY _ wm_792 rfl)), (hY _ wm_8 rfl), by decide +kernel, by decide +kernel, by decide⟩
theorem md_55 {s0 : State} (hY : pk_Y s0) : pw_md s0 55 := ⟨(pk_cw (hY _ wm_784 rfl)), (hY _ wm_8 rfl), by decide +kernel, by decide +kernel, by decide⟩
theorem md_56 {s0 : State} (hY : pk_Y s0) : pw_md s0 56 := ⟨(pk_cw (hY _ wm_824 rfl)), (hY _ wm_8 rfl), by decide +kernel, by decide +kernel, by decide⟩
theorem md_57 {s0 : State} (hY : pk_Y s0) : pw_md s0 57 := ⟨(pk_cw (hY _ wm_828 rfl)), (hY _ wm_8 rfl), by decide +kernel, by decide +kernel, by decide⟩
theorem md_58 {s0 : State} (hY : pk_Y s0) : pw_md s0 58 := ⟨(pk_cw (hY _ wm_816 rfl)), (hY _ wm_8 rfl), by decide +kernel, by decide +kernel, by decide⟩
theorem md_59 {s0 : State} (hY : pk_Y s0) : pw_md s0 59 := ⟨(pk_cw (hY _ wm_820 rfl)), (hY _ wm_8 rfl), by decide +kernel, by decide +kernel, by decide⟩
theorem md_60 {s0 : State} (hY : pk_Y s0) : pw_md s0 60 := ⟨(pk_cw (hY _ wm_812 rfl)), (hY _ wm_8 rfl), by decide +kernel, by decide +kernel, by decide⟩
theorem md_61 {s0 : State} (hY : pk_Y s0) : pw_md s0 61 := ⟨(pk_cw (hY _ wm_808 rfl)), (hY _ wm_8 rfl), by decide +kernel, by decide +kernel, by decide⟩
theorem md_62 {s0 : State} (hY : pk_Y s0) : pw_md s0 62 := ⟨(pk_cw (hY _ wm_804 rfl)), (hY _ wm_8 rfl), by decide +kernel, by decide +kernel, by decide⟩
theorem md_63 {s0 : State} (hY : pk_Y s0) : pw_md s0 63 := ⟨(pk_cw (hY _ wm_780 rfl)), (hY _ wm_8 rfl), by decide +kernel, by decide +kernel, by decide⟩
theorem md_64 {s0 : State} (hY : pk_Y s0) : pw_md s0 64 := ⟨(pk_cw (hY _ wm_836 rfl)), (hY _ wm_8 rfl), by decide +kernel, by decide +kernel, by decide⟩
theorem md_65 {s0 : State} (hY : pk_Y s0) : pw_md s0 65 := ⟨(pk_cw (hY _ wm_840 rfl)), (hY _ wm_8 rfl), by decide +kernel, by decide +kernel, by decide⟩
theorem md_66 {s0 : State} (hY : pk_Y s0) : pw_md s0 66 := ⟨(pk_cw (hY _ wm_832 rfl)), (hY _ wm_8 rfl), by decide +kernel, by decide +kernel, by decide⟩
theorem md_67 {s0 : State} (hY : pk_Y s0) : pw_md s0 67 := ⟨(pk_cw (hY _ wm_777 rfl)), (hY _ wm_8 rfl), by decide +kernel, by decide +kernel, by decide⟩
theorem md_68 {s0 : State} (hY : pk_Y s0) : pw_md s0 68 := ⟨(pk_cw (hY _ wm_844 rfl)), (hY _ wm_8 rfl), by decide +kernel, by decide +kernel, by decide⟩
theorem md_69 {s0 : State} (hY : pk_Y s0) : pw_md s0 69 := ⟨(pk_cw (hY _ wm_848 rfl)), (hY _ wm_8 rfl), by decide +kernel, by decide +kernel, by decide⟩
theorem md_70 {s0 : State} (hY : pk_Y s0) : pw_md s0 70 := ⟨(pk_cw (hY _ wm_852 rfl)), (hY _ wm_8 rfl), by decide +kernel, by decide +kernel, by decide⟩
theorem md_71 {s0 : State} (hY : pk_Y s0) : pw_md s0 71 := ⟨(pk_cw (hY _ wm_856 rfl)), (hY _ wm_8 rfl), by decide +kernel, by decide +kernel, by decide⟩
theorem md_72 {s0 : State} (hY : pk_Y s0) : pw_md s0 72 := ⟨(pk_cw (hY _ wm_860 rfl)), (hY _ wm_8 rfl), by decide +kernel, by decide +kernel, by decide⟩
theorem md_73 {s0 : State} (hY : pk_Y s0) : pw_md s0 73 := ⟨(pk_cw (hY _ wm_864 rfl)), (hY _ wm_8 rfl), by decide +kernel, by decide +kernel, by decide⟩
theorem md_74 {s0 : State} (hY : pk_Y s0) : pw_md s0 74 := ⟨(pk_cw (hY _ wm_868 rfl)), (hY _ wm_8 rfl), by decide +kernel, by decide +kernel, by decide⟩
theorem md_75 {s0 : State} (hY : pk_Y s0) : pw_md s0 75 := ⟨(pk_cw (hY _ wm_111 rfl)), (hY _ wm_6 rfl), by decide +kernel, by decide +kernel, by decide⟩
theorem md_76 {s0 : State} (hY : pk_Y s0) : pw_md s0 76 := ⟨(pk_cw (hY _ wm_69 rfl)), (hY _ wm_4 rfl), by decide +kernel, by decide +kernel, by decide⟩
theorem md_77 {s0 : State} (hY : pk_Y s0) : pw_md s0 77 := ⟨(pk_cw (hY _ wm_386 rfl)), (hY _ wm_4 rfl), by decide +kernel, by decide +kernel, by decide⟩
theorem md_78 {s0 : State} (hY : pk_Y s0) : pw_md s0 78 := ⟨(pk_cw (hY _ wm_446 rfl)), (hY _ wm_4 rfl), by decide +kernel, by decide +kernel, by decide⟩
theorem md_79 {s0 : State} (hY : pk_Y s0) : pw_md s0 79 := ⟨(pk_cw (hY _ wm_49 rfl)), (hY _ wm_3 rfl), by decide +kernel, by decide +kernel, by decide⟩
theorem md_80 {s0 : State} (hY : pk_Y s0) : pw_md s0 80 := ⟨(pk_cw (hY _ wm_85 rfl)), (hY _ wm_5 rfl), by decide +kernel, by decide +kernel, by decide⟩
theorem md_81 {s0 : State} (hY : pk_Y s0) : pw_md s0 81 := ⟨(pk_cw (hY _ wm_438 rfl)), (hY _ wm_5 rfl), by decide +kernel, by decide +kernel, by decide⟩
theorem md_82 {s0 : State} (hY : pk_Y s0) : pw_md s0 82 := ⟨(pk_cw (hY _ wm_430 rfl)), (hY _ wm_5 rfl), by decide +kernel, by decide +kernel, by decide⟩
theorem md_83 {s0 : State} (hY : pk_Y s0) : pw_md s0 83 := ⟨(pk_cw (hY _ wm_361 rfl)), (hY _ wm_5 rfl), by decide +kernel, by decide +kernel, by decide⟩
theorem md_84 {s0 : State} (hY : pk_Y s0) : pw_md s0 84 := ⟨(pk_cw (hY _ wm_357 rfl)), (hY _ wm_5 rfl), by decide +kernel, by decide +kernel, by decide⟩
theorem md_85 {s0 : State} (hY : pk_Y s0) : pw_md s0 85 := ⟨(pk_cw (hY _ wm_259 rfl)), (hY _ wm_5 rfl), by decide +kernel, by decide +kernel, by decide⟩
theorem md_86 {s0 : State} (hY : pk_Y s0) : pw_md s0 86 := ⟨(pk_cw (hY _ wm_365 rfl)), (hY _ wm_5 rfl), by decide +kernel, by decide +kernel, by decide⟩
theorem md_87 {s0 : State} (hY : pk_Y s0) : pw_md s0 87 := ⟨(pk_cw (hY _ wm_31 rfl)), (hY _ wm_2 rfl), by decide +kernel, by decide +kernel, by decide⟩
theorem md_88 {s0 : State} (hY : pk_Y s0) : pw_md s0 88 := ⟨(pk_cw (hY _ wm_348 rfl)), (hY _ wm_2 rfl), by decide +kernel, by decide +kernel, by decide⟩
theorem md_89 {s0 : State} (hY : pk_Y s0) : pw_md s0 89 := ⟨(pk_cw (hY _ wm_107 rfl)), (hY _ wm_2 rfl), by decide +kernel, by decide +kernel, by decide⟩
theorem md_90 {s0 : State} (hY : pk_Y s0) : pw_md s0 90 := ⟨(pk_cw (hY _ wm_352 rfl)), (hY _ wm_2 rfl), by decide +kernel, by decide +kernel, by decide⟩
theorem md_91 {s0 : State} (hY : pk_Y s0) : pw_md s0 91 := ⟨(pk_cw (hY _ wm_345 rfl)), (hY _ wm_2 rfl), by decide +kernel, by decide +kernel, by decide⟩
theorem md_92 {s0 : State} (hY : pk_Y s0) : pw_md s0 92 := ⟨(pk_cw (hY _ wm_503 rfl)), (hY _ wm_2 rfl), by decide +kernel, by decide +kernel, by decide⟩
theorem md_93 {s0 : State} (hY : pk_Y s0) : pw_md s0 93 := ⟨(pk_cw (hY _ wm_145 rfl)), (hY _ wm_7 rfl), by decide +kernel, by decide +kernel, by decide⟩
theorem md_94 {s0 : State} (hY : pk_Y s0) : pw_md s0 94 := ⟨(pk_cw (hY _ wm_486 rfl)), (hY _ wm_7 rfl), by decide +kernel, by decide +kernel, by decide⟩
theorem md_95 {s0 : State} (hY : pk_Y s0) : pw_md s0 95 := ⟨(pk_cw (hY _ wm_490 rfl)), (hY _ wm_7 rfl), by decide +kernel, by decide +kernel, by decide⟩
theorem md_96 {s0 : State} (hY : pk_Y s0) : pw_md s0 96 := ⟨(pk_cw (hY _ wm_521 rfl)), (hY _ wm_7 rfl), by decide +kernel, by decide +kernel, by decide⟩
theorem md_97 {s0 : State} (hY : pk_Y s0) : pw_md s0 97 := ⟨(pk_cw (hY _ wm_525 rfl)), (hY _ wm_7 rfl), by decide +kernel, by decide +kernel, by decide⟩
theorem md_98 {s0 : State} (hY : pk_Y s0) : pw_md s0 98 := ⟨(pk_cw (hY _ wm_495 rfl)), (hY _ wm_7 rfl), by decide +kernel, by decide +kernel, by decide⟩
theorem md_99 {s0 : State} (hY : pk_Y s0) : pw_md s0 99 := ⟨(pk_cw (hY _ wm_499 rfl)), (hY _ wm_7 rfl), by decide +kernel, by decide +kernel, by decide⟩
theorem md_100 {s0 : State} (hY : pk_Y s0) : pw_md s0 100 := ⟨(pk_cw (hY _ wm_510 rfl)), (hY _ wm_7 rfl), by decide +kernel, by decide +kernel, by decide⟩
theorem md_101 {s0 : State} (hY : pk_Y s0) : pw_md s0 101 := ⟨(pk_cw (hY _ wm_513 rfl)), (hY _ wm_7 rfl), by decide +kernel, by decide +kernel, by decide⟩
theorem md_102 {s0 : State} (hY : pk_Y s0) : pw_md s0 102 := ⟨(pk_cw (hY _ wm_506 rfl)), (hY _ wm_7 rfl), by decide +kernel, by decide +kernel, by decide⟩
theorem md_103 {s0 : State} (hY : pk_Y s0) : pw_md s0 103 := ⟨(hY _ wm_262 rfl), (hY _ wm_0 rfl), by decide +kernel, by decide +kernel, by decide⟩
theorem md_104 {s0 : State} (hY : pk_Y s0) : pw_md s0 104 := ⟨(hY _ wm_368 rfl), (hY _ wm_0 rfl), by decide +kernel, by decide +kernel, by decide⟩
theorem md_105 {s0 : State} (hY : pk_Y s0) : pw_md s0 105 := ⟨(hY _ wm_390 rfl), (hY _ wm_0 rfl), by decide +kernel, by decide +kernel, by decide⟩
theorem md_106 {s0 : State} (hY : pk_Y s0) : pw_md s0 106 := ⟨(hY _ wm_397 rfl), (hY _ wm_0 rfl), by decide +kernel, by decide +kernel, by decide⟩
theorem md_107 {s0 : State} (hY : pk_Y s0) : pw_md s0 107 := ⟨(hY _ wm_404 rfl), (hY _ wm_0 rfl), by decide +kernel, by decide +kernel, by decide⟩
theorem md_108 {s0 : State} (hY : pk_Y s0) : pw_md s0 108 := ⟨(hY _ wm_558 rfl), (hY _ wm_0 rfl), by decide +kernel, by decide +kernel, by decide⟩
theorem md_109 {s0 : State} (hY : pk_Y s0) : pw_md s0 109 := ⟨(hY _ wm_565 rfl), (hY _ wm_0 rfl), by decide +kernel, by decide +kernel, by decide⟩
theorem md_110 {s0 : State} (hY : pk_Y s0) : pw_md s0 110 := ⟨(hY _ wm_593 rfl), (hY _ wm_0 rfl), by decide +kernel, by decide +kernel, by decide⟩
theorem md_111 {s0 : State} (hY : pk_Y s0) : pw_md s0 111 := ⟨(hY _ wm_600 rfl), (hY _ wm_0 rfl), by decide +kernel, by decide +kernel, by decide⟩
theorem md_112 {s0 : State} (hY : pk_Y s0) : pw_md s0 112 := ⟨(hY _ wm_608 rfl), (hY _ wm_0 rfl), by decide +kernel, by decide +kernel, by decide⟩
def md_L : List Nat := [0, 1, 2, 3, 4, 5, 6, 7, 8, 9, 10, 11, 12, 13, 14, 15, 16, 17, 18, 19, 20, 21, 22, 23, 24, 25, 26, 27, 28, 29, 30, 31, 32, 33, 34, 35, 36, 37, 38, 39, 40, 41, 42, 43, 44, 45, 46, 47, 48, 49, 50, 51, 52, 53, 54, 55, 56, 57, 58, 59, 60, 61, 62, 63, 64, 65, 66, 67, 68, 69, 70, 71, 72, 73, 74, 75, 76, 77, 78, 79, 80, 81, 82, 83, 84, 85, 86, 87, 88, 89, 90, 91, 92, 93, 94, 95, 96, 97, 98, 99, 100, 101, 102, 103, 104, 105, 106, 107, 108, 109, 110, 111, 112]
def md_L0 : List Nat := [0, 1, 2, 3, 4, 5, 6, 7, 8, 9, 10, 11, 12, 13, 14, 15, 16, 17, 18, 19, 20, 21, 22, 23, 24, 25, 26, 27, 28, 29, 30, 31, 32, 33, 34, 35, 36, 37, 38, 39]
theorem md_ok0 {s0 : State} (hY : pk_Y s0) : ∀ q ∈ md_L0, pw_md s0 q := List.forall_mem_cons.mpr ⟨md_0 hY, List.forall_mem_cons.mpr ⟨md_1 hY, List.forall_mem_cons.mpr ⟨md_2 hY, List.forall_mem_cons.mpr ⟨md_3 hY, List.forall_mem_cons.mpr ⟨md_4 hY, List.forall_mem_cons.mpr ⟨md_5 hY, List.forall_mem_cons.mpr ⟨md_6 hY, List.forall_mem_cons.mpr ⟨md_7 hY, List.forall_mem_cons.mpr ⟨md_8 hY, List.forall_mem_cons.mpr ⟨md_9 hY, List.forall_mem_cons.mpr ⟨md_10 hY, List.forall_mem_cons.mpr ⟨md_11 hY, List.forall_mem_cons.mpr ⟨md_12 hY, List.forall_mem_cons.mpr ⟨md_13 hY, List.forall_mem_cons.mpr ⟨md_14 hY, List.forall_mem_cons.mpr ⟨md_15 hY, List.forall_mem_cons.mpr ⟨md_16 hY, List.forall_mem_cons.mpr ⟨md_17 hY, List.forall_mem_cons.mpr ⟨md_18 hY, List.forall_mem_cons.mpr ⟨md_19 hY, List.forall_mem_cons.mpr ⟨md_20 hY, List.forall_mem_cons.mpr ⟨md_21 hY, List.forall_mem_cons.mpr ⟨md_22 hY, List.forall_mem_cons.mpr ⟨md_23 hY, List.forall_mem_cons.mpr ⟨md_24 hY, List.forall_mem_cons.mpr ⟨md_25 hY, List.forall_mem_cons.mpr ⟨md_26 hY, List.forall_mem_cons.mpr ⟨md_27 hY, List.forall_mem_cons.mpr ⟨md_28 hY, List.forall_mem_cons.mpr ⟨md_29 hY, List.forall_mem_cons.mpr ⟨md_30 hY, List.forall_mem_cons.mpr ⟨md_31 hY, List.forall_mem_cons.mpr ⟨md_32 hY, List.forall_mem_cons.mpr ⟨md_33 hY, List.forall_mem_cons.mpr ⟨md_34 hY, List.forall_mem_cons.mpr ⟨md_35 hY, List.forall_mem_cons.mpr ⟨md_36 hY, List.forall_mem_cons.mpr ⟨md_37 hY, List.forall_mem_cons.mpr ⟨md_38 hY, List.forall_mem_cons.mpr ⟨md_39 hY, fun _ h => absurd h List.not_mem_nil⟩⟩⟩⟩⟩⟩⟩⟩⟩⟩⟩⟩⟩⟩⟩⟩⟩⟩⟩⟩⟩⟩⟩⟩⟩⟩⟩⟩⟩⟩⟩⟩⟩⟩⟩⟩⟩⟩⟩⟩
def md_L1 : List Nat := [40, 41, 42, 43, 44, 45, 46, 47, 48, 49, 50, 51, 52, 53, 54, 55, 56, 57, 58, 59, 60, 61, 62, 63, 64, 65, 66, 67, 68, 69, 70, 71, 72, 73, 74, 75, 76, 77, 78, 79]
theorem md_ok1 {s0 : State} (hY : pk_Y s0) : ∀ q ∈ md_L1, pw_md s0 q := List.forall_mem_cons.mpr ⟨md_40 hY, List.forall_mem_cons.mpr ⟨md_41 hY, List.forall_mem_cons.mpr ⟨md_42 hY, List.forall_mem_cons.mpr ⟨md_43 hY, List.forall_mem_cons.mpr ⟨md_44 hY, List.forall_mem_cons.mpr ⟨md_45 hY, List.forall_mem_cons.mpr ⟨md_46 hY, List.forall_mem_cons.mpr ⟨md_47 hY, List.forall_mem_cons.mpr ⟨md_48 hY, List.forall_mem_cons.mpr ⟨md_49 hY, List.forall_mem_cons.mpr ⟨md_50 hY, List.forall_mem_cons.mpr ⟨md_51 hY, List.forall_mem_cons.mpr ⟨md_52 hY, List.forall_mem_cons.mpr ⟨md_53 hY, List.forall_mem_cons.mpr ⟨md_54 hY, List.forall_mem_cons.mpr ⟨md_55 hY, List.forall_mem_cons.mpr ⟨md_56 hY, List.forall_mem_cons.mpr ⟨md_57 hY, List.forall_mem_cons.mpr ⟨md_58 hY, List.forall_mem_cons.mpr ⟨md_59 hY, List.forall_mem_cons.mpr ⟨md_60 hY, List.forall_mem_cons.mpr ⟨md_61 hY, List.forall_mem_cons.mpr ⟨md_62 hY, List.forall_mem_cons.mpr ⟨md_63 hY, List.forall_mem_cons.mpr ⟨md_64 hY, List.forall_mem_cons.mpr ⟨md_65 hY, List.forall_mem_cons.mpr ⟨md_66 hY, List.forall_mem_cons.mpr ⟨md_67 hY, List.forall_mem_cons.mpr ⟨md_68 hY, List.forall_mem_cons.mpr ⟨md_69 hY, List.forall_mem_cons.mpr ⟨md_70 hY, List.forall_mem_cons.mpr ⟨md_71 hY, List.forall_mem_cons.mpr ⟨md_72 hY, List.forall_mem_cons.mpr ⟨md_73 hY, List.forall_mem_cons.mpr ⟨md_74 hY, List.forall_mem_cons.mpr ⟨md_75 hY, List.forall_mem_cons.mpr ⟨md_76 hY, List.forall_mem_cons.mpr ⟨md_77 hY, List.forall_mem_cons.mpr ⟨md_78 hY, List.forall_mem_cons.mpr ⟨md_79 hY, fun _ h => absurd h List.not_mem_nil⟩⟩⟩⟩⟩⟩⟩⟩⟩⟩⟩⟩⟩⟩⟩⟩⟩⟩⟩⟩⟩⟩⟩⟩⟩⟩⟩⟩⟩⟩⟩⟩⟩⟩⟩⟩⟩⟩⟩⟩
def md_L2 : List Nat := [80, 81, 82, 83, 84, 85, 86, 87, 88, 89, 90, 91, 92, 93, 94, 95, 96, 97, 98, 99, 100, 101, 102, 103, 104, 105, 106, 107, 108, 109, 110, 111, 112]
theorem md_ok2 {s0 : State} (hY : pk_Y s0) : ∀ q ∈ md_L2, pw_md s0 q := List.forall_mem_cons.mpr ⟨md_80 hY, List.forall_mem_cons.mpr ⟨md_81 hY, List.forall_mem_cons.mpr ⟨md_82 hY, List.forall_mem_cons.mpr ⟨md_83 hY, List.forall_mem_cons.mpr ⟨md_84 hY, List.forall_mem_cons.mpr ⟨md_85 hY, List.forall_mem_cons.mpr ⟨md_86 hY, List.forall_mem_cons.mpr ⟨md_87 hY, List.forall_mem_cons.mpr ⟨md_88 hY, List.forall_mem_cons.mpr ⟨md_89 hY, List.forall_mem_cons.mpr ⟨md_90 hY, List.forall_mem_cons.mpr ⟨md_91 hY, List.forall_mem_cons.mpr ⟨md_92 hY, List.forall_mem_cons.mpr ⟨md_93 hY, List.forall_mem_cons.mpr ⟨md_94 hY, List.forall_mem_cons.mpr ⟨md_95 hY, List.forall_mem_cons.mpr ⟨md_96 hY, List.forall_mem_cons.mpr ⟨md_97 hY, List.forall_mem_cons.mpr ⟨md_98 hY, List.forall_mem_cons.mpr ⟨md_99 hY, List.forall_mem_cons.mpr ⟨md_100 hY, List.forall_mem_cons.mpr ⟨md_101 hY, List.forall_mem_cons.mpr ⟨md_102 hY, List.forall_mem_cons.mpr ⟨md_103 hY, List.forall_mem_cons.mpr ⟨md_104 hY, List.forall_mem_cons.mpr ⟨md_105 hY, List.forall_mem_cons.mpr ⟨md_106 hY, List.forall_mem_cons.mpr ⟨md_107 hY, List.forall_mem_cons.mpr ⟨md_108 hY, List.forall_mem_cons.mpr ⟨md_109 hY, List.forall_mem_cons.mpr ⟨md_110 hY, List.forall_mem_cons.mpr ⟨md_111 hY, List.forall_mem_cons.mpr ⟨md_112 hY, fun _ h => absurd h List.not_mem_nil⟩⟩⟩⟩⟩⟩⟩⟩⟩⟩⟩⟩⟩⟩⟩⟩⟩⟩⟩⟩⟩⟩⟩⟩⟩⟩⟩⟩⟩⟩⟩⟩⟩
theorem md_split : md_L = md_L0 ++ (md_L1 ++ (md_L2)) := rfl
theorem md_ok {s0 : State} (hY : pk_Y s0) : ∀ q ∈ md_L, pw_md s0 q := by
  rw [md_split]
  exact List.forall_mem_append.mpr ⟨md_ok0 hY, List.forall_mem_append.mpr ⟨md_ok1 hY, md_ok2 hY⟩⟩
def im_L : List Nat := [0, 1, 2, 3, 4, 5, 6, 7, 8, 9, 10, 11, 12, 13, 14, 20, 23, 24, 25, 26, 27, 28, 29, 30, 31, 32, 33, 35, 36, 37, 38, 39, 40, 41, 42, 44, 45, 46, 48, 49, 50, 51, 52, 53, 54, 55, 56, 57, 58, 59, 60, 61, 62, 64, 65, 66, 67, 68, 69, 70, 71, 72, 73, 74, 75, 76, 77, 78, 79, 80, 81, 82, 83, 84, 85, 86, 87, 89, 90, 91, 92, 93, 94, 95, 96, 97, 98, 99, 100]
def im_L0 : List Nat := [0, 1, 2, 3, 4, 5, 6, 7, 8, 9, 10, 11, 12, 13, 14, 20, 23, 24, 25, 26, 27, 28, 29, 30, 31, 32, 33, 35, 36, 37, 38, 39, 40, 41, 42, 44, 45, 46, 48, 49]
theorem im_ok0 {s0 : State} (hY : pk_Y s0) : ∀ q ∈ im_L0, (Cond.instanceMethod (tb_nm q)).before #[] s0 = true := List.forall_mem_cons.mpr ⟨(hY _ wm_22 rfl), List.forall_mem_cons.mpr ⟨(hY _ wm_234 rfl), List.forall_mem_cons.mpr ⟨(hY _ wm_245 rfl), List.forall_mem_cons.mpr ⟨(hY _ wm_265 rfl), List.forall_mem_cons.mpr ⟨(hY _ wm_370 rfl), List.forall_mem_cons.mpr ⟨(hY _ wm_392 rfl), List.forall_mem_cons.mpr ⟨(hY _ wm_399 rfl), List.forall_mem_cons.mpr ⟨(hY _ wm_407 rfl), List.forall_mem_cons.mpr ⟨(hY _ wm_249 rfl), List.forall_mem_cons.mpr ⟨(hY _ wm_560 rfl), List.forall_mem_cons.mpr ⟨(hY _ wm_568 rfl), List.forall_mem_cons.mpr ⟨(hY _ wm_595 rfl), List.forall_mem_cons.mpr ⟨(hY _ wm_253 rfl), List.forall_mem_cons.mpr ⟨(hY _ wm_602 rfl), List.forall_mem_cons.mpr ⟨(hY _ wm_610 rfl), List.forall_mem_cons.mpr ⟨(hY _ wm_573 rfl), List.forall_mem_cons.mpr ⟨(hY _ wm_381 rfl), List.forall_mem_cons.mpr ⟨(hY _ wm_551 rfl), List.forall_mem_cons.mpr ⟨(hY _ wm_417 rfl), List.forall_mem_cons.mpr ⟨(hY _ wm_421 rfl), List.forall_mem_cons.mpr ⟨(hY _ wm_425 rfl), List.forall_mem_cons.mpr ⟨(hY _ wm_433 rfl), List.forall_mem_cons.mpr ⟨(hY _ wm_441 rfl), List.forall_mem_cons.mpr ⟨(hY _ wm_453 rfl), List.forall_mem_cons.mpr ⟨(hY _ wm_481 rfl), List.forall_mem_cons.mpr ⟨(hY _ wm_528 rfl), List.forall_mem_cons.mpr ⟨(hY _ wm_459 rfl), List.forall_mem_cons.mpr ⟨(hY _ wm_516 rfl), List.forall_mem_cons.mpr ⟨(hY _ wm_466 rfl), List.forall_mem_cons.mpr ⟨(hY _ wm_474 rfl), List.forall_mem_cons.mpr ⟨(hY _ wm_470 rfl), List.forall_mem_cons.mpr ⟨(hY _ wm_616 rfl), List.forall_mem_cons.mpr ⟨(hY _ wm_732 rfl), List.forall_mem_cons.mpr ⟨(hY _ wm_736 rfl), List.forall_mem_cons.mpr ⟨(hY _ wm_741 rfl), List.forall_mem_cons.mpr ⟨(hY _ wm_753 rfl), List.forall_mem_cons.mpr ⟨(hY _ wm_745 rfl), List.forall_mem_cons.mpr ⟨(hY _ wm_764 rfl), List.forall_mem_cons.mpr ⟨(hY _ wm_756 rfl), List.forall_mem_cons.mpr ⟨(hY _ wm_767 rfl), fun _ h => absurd h List.not_mem_nil⟩⟩⟩⟩⟩⟩⟩⟩⟩⟩⟩⟩⟩⟩⟩⟩⟩⟩⟩⟩⟩⟩⟩⟩⟩⟩⟩⟩⟩⟩⟩⟩⟩⟩⟩⟩⟩⟩⟩⟩
def im_L1 : List Nat := [50, 51, 52, 53, 54, 55, 56, 57, 58, 59, 60, 61, 62, 64, 65, 66, 67, 68, 69, 70, 71, 72, 73, 74, 75, 76, 77, 78, 79, 80, 81, 82, 83, 84, 85, 86, 87, 89, 90, 91]
theorem im_ok1 {s0 : State} (hY : pk_Y s0) : ∀ q ∈ im_L1, (Cond.instanceMethod (tb_nm q)).before #[] s0 = true := List.forall_mem_cons.mpr ⟨(hY _ wm_771 rfl), List.forall_mem_cons.mpr ⟨(hY _ wm_795 rfl), List.forall_mem_cons.mpr ⟨(hY _ wm_787 rfl), List.forall_mem_cons.mpr ⟨(hY _ wm_799 rfl), List.forall_mem_cons.mpr ⟨(hY _ wm_791 rfl), List.forall_mem_cons.mpr ⟨(hY _ wm_783 rfl), List.forall_mem_cons.mpr ⟨(hY _ wm_823 rfl), List.forall_mem_cons.mpr ⟨(hY _ wm_827 rfl), List.forall_mem_cons.mpr ⟨(hY _ wm_815 rfl), List.forall_mem_cons.mpr ⟨(hY _ wm_819 rfl), List.forall_mem_cons.mpr ⟨(hY _ wm_811 rfl), List.forall_mem_cons.mpr ⟨(hY _ wm_807 rfl), List.forall_mem_cons.mpr ⟨(hY _ wm_803 rfl), List.forall_mem_cons.mpr ⟨(hY _ wm_835 rfl), List.forall_mem_cons.mpr ⟨(hY _ wm_839 rfl), List.forall_mem_cons.mpr ⟨(hY _ wm_831 rfl), List.forall_mem_cons.mpr ⟨(hY _ wm_775 rfl), List.forall_mem_cons.mpr ⟨(hY _ wm_842 rfl), List.forall_mem_cons.mpr ⟨(hY _ wm_846 rfl), List.forall_mem_cons.mpr ⟨(hY _ wm_850 rfl), List.forall_mem_cons.mpr ⟨(hY _ wm_854 rfl), List.forall_mem_cons.mpr ⟨(hY _ wm_858 rfl), List.forall_mem_cons.mpr ⟨(hY _ wm_862 rfl), List.forall_mem_cons.mpr ⟨(hY _ wm_866 rfl), List.forall_mem_cons.mpr ⟨(hY _ wm_110 rfl), List.forall_mem_cons.mpr ⟨(hY _ wm_68 rfl), List.forall_mem_cons.mpr ⟨(hY _ wm_384 rfl), List.forall_mem_cons.mpr ⟨(hY _ wm_444 rfl), List.forall_mem_cons.mpr ⟨(hY _ wm_48 rfl), List.forall_mem_cons.mpr ⟨(hY _ wm_84 rfl), List.forall_mem_cons.mpr ⟨(hY _ wm_436 rfl), List.forall_mem_cons.mpr ⟨(hY _ wm_428 rfl), List.forall_mem_cons.mpr ⟨(hY _ wm_359 rfl), List.forall_mem_cons.mpr ⟨(hY _ wm_355 rfl), List.forall_mem_cons.mpr ⟨(hY _ wm_257 rfl), List.forall_mem_cons.mpr ⟨(hY _ wm_364 rfl), List.forall_mem_cons.mpr ⟨(hY _ wm_30 rfl), List.forall_mem_cons.mpr ⟨(hY _ wm_105 rfl), List.forall_mem_cons.mpr ⟨(hY _ wm_350 rfl), List.forall_mem_cons.mpr ⟨(hY _ wm_343 rfl), fun _ h => absurd h List.not_mem_nil⟩⟩⟩⟩⟩⟩⟩⟩⟩⟩⟩⟩⟩⟩⟩⟩⟩⟩⟩⟩⟩⟩⟩⟩⟩⟩⟩⟩⟩⟩⟩⟩⟩⟩⟩⟩⟩⟩⟩⟩
def im_L2 : List Nat := [92, 93, 94, 95, 96, 97, 98, 99, 100]
theorem im_ok2 {s0 : State} (hY : pk_Y s0) : ∀ q ∈ im_L2, (Cond.instanceMethod (tb_nm q)).before #[] s0 = true := List.forall_mem_cons.mpr ⟨(hY _ wm_501 rfl), List.forall_mem_cons.mpr ⟨(hY _ wm_144 rfl), List.forall_mem_cons.mpr ⟨(hY _ wm_484 rfl), List.forall_mem_cons.mpr ⟨(hY _ wm_488 rfl), List.forall_mem_cons.mpr ⟨(hY _ wm_519 rfl), List.forall_mem_cons.mpr ⟨(hY _ wm_524 rfl), List.forall_mem_cons.mpr ⟨(hY _ wm_494 rfl), List.forall_mem_cons.mpr ⟨(hY _ wm_498 rfl), List.forall_mem_cons.mpr ⟨(hY _ wm_509 rfl), fun _ h => absurd h List.not_mem_nil⟩⟩⟩⟩⟩⟩⟩⟩⟩
theorem im_split : im_L = im_L0 ++ (im_L1 ++ (im_L2)) := rfl
theorem im_ok {s0 : State} (hY : pk_Y s0) : ∀ q ∈ im_L, (Cond.instanceMethod (tb_nm q)).before #[] s0 = true := by
  rw [im_split]
  exact List.forall_mem_append.mpr ⟨im_ok0 hY, List.forall_mem_append.mpr ⟨im_ok1 hY, im_ok2 hY⟩⟩
def sm_L : List Nat := [15, 16, 17, 18, 19, 21, 22, 34, 43, 47, 63, 88, 101, 102, 103, 104, 105, 106, 107, 108, 109, 110, 111, 112]
theorem sm_ok {s0 : State} (hY : pk_Y s0) : ∀ q ∈ sm_L, (Cond.static (tb_nm q)).before #[] s0 = true := List.forall_mem_cons.mpr ⟨(hY _ wm_272 rfl), List.forall_mem_cons.mpr ⟨(hY _ wm_374 rfl), List.forall_mem_cons.mpr ⟨(hY _ wm_269 rfl), List.forall_mem_cons.mpr ⟨(hY _ wm_377 rfl), List.forall_mem_cons.mpr ⟨(hY _ wm_411 rfl), List.forall_mem_cons.mpr ⟨(hY _ wm_241 rfl), List.forall_mem_cons.mpr ⟨(hY _ wm_238 rfl), List.forall_mem_cons.mpr ⟨(hY _ wm_462 rfl), List.forall_mem_cons.mpr ⟨(hY _ wm_749 rfl), List.forall_mem_cons.mpr ⟨(hY _ wm_760 rfl), List.forall_mem_cons.mpr ⟨(hY _ wm_779 rfl), List.forall_mem_cons.mpr ⟨(hY _ wm_347 rfl), List.forall_mem_cons.mpr ⟨(hY _ wm_512 rfl), List.forall_mem_cons.mpr ⟨(hY _ wm_505 rfl), List.forall_mem_cons.mpr ⟨(hY _ wm_261 rfl), List.forall_mem_cons.mpr ⟨(hY _ wm_367 rfl), List.forall_mem_cons.mpr ⟨(hY _ wm_389 rfl), List.forall_mem_cons.mpr ⟨(hY _ wm_396 rfl), List.forall_mem_cons.mpr ⟨(hY _ wm_403 rfl), List.forall_mem_cons.mpr ⟨(hY _ wm_557 rfl), List.forall_mem_cons.mpr ⟨(hY _ wm_564 rfl), List.forall_mem_cons.mpr ⟨(hY _ wm_592 rfl), List.forall_mem_cons.mpr ⟨(hY _ wm_599 rfl), List.forall_mem_cons.mpr ⟨(hY _ wm_607 rfl), fun _ h => absurd h List.not_mem_nil⟩⟩⟩⟩⟩⟩⟩⟩⟩⟩⟩⟩⟩⟩⟩⟩⟩⟩⟩⟩⟩⟩⟩⟩
def sv_L : List Nat := [1, 2, 3, 4, 5, 6, 7, 8, 9, 10, 11, 12, 13, 14, 20, 23, 24, 25, 26, 27, 28, 29, 30, 31, 32, 33, 35, 36, 37, 38, 40, 41, 42, 44, 45, 46, 48, 49, 50, 51, 52, 53, 54, 55, 56, 57, 58, 59, 60, 61, 62, 64, 65, 66, 67, 68, 69, 70, 71, 72, 73, 74, 77, 78, 81, 82, 83, 84, 85, 86, 89, 90, 91, 92, 94, 95, 96, 97, 98, 99, 100]
def sv_L0 : List Nat := [1, 2, 3, 4, 5, 6, 7, 8, 9, 10, 11, 12, 13, 14, 20, 23, 24, 25, 26, 27, 28, 29, 30, 31, 32, 33, 35, 36, 37, 38, 40, 41, 42, 44, 45, 46, 48, 49, 50, 51]
theorem sv_ok0 {s0 : State} (hY : pk_Y s0) : ∀ q ∈ sv_L0, (Cond.selects (tb_nm q).cls (tb_nm q) (tb_nm q)).before #[] s0 = true := List.forall_mem_cons.mpr ⟨(hY _ wm_235 rfl), List.forall_mem_cons.mpr ⟨(hY _ wm_246 rfl), List.forall_mem_cons.mpr ⟨(hY _ wm_266 rfl), List.forall_mem_cons.mpr ⟨(hY _ wm_371 rfl), List.forall_mem_cons.mpr ⟨(hY _ wm_393 rfl), List.forall_mem_cons.mpr ⟨(hY _ wm_400 rfl), List.forall_mem_cons.mpr ⟨(hY _ wm_408 rfl), List.forall_mem_cons.mpr ⟨(hY _ wm_250 rfl), List.forall_mem_cons.mpr ⟨(hY _ wm_561 rfl), List.forall_mem_cons.mpr ⟨(hY _ wm_569 rfl), List.forall_mem_cons.mpr ⟨(hY _ wm_596 rfl), List.forall_mem_cons.mpr ⟨(hY _ wm_254 rfl), List.forall_mem_cons.mpr ⟨(hY _ wm_603 rfl), List.forall_mem_cons.mpr ⟨(hY _ wm_611 rfl), List.forall_mem_cons.mpr ⟨(hY _ (by decide +kernel) rfl), List.forall_mem_cons.mpr ⟨(hY _ (by decide +kernel) rfl), List.forall_mem_cons.mpr ⟨(hY _ (by decide +kernel) rfl), List.forall_mem_cons.mpr ⟨(hY _ (by decide +kernel) rfl), List.forall_mem_cons.mpr ⟨(hY _ (by decide +kernel) rfl), List.forall_mem_cons.mpr ⟨(hY _ (by decide +kernel) rfl), List.forall_mem_cons.mpr ⟨(hY _ (by decide +kernel) rfl), List.forall_mem_cons.mpr ⟨(hY _ (by decide +kernel) rfl), List.forall_mem_cons.mpr ⟨(hY _ (by decide +kernel) rfl), List.forall_mem_cons.mpr ⟨(hY _ (by decide +kernel) rfl), List.forall_mem_cons.mpr ⟨(hY _ (by decide +kernel) rfl), List.forall_mem_cons.mpr ⟨(hY _ (by decide +kernel) rfl), List.forall_mem_cons.mpr ⟨(hY _ (by decide +kernel) rfl), List.forall_mem_cons.mpr ⟨(hY _ (by decide +kernel) rfl), List.forall_mem_cons.mpr ⟨(hY _ (by decide +kernel) rfl), List.forall_mem_cons.mpr ⟨(hY _ (by decide +kernel) rfl), List.forall_mem_cons.mpr ⟨(hY _ wm_733 rfl), List.forall_mem_cons.mpr ⟨(hY _ wm_737 rfl), List.forall_mem_cons.mpr ⟨(hY _ wm_742 rfl), List.forall_mem_cons.mpr ⟨(hY _ (by decide +kernel) rfl), List.forall_mem_cons.mpr ⟨(hY _ wm_746 rfl), List.forall_mem_cons.mpr ⟨(hY _ (by decide +kernel) rfl), List.forall_mem_cons.mpr ⟨(hY _ wm_757 rfl), List.forall_mem_cons.mpr ⟨(hY _ wm_768 rfl), List.forall_mem_cons.mpr ⟨(hY _ wm_772 rfl), List.forall_mem_cons.mpr ⟨(hY _ (by decide +kernel) rfl), fun _ h => absurd h List.not_mem_nil⟩⟩⟩⟩⟩⟩⟩⟩⟩⟩⟩⟩⟩⟩⟩⟩⟩⟩⟩⟩⟩⟩⟩⟩⟩⟩⟩⟩⟩⟩⟩⟩⟩⟩⟩⟩⟩⟩⟩⟩
def sv_L1 : List Nat := [52, 53, 54, 55, 56, 57, 58, 59, 60, 61, 62, 64, 65, 66, 67, 68, 69, 70, 71, 72, 73, 74, 77, 78, 81, 82, 83, 84, 85, 86, 89, 90, 91, 92, 94, 95, 96, 97, 98, 99]
theorem sv_ok1 {s0 : State} (hY : pk_Y s0) : ∀ q ∈ sv_L1, (Cond.selects (tb_nm q).cls (tb_nm q) (tb_nm q)).before #[] s0 = true := List.forall_mem_cons.mpr ⟨(hY _ (by decide +kernel) rfl), List.forall_mem_cons.mpr ⟨(hY _ (by decide +kernel) rfl), List.forall_mem_cons.mpr ⟨(hY _ (by decide +kernel) rfl), List.forall_mem_cons.mpr ⟨(hY _ (by decide +kernel) rfl), List.forall_mem_cons.mpr ⟨(hY _ (by decide +kernel) rfl), List.forall_mem_cons.mpr ⟨(hY _ (by decide +kernel) rfl), List.forall_mem_cons.mpr ⟨(hY _ (by decide +kernel) rfl), List.forall_mem_cons.mpr ⟨(hY _ (by decide +kernel) rfl), List.forall_mem_cons.mpr ⟨(hY _ (by decide +kernel) rfl), List.forall_mem_cons.mpr ⟨(hY _ (by decide +kernel) rfl), List.forall_mem_cons.mpr ⟨(hY _ (by decide +kernel) rfl), List.forall_mem_cons.mpr ⟨(hY _ (by decide +kernel) rfl), List.forall_mem_cons.mpr ⟨(hY _ (by decide +kernel) rfl), List.forall_mem_cons.mpr ⟨(hY _ (by decide +kernel) rfl), List.forall_mem_cons.mpr ⟨(hY _ wm_776 rfl), List.forall_mem_cons.mpr ⟨(hY _ wm_843 rfl), List.forall_mem_cons.mpr ⟨(hY _ wm_847 rfl), List.forall_mem_cons.mpr ⟨(hY _ wm_851 rfl), List.forall_mem_cons.mpr ⟨(hY _ wm_855 rfl), List.forall_mem_cons.mpr ⟨(hY _ wm_859 rfl), List.forall_mem_cons.mpr ⟨(hY _ wm_863 rfl), List.forall_mem_cons.mpr ⟨(hY _ wm_867 rfl), List.forall_mem_cons.mpr ⟨(hY _ wm_385 rfl), List.forall_mem_cons.mpr ⟨(hY _ wm_445 rfl), List.forall_mem_cons.mpr ⟨(hY _ wm_437 rfl), List.forall_mem_cons.mpr ⟨(hY _ wm_429 rfl), List.forall_mem_cons.mpr ⟨(hY _ wm_360 rfl), List.forall_mem_cons.mpr ⟨(hY _ wm_356 rfl), List.forall_mem_cons.mpr ⟨(hY _ wm_258 rfl), List.forall_mem_cons.mpr ⟨(hY _ (by decide +kernel) rfl), List.forall_mem_cons.mpr ⟨(hY _ wm_106 rfl), List.forall_mem_cons.mpr ⟨(hY _ wm_351 rfl), List.forall_mem_cons.mpr ⟨(hY _ wm_344 rfl), List.forall_mem_cons.mpr ⟨(hY _ wm_502 rfl), List.forall_mem_cons.mpr ⟨(hY _ wm_485 rfl), List.forall_mem_cons.mpr ⟨(hY _ wm_489 rfl), List.forall_mem_cons.mpr ⟨(hY _ wm_520 rfl), List.forall_mem_cons.mpr ⟨(hY _ (by decide +kernel) rfl), List.forall_mem_cons.mpr ⟨(hY _ (by decide +kernel) rfl), List.forall_mem_cons.mpr ⟨(hY _ (by decide +kernel) rfl), fun _ h => absurd h List.not_mem_nil⟩⟩⟩⟩⟩⟩⟩⟩⟩⟩⟩⟩⟩⟩⟩⟩⟩⟩⟩⟩⟩⟩⟩⟩⟩⟩⟩⟩⟩⟩⟩⟩⟩⟩⟩⟩⟩⟩⟩⟩
def sv_L2 : List Nat := [100]
theorem sv_ok2 {s0 : State} (hY : pk_Y s0) : ∀ q ∈ sv_L2, (Cond.selects (tb_nm q).cls (tb_nm q) (tb_nm q)).before #[] s0 = true := List.forall_mem_cons.mpr ⟨(hY _ (by decide +kernel) rfl), fun _ h => absurd h List.not_mem_nil⟩
theorem sv_split : sv_L = sv_L0 ++ (sv_L1 ++ (sv_L2)) := rfl
theorem sv_ok {s0 : State} (hY : pk_Y s0) : ∀ q ∈ sv_L, (Cond.selects (tb_nm q).cls (tb_nm q) (tb_nm q)).before #[] s0 = true := by
  rw [sv_split]
  exact List.forall_mem_append.mpr ⟨sv_ok0 hY, List.forall_mem_append.mpr ⟨sv_ok1 hY, sv_ok2 hY⟩⟩
def ps_L : List (Nat × Nat × Nat) := [(6, 139, 3), (6, 149, 1), (6, 239, 4), (6, 245, 2)]
def tb_en : Nat → String
  | 1 => "ANSWERED"
  | 2 => "STALE"
  | 3 => "CIRCLE"
  | 4 => "GIVEN_UP"
  | _ => ""
theorem ps_ok {s0 : State} (hY : pk_Y s0) : ∀ q ∈ ps_L, (Cond.fieldLink (tb_on q.1) q.2.1 "MemoRuntime$Outcome" (tb_en q.2.2) "LMemoRuntime$Outcome;").before #[] s0 = true := List.forall_mem_cons.mpr ⟨(hY _ wm_413 rfl), List.forall_mem_cons.mpr ⟨(hY _ wm_447 rfl), List.forall_mem_cons.mpr ⟨(hY _ wm_449 rfl), List.forall_mem_cons.mpr ⟨(hY _ wm_455 rfl), fun _ h => absurd h List.not_mem_nil⟩⟩⟩⟩
def tb_bn : Nat → MethodName
  | 1000 => ⟨"java/lang/Object", "<init>", "()V"⟩
  | 1001 => ⟨"java/lang/Math", "max", "(II)I"⟩
  | 1002 => ⟨"java/lang/Math", "min", "(II)I"⟩
  | 1003 => ⟨"java/lang/System", "arraycopy", "(Ljava/lang/Object;ILjava/lang/Object;II)V"⟩
  | _ => ⟨"", "", ""⟩
def bi_L : List (Nat × Nat × Nat) := [(0, 3, 1000), (1, 3, 1000), (2, 3, 1000), (3, 3, 1000), (4, 3, 1000), (5, 3, 1000), (6, 1, 1000), (6, 221, 1001), (6, 289, 1003), (6, 301, 1002), (7, 1, 1000)]
theorem bi_ok {s0 : State} (hY : pk_Y s0) : ∀ q ∈ bi_L, (Cond.methodLink (tb_on q.1) q.2.1 (tb_bn q.2.2)).before #[] s0 = true := List.forall_mem_cons.mpr ⟨(hY _ wm_112 rfl), List.forall_mem_cons.mpr ⟨(hY _ wm_70 rfl), List.forall_mem_cons.mpr ⟨(hY _ wm_50 rfl), List.forall_mem_cons.mpr ⟨(hY _ wm_86 rfl), List.forall_mem_cons.mpr ⟨(hY _ wm_32 rfl), List.forall_mem_cons.mpr ⟨(hY _ wm_146 rfl), List.forall_mem_cons.mpr ⟨(hY _ wm_24 rfl), List.forall_mem_cons.mpr ⟨(hY _ wm_553 rfl), List.forall_mem_cons.mpr ⟨(hY _ wm_530 rfl), List.forall_mem_cons.mpr ⟨(hY _ wm_476 rfl), List.forall_mem_cons.mpr ⟨(hY _ wm_618 rfl), fun _ h => absurd h List.not_mem_nil⟩⟩⟩⟩⟩⟩⟩⟩⟩⟩⟩
theorem bo_1 {s0 : State} (hY : pk_Y s0) : (Jvm.Cond.instanceMethod ({ cls := "java/lang/Object", name := "<init>", desc := "()V" } : Jvm.MethodName)).before #[] s0 = true := (hY _ wm_25 rfl)
theorem bo_3 {s0 : State} (hY : pk_Y s0) : (Jvm.Cond.static ({ cls := "java/lang/Math", name := "max", desc := "(II)I" } : Jvm.MethodName)).before #[] s0 = true := (hY _ wm_554 rfl)
theorem bo_4 {s0 : State} (hY : pk_Y s0) : (Jvm.Cond.static ({ cls := "java/lang/Math", name := "min", desc := "(II)I" } : Jvm.MethodName)).before #[] s0 = true := (hY _ wm_477 rfl)
theorem bo_5 {s0 : State} (hY : pk_Y s0) : (Jvm.Cond.static ({ cls := "java/lang/System", name := "arraycopy", desc := "(Ljava/lang/Object;ILjava/lang/Object;II)V" } : Jvm.MethodName)).before #[] s0 = true := (hY _ wm_531 rfl)
theorem bo_6 {s0 : State} (hY : pk_Y s0) : (Jvm.Cond.native ({ cls := "java/lang/System", name := "arraycopy", desc := "(Ljava/lang/Object;ILjava/lang/Object;II)V" } : Jvm.MethodName)).before #[] s0 = true := (hY _ wm_532 rfl)
theorem bo_7 {s0 : State} (hY : pk_Y s0) : (Jvm.Cond.initialized "java/lang/Math").before #[] s0 = true := (hY _ wm_15 rfl)
theorem bo_8 {s0 : State} (hY : pk_Y s0) : (Jvm.Cond.initialized "java/lang/System").before #[] s0 = true := (hY _ wm_16 rfl)
theorem bo_2 {s0 : State} (hY : pk_Y s0) : (Cond.code Lib.objectInit ⟨#[0xb1]⟩ 1 none).before #[] s0 = true := hY _ (by decide +kernel) rfl
theorem bo_9 {s0 : State} (hY : pk_Y s0) : (Cond.code Lib.Math.max.name Lib.Math.max.code 2 (some .int)).before #[] s0 = true := hY _ (by decide +kernel) rfl
theorem bo_10 {s0 : State} (hY : pk_Y s0) : (Cond.code Lib.Math.min.name Lib.Math.min.code 2 (some .int)).before #[] s0 = true := hY _ (by decide +kernel) rfl
theorem ac_int {s0 : State} (hY : pk_Y s0) : (Cond.arrayClass .int).before #[] s0 = true := (hY _ wm_64 rfl)
theorem ac_char {s0 : State} (hY : pk_Y s0) : (Cond.arrayClass .char).before #[] s0 = true := (hY _ wm_43 rfl)
theorem ac_boolean {s0 : State} (hY : pk_Y s0) : (Cond.arrayClass .boolean).before #[] s0 = true := (hY _ wm_101 rfl)
theorem ac_long {s0 : State} (hY : pk_Y s0) : (Cond.arrayClass .long).before #[] s0 = true := (hY _ wm_870 rfl)
theorem ul_0 : ∀ w ∈ u_ws "MemoRuntime$Cell" tc_T0 7, w ∈ lw_tbl := by decide +kernel
theorem ul_1 : ∀ w ∈ u_ws "MemoRuntime$Edits" tc_T1 2, w ∈ lw_tbl := by decide +kernel
theorem ul_2 : ∀ w ∈ u_ws "MemoRuntime$Inputs" tc_T2 3, w ∈ lw_tbl := by decide +kernel
theorem ul_3 : ∀ w ∈ u_ws "MemoRuntime$RecentOrder" tc_T3 4, w ∈ lw_tbl := by decide +kernel
theorem ul_4 : ∀ w ∈ u_ws "MemoRuntime$Text" tc_T4 2, w ∈ lw_tbl := by decide +kernel
theorem ul_5 : ∀ w ∈ u_ws "MemoRuntime$Working" tc_T5 11, w ∈ lw_tbl := by decide +kernel
theorem ul_6 : ∀ w ∈ u_ws "MemoRuntime" tc_T6 15, w ∈ lw_tbl := by decide +kernel
theorem ul_7 : ∀ w ∈ u_ws "MemoRuntimeModel" tc_T7 37, w ∈ lw_tbl := by decide +kernel
end
section
/-! Every row of the tables is right: by a check that is computed, and by what the words mean. -/
def px_L : List (Nat × Nat × Nat × Nat) := [(7, 61, 152, 1001), (13, 11, 201, 1000), (15, 9, 201, 1000), (20, 11, 211, 1002)]
def pk_fn (a b : Nat) : Bool := ((vwCl.getD a ("", fun _ => ("", "", "", false), 0)).2.1 b).2.2.2
def pk_bw (i pc : Nat) (ins : Instr) (a b : Nat) (v : Int32) (ts : List Nat) : Bool := match ins with
  | .iconst n => decide (Int32.ofInt n = v)
  | .bipush n => decide ((Int8.ofInt n).toInt32 = v)
  | .sipush n => decide ((Int16.ofInt n).toInt32 = v)
  | .iinc _ n => decide (Int32.ofInt n = v)
  | .ldc2_w idx => decide ((tb_ow i, idx, a) ∈ pl_L)
  | .goto off => decide ((pc : Int) + off = (a : Int))
  | .ifCond _ off => decide ((pc : Int) + off = (a : Int))
  | .if_icmp _ off => decide ((pc : Int) + off = (a : Int))
  | .if_acmp _ off => decide ((pc : Int) + off = (a : Int))
  | .tableswitch d lo hi offs => decide (lo = 0 ∧ hi + 1 = (ts.length : Int) ∧ (pc : Int) + d = (a : Int)) && (List.range ts.length).all (fun k => match offs[k]? with
    | some off => decide ((pc : Int) + off = ((ts.getD k 0 : Nat) : Int))
    | none => false)
  | .getfield idx => decide ((tb_ow i, idx, a, b) ∈ pf_L)
  | .putfield idx => decide ((tb_ow i, idx, a, b) ∈ pf_L) && (decide (pk_fn a b = false) || decide ((tb_nm i).name = "<init>" ∧ tb_cn a = (tb_nm i).cls))
  | .getstatic idx => decide ((tb_ow i, idx, a) ∈ ps_L)
  | .new idx => if 1000 ≤ a then decide ((i, pc, idx, a) ∈ px_L) else decide ((tb_ow i, idx, a) ∈ pn_L)
  | .newarray t => decide (t = .int ∨ t = .char ∨ t = .boolean ∨ t = .long)
  | .anewarray idx => decide ((tb_ow i, idx, a) ∈ pa_L)
  | .invokevirtual idx => decide ((tb_ow i, idx, a) ∈ pj_L ∧ a ∈ md_L ∧ a ∈ im_L ∧ a ∈ sv_L ∧ tb_cn (tb_rc a) = (tb_nm a).cls ∧ (parseMethodDescriptor (tb_nm a).desc).map (fun d => d.parameters.length + 1) = some b)
  | .invokestatic idx => if 1001 ≤ a then decide ((tb_ow i, idx, a) ∈ bi_L ∧ a ≤ 1003) else decide ((tb_ow i, idx, a) ∈ pj_L ∧ a ∈ md_L ∧ a ∈ sm_L ∧ (parseMethodDescriptor (tb_nm a).desc).map (fun d => d.parameters.length) = some b)
  | .invokespecial idx => if 1000 ≤ a then decide ((tb_ow i, idx, a) ∈ bi_L ∧ a = 1000) else decide ((tb_ow i, idx, a) ∈ pj_L ∧ a ∈ md_L ∧ a ∈ im_L ∧ tb_hh a = [] ∧ tb_re a = none ∧ (tb_nm a).name = "<init>" ∧ (parseMethodDescriptor (tb_nm a).desc).map (fun d => d.parameters.length + 1) = some b)
  | _ => true
def pk_b (i : Nat) (q : tb_Row) : Bool := decide (decode (tb_by i) q.1 = .ok (q.2.1, pk_len q.2.2.2.1 q.2.1)) && pk_bw i q.1 q.2.1 q.2.2.1 q.2.2.2.1 q.2.2.2.2.1 q.2.2.2.2.2
theorem ck_0_0 : tl_0_0.all (pk_b 0) = true := by decide +kernel
theorem ck_0_1 : tl_0_1.all (pk_b 0) = true := by decide +kernel
theorem ck_0 : tl_0.all (pk_b 0) = true := by
  unfold tl_0
  simp only [List.all_append, ck_0_0, ck_0_1, Bool.and_self]
theorem ck_1_0 : tl_1_0.all (pk_b 1) = true := by decide +kernel
theorem ck_1 : tl_1.all (pk_b 1) = true := ck_1_0
theorem ck_2_0 : tl_2_0.all (pk_b 2) = true := by decide +kernel
theorem ck_2 : tl_2.all (pk_b 2) = true := ck_2_0
theorem ck_3_0 : tl_3_0.all (pk_b 3) = true := by decide +kernel
theorem ck_3 : tl_3.all (pk_b 3) = true := ck_3_0
theorem ck_4_0 : tl_4_0.all (pk_b 4) = true := by decide +kernel
theorem ck_4 : tl_4.all (pk_b 4) = true := ck_4_0
theorem ck_5_0 : tl_5_0.all (pk_b 5) = true := by decide +kernel
theorem ck_5 : tl_5.all (pk_b 5) = true := ck_5_0
theorem ck_6_0 : tl_6_0.all (pk_b 6) = true := by decide +kernel
theorem ck_6 : tl_6.all (pk_b 6) = true := ck_6_0
theorem ck_7_0 : tl_7_0.all (pk_b 7) = true := by decide +kernel
theorem ck_7 : tl_7.all (pk_b 7) = true := ck_7_0
theorem ck_8_0 : tl_8_0.all (pk_b 8) = true := by decide +kernel
theorem ck_8 : tl_8.all (pk_b 8) = true := ck_8_0
theorem ck_9_0 : tl_9_0.all (pk_b 9) = true := by decide +kernel
theorem ck_9 : tl_9.all (pk_b 9) = true := ck_9_0
theorem ck_10_0 : tl_10_0.all (pk_b 10) = true := by decide +kernel
theorem ck_10 : tl_10.all (pk_b 10) = true := ck_10_0
theorem ck_11_0 : tl_11_0.all (pk_b 11) = true := by decide +kernel
theorem ck_11 : tl_11.all (pk_b 11) = true := ck_11_0
theorem ck_12_0 : tl_12_0.all (pk_b 12) = true := by decide +kernel
theorem ck_12 : tl_12.all (pk_b 12) = true := ck_12_0
theorem ck_13_0 : tl_13_0.all (pk_b 13) = true := by decide +kernel
theorem ck_13 : tl_13.all (pk_b 13) = true := ck_13_0
theorem ck_14_0 : tl_14_0.all (pk_b 14) = true := by decide +kernel
theorem ck_14 : tl_14.all (pk_b 14) = true := ck_14_0
theorem ck_15_0 : tl_15_0.all (pk_b 15) = true := by decide +kernel
theorem ck_15 : tl_15.all (pk_b 15) = true := ck_15_0
theorem ck_16_0 : tl_16_0.all (pk_b 16) = true := by decide +kernel
theorem ck_16 : tl_16.all (pk_b 16) = true := ck_16_0
theorem ck_17_0 : tl_17_0.all (pk_b 17) = true := by decide +kernel
theorem ck_17 : tl_17.all (pk_b 17) = true := ck_17_0
theorem ck_18_0 : tl_18_0.all (pk_b 18) = true := by decide +kernel
theorem ck_18 : tl_18.all (pk_b 18) = true := ck_18_0
theorem ck_19_0 : tl_19_0.all (pk_b 19) = true := by decide +kernel
theorem ck_19 : tl_19.all (pk_b 19) = true := ck_19_0
theorem ck_20_0 : tl_20_0.all (pk_b 20) = true := by decide +kernel
theorem ck_20 : tl_20.all (pk_b 20) = true := ck_20_0
theorem ck_21_0 : tl_21_0.all (pk_b 21) = true := by decide +kernel
theorem ck_21 : tl_21.all (pk_b 21) = true := ck_21_0
theorem ck_22_0 : tl_22_0.all (pk_b 22) = true := by decide +kernel
theorem ck_22 : tl_22.all (pk_b 22) = true := ck_22_0
theorem ck_23_0 : tl_23_0.all (pk_b 23) = true := by decide +kernel
theorem ck_23 : tl_23.all (pk_b 23) = true := ck_23_0
theorem ck_24_0 : tl_24_0.all (pk_b 24) = true := by decide +kernel
theorem ck_24 : tl_24.all (pk_b 24) = true := ck_24_0
theorem ck_25_0 : tl_25_0.all (pk_b 25) = true := by decide +kernel
theorem ck_25_1 : tl_25_1.all (pk_b 25) = true := by decide +kernel
theorem ck_25 : tl_25.all (pk_b 25) = true := by
  unfold tl_25
  simp only [List.all_append, ck_25_0, ck_25_1, Bool.and_self]
theorem ck_26_0 : tl_26_0.all (pk_b 26) = true := by decide +kernel
theorem ck_26 : tl_26.all (pk_b 26) = true := ck_26_0
theorem ck_27_0 : tl_27_0.all (pk_b 27) = true := by decide +kernel
theorem ck_27 : tl_27.all (pk_b 27) = true := ck_27_0
theorem ck_28_0 : tl_28_0.all (pk_b 28) = true := by decide +kernel
theorem ck_28 : tl_28.all (pk_b 28) = true := ck_28_0
theorem ck_29_0 : tl_29_0.all (pk_b 29) = true := by decide +kernel
theorem ck_29 : tl_29.all (pk_b 29) = true := ck_29_0
theorem ck_30_0 : tl_30_0.all (pk_b 30) = true := by decide +kernel
theorem ck_30 : tl_30.all (pk_b 30) = true := ck_30_0
theorem ck_31_0 : tl_31_0.all (pk_b 31) = true := by decide +kernel
theorem ck_31 : tl_31.all (pk_b 31) = true := ck_31_0
theorem ck_32_0 : tl_32_0.all (pk_b 32) = true := by decide +kernel
theorem ck_32 : tl_32.all (pk_b 32) = true := ck_32_0
theorem ck_33_0 : tl_33_0.all (pk_b 33) = true := by decide +kernel
theorem ck_33 : tl_33.all (pk_b 33) = true := ck_33_0
theorem ck_34_0 : tl_34_0.all (pk_b 34) = true := by decide +kernel
theorem ck_34 : tl_34.all (pk_b 34) = true := ck_34_0
theorem ck_35_0 : tl_35_0.all (pk_b 35) = true := by decide +kernel
theorem ck_35 : tl_35.all (pk_b 35) = true := ck_35_0
theorem ck_36_0 : tl_36_0.all (pk_b 36) = true := by decide +kernel
theorem ck_36 : tl_36.all (pk_b 36) = true := ck_36_0
theorem ck_37_0 : tl_37_0.all (pk_b 37) = true := by decide +kernel
theorem ck_37 : tl_37.all (pk_b 37) = true := ck_37_0
theorem ck_38_0 : tl_38_0.all (pk_b 38) = true := by decide +kernel
theorem ck_38 : tl_38.all (pk_b 38) = true := ck_38_0
theorem ck_39_0 : tl_39_0.all (pk_b 39) = true := by decide +kernel
theorem ck_39_1 : tl_39_1.all (pk_b 39) = true := by decide +kernel
theorem ck_39_2 : tl_39_2.all (pk_b 39) = true := by decide +kernel
theorem ck_39 : tl_39.all (pk_b 39) = true := by
  unfold tl_39
  simp only [List.all_append, ck_39_0, ck_39_1, ck_39_2, Bool.and_self]
theorem ck_40_0 : tl_40_0.all (pk_b 40) = true := by decide +kernel
theorem ck_40 : tl_40.all (pk_b 40) = true := ck_40_0
theorem ck_41_0 : tl_41_0.all (pk_b 41) = true := by decide +kernel
theorem ck_41_1 : tl_41_1.all (pk_b 41) = true := by decide +kernel
theorem ck_41 : tl_41.all (pk_b 41) = true := by
  unfold tl_41
  simp only [List.all_append, ck_41_0, ck_41_1, Bool.and_self]
theorem ck_42_0 : tl_42_0.all (pk_b 42) = true := by decide +kernel
theorem ck_42 : tl_42.all (pk_b 42) = true := ck_42_0
theorem ck_43_0 : tl_43_0.all (pk_b 43) = true := by decide +kernel
theorem ck_43 : tl_43.all (pk_b 43) = true := ck_43_0
theorem ck_44_0 : tl_44_0.all (pk_b 44) = true := by decide +kernel
theorem ck_44 : tl_44.all (pk_b 44) = true := ck_44_0
theorem ck_45_0 : tl_45_0.all (pk_b 45) = true := by decide +kernel
theorem ck_45_1 : tl_45_1.all (pk_b 45) = true := by decide +kernel
theorem ck_45 : tl_45.all (pk_b 45) = true := by
  unfold tl_45
  simp only [List.all_append, ck_45_0, ck_45_1, Bool.and_self]
theorem ck_46_0 : tl_46_0.all (pk_b 46) = true := by decide +kernel
theorem ck_46 : tl_46.all (pk_b 46) = true := ck_46_0
theorem ck_47_0 : tl_47_0.all (pk_b 47) = true := by decide +kernel
theorem ck_47 : tl_47.all (pk_b 47) = true := ck_47_0
theorem ck_48_0 : tl_48_0.all (pk_b 48) = true := by decide +kernel
theorem ck_48 : tl_48.all (pk_b 48) = true := ck_48_0
theorem ck_49_0 : tl_49_0.all (pk_b 49) = true := by decide +kernel
theorem ck_49 : tl_49.all (pk_b 49) = true := ck_49_0
theorem ck_50_0 : tl_50_0.all (pk_b 50) = true := by decide +kernel
theorem ck_50 : tl_50.all (pk_b 50) = true := ck_50_0
theorem ck_51_0 : tl_51_0.all (pk_b 51) = true := by decide +kernel
theorem ck_51 : tl_51.all (pk_b 51) = true := ck_51_0
theorem ck_52_0 : tl_52_0.all (pk_b 52) = true := by decide +kernel
theorem ck_52 : tl_52.all (pk_b 52) = true := ck_52_0
theorem ck_53_0 : tl_53_0.all (pk_b 53) = true := by decide +kernel
theorem ck_53 : tl_53.all (pk_b 53) = true := ck_53_0
theorem ck_54_0 : tl_54_0.all (pk_b 54) = true := by decide +kernel
theorem ck_54_1 : tl_54_1.all (pk_b 54) = true := by decide +kernel
theorem ck_54 : tl_54.all (pk_b 54) = true := by
  unfold tl_54
  simp only [List.all_append, ck_54_0, ck_54_1, Bool.and_self]
theorem ck_55_0 : tl_55_0.all (pk_b 55) = true := by decide +kernel
theorem ck_55_1 : tl_55_1.all (pk_b 55) = true := by decide +kernel
theorem ck_55 : tl_55.all (pk_b 55) = true := by
  unfold tl_55
  simp only [List.all_append, ck_55_0, ck_55_1, Bool.and_self]
theorem ck_56_0 : tl_56_0.all (pk_b 56) = true := by decide +kernel
theorem ck_56 : tl_56.all (pk_b 56) = true := ck_56_0
theorem ck_57_0 : tl_57_0.all (pk_b 57) = true := by decide +kernel
theorem ck_57_1 : tl_57_1.all (pk_b 57) = true := by decide +kernel
theorem ck_57 : tl_57.all (pk_b 57) = true := by
  unfold tl_57
  simp only [List.all_append, ck_57_0, ck_57_1, Bool.and_self]
theorem ck_58_0 : tl_58_0.all (pk_b 58) = true := by decide +kernel
theorem ck_58 : tl_58.all (pk_b 58) = true := ck_58_0
theorem ck_59_0 : tl_59_0.all (pk_b 59) = true := by decide +kernel
theorem ck_59 : tl_59.all (pk_b 59) = true := ck_59_0
theorem ck_60_0 : tl_60_0.all (pk_b 60) = true := by decide +kernel
theorem ck_60_1 : tl_60_1.all (pk_b 60) = true := by decide +kernel
theorem ck_60_2 : tl_60_2.all (pk_b 60) = true := by decide +kernel
theorem ck_60_3 : tl_60_3.all (pk_b 60) = true := by decide +kernel
theorem ck_60 : tl_60.all (pk_b 60) = true := by
  unfold tl_60
  simp only [List.all_append, ck_60_0, ck_60_1, ck_60_2, ck_60_3, Bool.and_self]
theorem ck_61_0 : tl_61_0.all (pk_b 61) = true := by decide +kernel
theorem ck_61_1 : tl_61_1.all (pk_b 61) = true := by decide +kernel
theorem ck_61 : tl_61.all (pk_b 61) = true := by
  unfold tl_61
  simp only [List.all_append, ck_61_0, ck_61_1, Bool.and_self]
theorem ck_62_0 : tl_62_0.all (pk_b 62) = true := by decide +kernel
theorem ck_62_1 : tl_62_1.all (pk_b 62) = true := by decide +kernel
theorem ck_62_2 : tl_62_2.all (pk_b 62) = true := by decide +kernel
theorem ck_62 : tl_62.all (pk_b 62) = true := by
  unfold tl_62
  simp only [List.all_append, ck_62_0, ck_62_1, ck_62_2, Bool.and_self]
theorem ck_63_0 : tl_63_0.all (pk_b 63) = true := by decide +kernel
theorem ck_63 : tl_63.all (pk_b 63) = true := ck_63_0
theorem ck_64_0 : tl_64_0.all (pk_b 64) = true := by decide +kernel
theorem ck_64 : tl_64.all (pk_b 64) = true := ck_64_0
theorem ck_65_0 : tl_65_0.all (pk_b 65) = true := by decide +kernel
theorem ck_65 : tl_65.all (pk_b 65) = true := ck_65_0
theorem ck_66_0 : tl_66_0.all (pk_b 66) = true := by decide +kernel
theorem ck_66 : tl_66.all (pk_b 66) = true := ck_66_0
theorem ck_67_0 : tl_67_0.all (pk_b 67) = true := by decide +kernel
theorem ck_67_1 : tl_67_1.all (pk_b 67) = true := by decide +kernel
theorem ck_67 : tl_67.all (pk_b 67) = true := by
  unfold tl_67
  simp only [List.all_append, ck_67_0, ck_67_1, Bool.and_self]
theorem ck_68_0 : tl_68_0.all (pk_b 68) = true := by decide +kernel
theorem ck_68 : tl_68.all (pk_b 68) = true := ck_68_0
theorem ck_69_0 : tl_69_0.all (pk_b 69) = true := by decide +kernel
theorem ck_69 : tl_69.all (pk_b 69) = true := ck_69_0
theorem ck_70_0 : tl_70_0.all (pk_b 70) = true := by decide +kernel
theorem ck_70_1 : tl_70_1.all (pk_b 70) = true := by decide +kernel
theorem ck_70 : tl_70.all (pk_b 70) = true := by
  unfold tl_70
  simp only [List.all_append, ck_70_0, ck_70_1, Bool.and_self]
theorem ck_71_0 : tl_71_0.all (pk_b 71) = true := by decide +kernel
theorem ck_71 : tl_71.all (pk_b 71) = true := ck_71_0
theorem ck_72_0 : tl_72_0.all (pk_b 72) = true := by decide +kernel
theorem ck_72 : tl_72.all (pk_b 72) = true := ck_72_0
theorem ck_73_0 : tl_73_0.all (pk_b 73) = true := by decide +kernel
theorem ck_73 : tl_73.all (pk_b 73) = true := ck_73_0
theorem ck_74_0 : tl_74_0.all (pk_b 74) = true := by decide +kernel
theorem ck_74 : tl_74.all (pk_b 74) = true := ck_74_0
theorem ck_75_0 : tl_75_0.all (pk_b 75) = true := by decide +kernel
theorem ck_75 : tl_75.all (pk_b 75) = true := ck_75_0
theorem ck_76_0 : tl_76_0.all (pk_b 76) = true := by decide +kernel
theorem ck_76 : tl_76.all (pk_b 76) = true := ck_76_0
theorem ck_77_0 : tl_77_0.all (pk_b 77) = true := by decide +kernel
theorem ck_77 : tl_77.all (pk_b 77) = true := ck_77_0
theorem ck_78_0 : tl_78_0.all (pk_b 78) = true := by decide +kernel
theorem ck_78 : tl_78.all (pk_b 78) = true := ck_78_0
theorem ck_79_0 : tl_79_0.all (pk_b 79) = true := by decide +kernel
theorem ck_79 : tl_79.all (pk_b 79) = true := ck_79_0
theorem ck_80_0 : tl_80_0.all (pk_b 80) = true := by decide +kernel
theorem ck_80 : tl_80.all (pk_b 80) = true := ck_80_0
theorem ck_81_0 : tl_81_0.all (pk_b 81) = true := by decide +kernel
theorem ck_81 : tl_81.all (pk_b 81) = true := ck_81_0
theorem ck_82_0 : tl_82_0.all (pk_b 82) = true := by decide +kernel
theorem ck_82 : tl_82.all (pk_b 82) = true := ck_82_0
theorem ck_83_0 : tl_83_0.all (pk_b 83) = true := by decide +kernel
theorem ck_83 : tl_83.all (pk_b 83) = true := ck_83_0
theorem ck_84_0 : tl_84_0.all (pk_b 84) = true := by decide +kernel
theorem ck_84 : tl_84.all (pk_b 84) = true := ck_84_0
theorem ck_85_0 : tl_85_0.all (pk_b 85) = true := by decide +kernel
theorem ck_85 : tl_85.all (pk_b 85) = true := ck_85_0
theorem ck_86_0 : tl_86_0.all (pk_b 86) = true := by decide +kernel
theorem ck_86 : tl_86.all (pk_b 86) = true := ck_86_0
theorem ck_87_0 : tl_87_0.all (pk_b 87) = true := by decide +kernel
theorem ck_87 : tl_87.all (pk_b 87) = true := ck_87_0
theorem ck_88_0 : tl_88_0.all (pk_b 88) = true := by decide +kernel
theorem ck_88 : tl_88.all (pk_b 88) = true := ck_88_0
theorem ck_89_0 : tl_89_0.all (pk_b 89) = true := by decide +kernel
theorem ck_89 : tl_89.all (pk_b 89) = true := ck_89_0
theorem ck_90_0 : tl_90_0.all (pk_b 90) = true := by decide +kernel
theorem ck_90 : tl_90.all (pk_b 90) = true := ck_90_0
theorem ck_91_0 : tl_91_0.all (pk_b 91) = true := by decide +kernel
theorem ck_91 : tl_91.all (pk_b 91) = true := ck_91_0
theorem ck_92_0 : tl_92_0.all (pk_b 92) = true := by decide +kernel
theorem ck_92 : tl_92.all (pk_b 92) = true := ck_92_0
theorem ck_93_0 : tl_93_0.all (pk_b 93) = true := by decide +kernel
theorem ck_93 : tl_93.all (pk_b 93) = true := ck_93_0
theorem ck_94_0 : tl_94_0.all (pk_b 94) = true := by decide +kernel
theorem ck_94 : tl_94.all (pk_b 94) = true := ck_94_0
theorem ck_95_0 : tl_95_0.all (pk_b 95) = true := by decide +kernel
theorem ck_95 : tl_95.all (pk_b 95) = true := ck_95_0
theorem ck_96_0 : tl_96_0.all (pk_b 96) = true := by decide +kernel
theorem ck_96 : tl_96.all (pk_b 96) = true := ck_96_0
theorem ck_97_0 : tl_97_0.all (pk_b 97) = true := by decide +kernel
theorem ck_97 : tl_97.all (pk_b 97) = true := ck_97_0
theorem ck_98_0 : tl_98_0.all (pk_b 98) = true := by decide +kernel
theorem ck_98 : tl_98.all (pk_b 98) = true := ck_98_0
theorem ck_99_0 : tl_99_0.all (pk_b 99) = true := by decide +kernel
theorem ck_99 : tl_99.all (pk_b 99) = true := ck_99_0
theorem ck_100_0 : tl_100_0.all (pk_b 100) = true := by decide +kernel
theorem ck_100 : tl_100.all (pk_b 100) = true := ck_100_0
theorem ck_101_0 : tl_101_0.all (pk_b 101) = true := by decide +kernel
theorem ck_101 : tl_101.all (pk_b 101) = true := ck_101_0
theorem ck_102_0 : tl_102_0.all (pk_b 102) = true := by decide +kernel
theorem ck_102 : tl_102.all (pk_b 102) = true := ck_102_0
theorem ck_103_0 : tl_103_0.all (pk_b 103) = true := by decide +kernel
theorem ck_103 : tl_103.all (pk_b 103) = true := ck_103_0
theorem ck_104_0 : tl_104_0.all (pk_b 104) = true := by decide +kernel
theorem ck_104 : tl_104.all (pk_b 104) = true := ck_104_0
theorem ck_105_0 : tl_105_0.all (pk_b 105) = true := by decide +kernel
theorem ck_105 : tl_105.all (pk_b 105) = true := ck_105_0
theorem ck_106_0 : tl_106_0.all (pk_b 106) = true := by decide +kernel
theorem ck_106 : tl_106.all (pk_b 106) = true := ck_106_0
theorem ck_107_0 : tl_107_0.all (pk_b 107) = true := by decide +kernel
theorem ck_107 : tl_107.all (pk_b 107) = true := ck_107_0
theorem ck_108_0 : tl_108_0.all (pk_b 108) = true := by decide +kernel
theorem ck_108 : tl_108.all (pk_b 108) = true := ck_108_0
theorem ck_109_0 : tl_109_0.all (pk_b 109) = true := by decide +kernel
theorem ck_109 : tl_109.all (pk_b 109) = true := ck_109_0
theorem ck_110_0 : tl_110_0.all (pk_b 110) = true := by decide +kernel
theorem ck_110 : tl_110.all (pk_b 110) = true := ck_110_0
theorem ck_111_0 : tl_111_0.all (pk_b 111) = true := by decide +kernel
theorem ck_111 : tl_111.all (pk_b 111) = true := ck_111_0
theorem ck_112_0 : tl_112_0.all (pk_b 112) = true := by decide +kernel
theorem ck_112 : tl_112.all (pk_b 112) = true := ck_112_0
theorem ck_113_0 : tl_113_0.all (pk_b 113) = true := by decide +kernel
theorem ck_113_1 : tl_113_1.all (pk_b 113) = true := by decide +kernel
theorem ck_113_2 : tl_113_2.all (pk_b 113) = true := by decide +kernel
theorem ck_113_3 : tl_113_3.all (pk_b 113) = true := by decide +kernel
theorem ck_113_4 : tl_113_4.all (pk_b 113) = true := by decide +kernel
theorem ck_113_5 : tl_113_5.all (pk_b 113) = true := by decide +kernel
theorem ck_113_6 : tl_113_6.all (pk_b 113) = true := by decide +kernel
theorem ck_113_7 : tl_113_7.all (pk_b 113) = true := by decide +kernel
theorem ck_113_8 : tl_113_8.all (pk_b 113) = true := by decide +kernel
theorem ck_113_9 : tl_113_9.all (pk_b 113) = true := by decide +kernel
theorem ck_113 : tl_113.all (pk_b 113) = true := by
  unfold tl_113
  simp only [List.all_append, ck_113_0, ck_113_1, ck_113_2, ck_113_3, ck_113_4, ck_113_5, ck_113_6, ck_113_7, ck_113_8, ck_113_9, Bool.and_self]
theorem ck_all : ∀ i, i < 114 → (tb_li i).all (pk_b i) = true := by
  intro i hi
  match i, hi with
  | 0, _ => exact ck_0
  | 1, _ => exact ck_1
  | 2, _ => exact ck_2
  | 3, _ => exact ck_3
  | 4, _ => exact ck_4
  | 5, _ => exact ck_5
  | 6, _ => exact ck_6
  | 7, _ => exact ck_7
  | 8, _ => exact ck_8
  | 9, _ => exact ck_9
  | 10, _ => exact ck_10
  | 11, _ => exact ck_11
  | 12, _ => exact ck_12
  | 13, _ => exact ck_13
  | 14, _ => exact ck_14
  | 15, _ => exact ck_15
  | 16, _ => exact ck_16
  | 17, _ => exact ck_17
  | 18, _ => exact ck_18
  | 19, _ => exact ck_19
  | 20, _ => exact ck_20
  | 21, _ => exact ck_21
  | 22, _ => exact ck_22
  | 23, _ => exact ck_23
  | 24, _ => exact ck_24
  | 25, _ => exact ck_25
  | 26, _ => exact ck_26
  | 27, _ => exact ck_27
  | 28, _ => exact ck_28
  | 29, _ => exact ck_29
  | 30, _ => exact ck_30
  | 31, _ => exact ck_31
  | 32, _ => exact ck_32
  | 33, _ => exact ck_33
  | 34, _ => exact ck_34
  | 35, _ => exact ck_35
  | 36, _ => exact ck_36
  | 37, _ => exact ck_37
  | 38, _ => exact ck_38
  | 39, _ => exact ck_39
  | 40, _ => exact ck_40
  | 41, _ => exact ck_41
  | 42, _ => exact ck_42
  | 43, _ => exact ck_43
  | 44, _ => exact ck_44
  | 45, _ => exact ck_45
  | 46, _ => exact ck_46
  | 47, _ => exact ck_47
  | 48, _ => exact ck_48
  | 49, _ => exact ck_49
  | 50, _ => exact ck_50
  | 51, _ => exact ck_51
  | 52, _ => exact ck_52
  | 53, _ => exact ck_53
  | 54, _ => exact ck_54
  | 55, _ => exact ck_55
  | 56, _ => exact ck_56
  | 57, _ => exact ck_57
  | 58, _ => exact ck_58
  | 59, _ => exact ck_59
  | 60, _ => exact ck_60
  | 61, _ => exact ck_61
  | 62, _ => exact ck_62
  | 63, _ => exact ck_63
  | 64, _ => exact ck_64
  | 65, _ => exact ck_65
  | 66, _ => exact ck_66
  | 67, _ => exact ck_67
  | 68, _ => exact ck_68
  | 69, _ => exact ck_69
  | 70, _ => exact ck_70
  | 71, _ => exact ck_71
  | 72, _ => exact ck_72
  | 73, _ => exact ck_73
  | 74, _ => exact ck_74
  | 75, _ => exact ck_75
  | 76, _ => exact ck_76
  | 77, _ => exact ck_77
  | 78, _ => exact ck_78
  | 79, _ => exact ck_79
  | 80, _ => exact ck_80
  | 81, _ => exact ck_81
  | 82, _ => exact ck_82
  | 83, _ => exact ck_83
  | 84, _ => exact ck_84
  | 85, _ => exact ck_85
  | 86, _ => exact ck_86
  | 87, _ => exact ck_87
  | 88, _ => exact ck_88
  | 89, _ => exact ck_89
  | 90, _ => exact ck_90
  | 91, _ => exact ck_91
  | 92, _ => exact ck_92
  | 93, _ => exact ck_93
  | 94, _ => exact ck_94
  | 95, _ => exact ck_95
  | 96, _ => exact ck_96
  | 97, _ => exact ck_97
  | 98, _ => exact ck_98
  | 99, _ => exact ck_99
  | 100, _ => exact ck_100
  | 101, _ => exact ck_101
  | 102, _ => exact ck_102
  | 103, _ => exact ck_103
  | 104, _ => exact ck_104
  | 105, _ => exact ck_105
  | 106, _ => exact ck_106
  | 107, _ => exact ck_107
  | 108, _ => exact ck_108
  | 109, _ => exact ck_109
  | 110, _ => exact ck_110
  | 111, _ => exact ck_111
  | 112, _ => exact ck_112
  | 113, _ => exact ck_113
  | n + 114, h => omega
theorem tb_li_none (i : Nat) (h : 114 ≤ i) : tb_li i = [] := by
  match i, h with
  | n + 114, _ => rfl
end
section
theorem ow_ok : ∀ i, i < 114 → tb_on (tb_ow i) = (tb_nm i).cls := by decide +kernel
theorem hx_ok : ∀ i, i < 114 → tb_hx i = none → tb_hh i = [] := by decide +kernel
theorem cn_ok : ∀ c, c < 8 → (vwCl.getD c ("", fun _ => ("", "", "", false), 0)).1 = tb_cn c := by decide +kernel
theorem ty_ok : ∀ c, c < 8 → ∀ k, k < (vwCl.getD c ("", fun _ => ("", "", "", false), 0)).2.2 → parseFieldDescriptor ((vwCl.getD c ("", fun _ => ("", "", "", false), 0)).2.1 k).2.2.1 = some (tb_ft c k) := by decide +kernel
theorem dn_ok : ∀ c, c < 8 → ∀ k, k < (vwCl.getD c ("", fun _ => ("", "", "", false), 0)).2.2 → ((vwCl.getD c ("", fun _ => ("", "", "", false), 0)).2.1 k).1 = tb_cn c := by decide +kernel
theorem nm_ok : ∀ c, c < 8 → ∀ a, a < (vwCl.getD c ("", fun _ => ("", "", "", false), 0)).2.2 → ∀ b, b < (vwCl.getD c ("", fun _ => ("", "", "", false), 0)).2.2 → a ≠ b → ((vwCl.getD c ("", fun _ => ("", "", "", false), 0)).2.1 a).2.1 ≠ ((vwCl.getD c ("", fun _ => ("", "", "", false), 0)).2.1 b).2.1 := by decide +kernel
theorem qk_vc {c : Nat} {r : vw_C} (h : vwCl[c]? = some r) : c < 8 ∧ vwCl.getD c ("", fun _ => ("", "", "", false), 0) = r := by
  have h1 := (List.getElem?_eq_some_iff.mp h).1
  exact ⟨h1, by rw [List.getD_eq_getElem?_getD, h]; rfl⟩
theorem pk_nm : pw_nm := by
  intro c r h
  obtain ⟨h1, h2⟩ := qk_vc h
  subst h2
  exact ⟨ty_ok c h1, nm_ok c h1⟩
theorem pk_U {s0 : State} (hY : pk_Y s0) : pw_U s0 := by
  intro c r h w hw
  obtain ⟨h1, h2⟩ := qk_vc h
  subst h2
  have hm : w ∈ lw_tbl := by
    match c, h1 with
    | 0, _ => exact ul_0 w hw
    | 1, _ => exact ul_1 w hw
    | 2, _ => exact ul_2 w hw
    | 3, _ => exact ul_3 w hw
    | 4, _ => exact ul_4 w hw
    | 5, _ => exact ul_5 w hw
    | 6, _ => exact ul_6 w hw
    | 7, _ => exact ul_7 w hw
    | n + 8, h => omega
  refine hY w hm ?_
  obtain ⟨k, -, rfl⟩ := List.mem_map.mp hw
  unfold u_lay
  split <;> rfl

/-! ## throws and catches -/
theorem pk_tr {s0 U : State} {w : Cond} {args : Array Value} (hW : s0.WarmedH U.vm) (hc : w.onTables = true) (hk : w.keepsFace = true) (h : w.before #[] s0 = true) : w.before args U = true :=
  va_tabs hc (rfl : (s0.setVm U.vm).vm = U.vm) (Cond.before_shiftedFace (State.Shifted.of_warmed hW) w hk h)
theorem pk_lst {s0 U : State} {C n d : String} {args A0 : Array Value} (hl : (Cond.laysStatic C n d).before A0 s0 = true) (hW : s0.WarmedH U.vm) (hH : ∀ q : Nat, q < s0.heap.size → U.heap[q]? = s0.heap[q]?) : (Cond.laysStatic C n d).before args U = true := by
  obtain ⟨c, k, i, f, a, cell, h1, h2, h3, h4, h5, h6, h7, h8, h9⟩ := Cond.laysStatic_spec (Cond.laysStatic_setVm hW.alike hl)
  exact Cond.laysStatic_of (s := U) h1 h2 h3 h4 (by rw [hH a (Array.getElem?_eq_some_iff.mp h5).1]; exact h5) h6 h7 h8 h9
theorem pk_ref {s0 U : State} {C n d : String} {args A0 : Array Value} (hl : (Cond.laysStatic C n d).before A0 s0 = true) (hini : (Cond.initialized C).before A0 s0 = true) (h : (Cond.isRef (.static C n d)).before A0 s0 = true) (hW : s0.WarmedH U.vm) (hH : ∀ q : Nat, q < s0.heap.size → U.heap[q]? = s0.heap[q]?) : (Cond.isRef (.static C n d)).before args U = true := by
  cases hv : (Term.static C n d).eval A0 s0 none [] s0 with
  | none => simp [Cond.before, Cond.holds, Cond.value, hv] at h
  | some v =>
    have hZ := va_Zof hl hini hv (A := fun q => s0.heap.size ≤ q) (fun a ha => Nat.not_le.mpr ha)
    have hZ' := (hZ.moved hW.alike).kept (H1 := U.heap) (fun a ha _ => hH a ha)
    obtain ⟨cf, kf, fi, f, a, cell, h1, h2, h3, h4, h5, h6, h7, h8⟩ := hZ'
    have hv' : (Term.static C n d).eval args U none [] U = some v := by simp [Term.eval, State.fieldNamed?, h1, h2, h4, h5, h6, h7]
    simp only [Cond.before, Cond.holds, Cond.value, hv, hv'] at h ⊢
    exact h
/-- what the claim says of the start beside its tables' words -/
def pk_Z (s0 : State) (B : Nat → Nat) : Prop := pk_Y s0 ∧
  (∀ p, 1 ≤ p → p ≤ 4 → va_Z "MemoRuntime$Outcome" (tb_en p) "LMemoRuntime$Outcome;" (.ref (B p)) (fun q => s0.heap.size ≤ q) s0 s0.heap) ∧
  (∀ q ∈ [(154, "too many cells under way"), (203, "not 1 .. 96"), (209, "out of range"), (213, "not kept")], ∃ sa, vk_R "MemoRuntime" q.1 q.2 sa s0) ∧
  (∃ A0 : Array Value, (Cond.isRef (.static Bundle.tN "UNASSIGNED_STACK" Bundle.steD)).before A0 s0 = true ∧ (Cond.isRef (.static Bundle.tN "SUPPRESSED_SENTINEL" Bundle.listD)).before A0 s0 = true ∧ (Cond.laysStatic Bundle.tN "UNASSIGNED_STACK" Bundle.steD).before A0 s0 = true ∧ (Cond.laysStatic Bundle.tN "SUPPRESSED_SENTINEL" Bundle.listD).before A0 s0 = true ∧ (Cond.initialized Bundle.tN).before A0 s0 = true) ∧
  ((Cond.not (.castable "java/lang/IllegalStateException" "java/lang/IllegalArgumentException")).before #[] s0 = true ∧ (Cond.not (.castable "java/util/NoSuchElementException" "java/lang/IllegalArgumentException")).before #[] s0 = true)
def pk_oc (w : Cond) : Bool := (decide (w ∈ lw_tbl) && (w.onTables && w.keepsFace)) || decide (w = .isRef (.static Bundle.tN "UNASSIGNED_STACK" Bundle.steD) ∨ w = .isRef (.static Bundle.tN "SUPPRESSED_SENTINEL" Bundle.listD) ∨ w = .laysStatic Bundle.tN "UNASSIGNED_STACK" Bundle.steD ∨ w = .laysStatic Bundle.tN "SUPPRESSED_SENTINEL" Bundle.listD)
theorem pk_ow {s0 : State} {B : Nat → Nat} (hZ : pk_Z s0 B) {own X : String} {ic i1 : Nat} {b1 : ByteArray} (h : (pw_oA own ic X i1 b1).all pk_oc = true) (U : State) (hW : s0.WarmedH U.vm) (hH : ∀ q : Nat, q < s0.heap.size → U.heap[q]? = s0.heap[q]?) (args : Array Value) : ∀ w ∈ pw_oA own ic X i1 b1, w.before args U = true := by
  obtain ⟨hY, -, -, ⟨A0, r1, r2, r3, r4, r5⟩, -⟩ := hZ
  intro w hw
  have h1 := List.all_eq_true.mp h w hw
  unfold pk_oc at h1
  rcases Bool.or_eq_true_iff.mp h1 with h2 | h2
  · simp only [Bool.and_eq_true, decide_eq_true_eq] at h2
    refine pk_tr hW h2.2.1 h2.2.2 (hY w h2.1 ?_)
    have := h2.2.1
    unfold pk_ok
    split
    · rfl
    · rfl
    · exact this
  · rcases of_decide_eq_true h2 with rfl | rfl | rfl | rfl
    · exact pk_ref r3 r5 r1 hW hH
    · exact pk_ref r4 r5 r2 hW hH
    · exact pk_lst r3 hW hH
    · exact pk_lst r4 hW hH
theorem oA_7 : (pw_oA "MemoRuntime" 156 "java/lang/IllegalStateException" 7 prog_14_method_2_code).all pk_oc = true := by decide +kernel
theorem oA_13 : (pw_oA "MemoRuntime" 205 "java/lang/IllegalArgumentException" 7 prog_13_method_2_code).all pk_oc = true := by decide +kernel
theorem oA_20 : (pw_oA "MemoRuntime" 215 "java/util/NoSuchElementException" 13 prog_20_method_4_code).all pk_oc = true := by decide +kernel
theorem px_7 {s0 : State} {B : Nat → Nat} (hZ : pk_Z s0 B) : pk_x s0 7 61 152 1001 := by
  obtain ⟨sa, hsa⟩ := hZ.2.2.1 (154, "too many cells under way") (by simp)
  exact ⟨154, 156, 7, prog_14_method_2_code, _, sa, by decide +kernel, by decide +kernel, by decide +kernel, by decide +kernel, (by intro y hy; cases hy), hZ.1 _ (by decide +kernel) rfl, hZ.1 _ (by decide +kernel) rfl, hZ.1 _ (by decide +kernel) rfl, hsa, by decide +kernel, ⟨by decide +kernel, by decide +kernel, by decide +kernel, by decide +kernel⟩, pk_ow hZ oA_7⟩
theorem px_13 {s0 : State} {B : Nat → Nat} (hZ : pk_Z s0 B) : pk_x s0 13 11 201 1000 := by
  obtain ⟨sa, hsa⟩ := hZ.2.2.1 (203, "not 1 .. 96") (by simp)
  exact ⟨203, 205, 7, prog_13_method_2_code, _, sa, by decide +kernel, by decide +kernel, by decide +kernel, by decide +kernel, (by intro y hy; cases hy), hZ.1 _ (by decide +kernel) rfl, hZ.1 _ (by decide +kernel) rfl, hZ.1 _ (by decide +kernel) rfl, hsa, by decide +kernel, ⟨by decide +kernel, by decide +kernel, by decide +kernel, by decide +kernel⟩, pk_ow hZ oA_13⟩
theorem px_15 {s0 : State} {B : Nat → Nat} (hZ : pk_Z s0 B) : pk_x s0 15 9 201 1000 := by
  obtain ⟨sa, hsa⟩ := hZ.2.2.1 (209, "out of range") (by simp)
  exact ⟨209, 205, 7, prog_13_method_2_code, _, sa, by decide +kernel, by decide +kernel, by decide +kernel, by decide +kernel, (by intro y hy; cases hy), hZ.1 _ (by decide +kernel) rfl, hZ.1 _ (by decide +kernel) rfl, hZ.1 _ (by decide +kernel) rfl, hsa, by decide +kernel, ⟨by decide +kernel, by decide +kernel, by decide +kernel, by decide +kernel⟩, pk_ow hZ oA_13⟩
theorem px_20 {s0 : State} {B : Nat → Nat} (hZ : pk_Z s0 B) : pk_x s0 20 11 211 1002 := by
  obtain ⟨sa, hsa⟩ := hZ.2.2.1 (213, "not kept") (by simp)
  exact ⟨213, 215, 13, prog_20_method_4_code, _, sa, by decide +kernel, by decide +kernel, by decide +kernel, by decide +kernel, (by intro y hy; cases hy), hZ.1 _ (by decide +kernel) rfl, hZ.1 _ (by decide +kernel) rfl, hZ.1 _ (by decide +kernel) rfl, hsa, by decide +kernel, ⟨by decide +kernel, by decide +kernel, by decide +kernel, by decide +kernel⟩, pk_ow hZ oA_20⟩
theorem px_ok {s0 : State} {B : Nat → Nat} (hZ : pk_Z s0 B) : ∀ q ∈ px_L, pk_x s0 q.1 q.2.1 q.2.2.1 q.2.2.2 := List.forall_mem_cons.mpr ⟨px_7 hZ, List.forall_mem_cons.mpr ⟨px_13 hZ, List.forall_mem_cons.mpr ⟨px_15 hZ, List.forall_mem_cons.mpr ⟨px_20 hZ, fun _ h => absurd h List.not_mem_nil⟩⟩⟩⟩
/-! the tables of the law's own methods -/
theorem wn_263 : Cond.classLink "MemoRuntimeLaw" 13 "java/lang/IllegalArgumentException" ∈ lw_tbl := by decide +kernel
theorem wn_276 : Cond.castable "java/lang/IllegalArgumentException" "java/lang/IllegalArgumentException" ∈ lw_tbl := by decide +kernel
theorem wn_405 : Cond.classLink "MemoRuntimeLaw" 31 "java/lang/IllegalStateException" ∈ lw_tbl := by decide +kernel
theorem wn_535 : Cond.castable "java/lang/IllegalStateException" "java/lang/IllegalStateException" ∈ lw_tbl := by decide +kernel
theorem wn_566 : Cond.classLink "MemoRuntimeLaw" 40 "java/util/NoSuchElementException" ∈ lw_tbl := by decide +kernel
theorem wn_577 : Cond.castable "java/util/NoSuchElementException" "java/util/NoSuchElementException" ∈ lw_tbl := by decide +kernel
theorem ph_out {e h ct pc : Nat} (hp : ¬ pc < e) : covers ⟨0, e, h, ct⟩ pc = false := by simp [covers, hp]
theorem ph_in {e h ct pc : Nat} (hp : pc < e) : covers ⟨0, e, h, ct⟩ pc = true := by simp [covers, hp]
theorem ph_1 {s0 : State} {i e h : Nat} (h1 : tb_hx i = some (e, [(1000, h)])) (h2 : tb_hh i = [(0, e, h, 13)]) (h3 : (tb_nm i).cls = "MemoRuntimeLaw") (hY : pk_Y s0) (pc : Nat) : pk_h s0 i pc := by
  intro x
  unfold tb_hn
  rw [h1, h2, h3]
  by_cases hp : pc < e
  · simp only [if_pos hp]
    by_cases hx : x = 1000
    · subst hx
      exact Or.inr ⟨ph_in hp, (by show (13 : Nat) ≠ 0; decide), _, hY _ wn_263 rfl, Or.inl ⟨hY _ wn_276 rfl, rfl⟩⟩
    · have : ([(1000, h)] : List (Nat × Nat)).find? (fun q => q.1 == x) = none := by simp [Ne.symm hx]
      rw [this]
      trivial
  · simp only [if_neg hp]
    intro y hy
    rw [List.mem_singleton.mp hy]
    exact ph_out hp
theorem ph_2 {s0 : State} {i e h k x1 ct : Nat} {xn : String} (h1 : tb_hx i = some (e, [(1000, h), (x1, k)])) (h2 : tb_hh i = [(0, e, h, 13), (0, e, k, ct)]) (h3 : (tb_nm i).cls = "MemoRuntimeLaw") (hxn : tb_xn x1 = xn) (hx1 : x1 ≠ 1000) (hct : ct ≠ 0) (w1 : (Cond.classLink "MemoRuntimeLaw" ct xn).before #[] s0 = true) (w2 : (Cond.castable xn xn).before #[] s0 = true) (w3 : (Cond.not (.castable xn "java/lang/IllegalArgumentException")).before #[] s0 = true) (hY : pk_Y s0) (pc : Nat) : pk_h s0 i pc := by
  intro x
  unfold tb_hn
  rw [h1, h2, h3]
  by_cases hp : pc < e
  · simp only [if_pos hp]
    by_cases hx : x = 1000
    · subst hx
      exact Or.inr ⟨ph_in hp, (by show (13 : Nat) ≠ 0; decide), _, hY _ wn_263 rfl, Or.inl ⟨hY _ wn_276 rfl, rfl⟩⟩
    · by_cases hx2 : x = x1
      · subst hx2
        have : ([(1000, h), (x, k)] : List (Nat × Nat)).find? (fun q => q.1 == x) = some (x, k) := by simp [Ne.symm hx]
        rw [this, ]
        show pw_hs s0 "MemoRuntimeLaw" (tb_xn x) pc _ k
        rw [hxn]
        exact Or.inr ⟨ph_in hp, (by show (13 : Nat) ≠ 0; decide), _, hY _ wn_263 rfl, Or.inr ⟨w3, Or.inr ⟨ph_in hp, hct, _, w1, Or.inl ⟨w2, rfl⟩⟩⟩⟩
      · have : ([(1000, h), (x1, k)] : List (Nat × Nat)).find? (fun q => q.1 == x) = none := by simp [Ne.symm hx, Ne.symm hx2]
        rw [this]
        trivial
  · simp only [if_neg hp]
    intro y hy
    rcases List.mem_cons.mp hy with rfl | hy
    · exact ph_out hp
    · rw [List.mem_singleton.mp hy]
      exact ph_out hp
theorem ph_ok {s0 : State} {B : Nat → Nat} (hZ : pk_Z s0 B) (i pc : Nat) (hi : i < 114) : pk_h s0 i pc := by
  obtain ⟨hY, -, -, -, c1, c2⟩ := id hZ
  by_cases h0 : tb_hx i = none
  · intro x
    unfold tb_hn
    rw [h0, hx_ok i hi h0]
    intro y hy
    cases hy
  · have hc : i = 103 ∨ i = 104 ∨ i = 105 ∨ i = 106 ∨ i = 107 ∨ i = 108 ∨ i = 109 ∨ i = 110 ∨ i = 111 ∨ i = 112 := by
      revert h0 hi
      revert i
      decide +kernel
    rcases hc with rfl | rfl | rfl | rfl | rfl | rfl | rfl | rfl | rfl | rfl
    · exact ph_1 rfl rfl rfl hY pc
    · exact ph_1 rfl rfl rfl hY pc
    · exact ph_1 rfl rfl rfl hY pc
    · exact ph_1 rfl rfl rfl hY pc
    · exact ph_2 (xn := "java/lang/IllegalStateException") (ct := 31) (x1 := 1001) rfl rfl rfl rfl (by decide) (by decide) (hY _ wn_405 rfl) (hY _ wn_535 rfl) c1 hY pc
    · exact ph_1 rfl rfl rfl hY pc
    · exact ph_2 (xn := "java/util/NoSuchElementException") (ct := 40) (x1 := 1002) rfl rfl rfl rfl (by decide) (by decide) (hY _ wn_566 rfl) (hY _ wn_577 rfl) c2 hY pc
    · exact ph_2 (xn := "java/util/NoSuchElementException") (ct := 40) (x1 := 1002) rfl rfl rfl rfl (by decide) (by decide) (hY _ wn_566 rfl) (hY _ wn_577 rfl) c2 hY pc
    · exact ph_1 rfl rfl rfl hY pc
    · exact ph_1 rfl rfl rfl hY pc
theorem pk_w_ok {s0 : State} {B : Nat → Nat} (hZ : pk_Z s0 B) {i pc a b : Nat} {ins : Instr} {v : Int32} {ts : List Nat} (hi : i < 114) (hb : pk_bw i pc ins a b v ts = true) : pk_w s0 B i pc ins a b v ts := by
  have hY := hZ.1
  have how := ow_ok i hi
  cases ins with
  | iconst n => exact of_decide_eq_true (p := Int32.ofInt n = v) hb
  | bipush n => exact of_decide_eq_true (p := (Int8.ofInt n).toInt32 = v) hb
  | sipush n => exact of_decide_eq_true (p := (Int16.ofInt n).toInt32 = v) hb
  | iinc k n => exact of_decide_eq_true (p := Int32.ofInt n = v) hb
  | ldc2_w idx =>
    have hb : decide ((tb_ow i, idx, a) ∈ pl_L) = true := hb
    have := pl_ok hY _ (of_decide_eq_true hb)
    rw [how] at this
    exact this
  | goto off => exact of_decide_eq_true (p := (pc : Int) + off = (a : Int)) hb
  | ifCond c off => exact of_decide_eq_true (p := (pc : Int) + off = (a : Int)) hb
  | if_icmp c off => exact of_decide_eq_true (p := (pc : Int) + off = (a : Int)) hb
  | if_acmp c off => exact of_decide_eq_true (p := (pc : Int) + off = (a : Int)) hb
  | tableswitch d lo hi offs =>
    obtain ⟨h1, h2⟩ := Bool.and_eq_true_iff.mp (show (decide (lo = 0 ∧ hi + 1 = (ts.length : Int) ∧ (pc : Int) + d = (a : Int)) && _) = true from hb)
    obtain ⟨h3, h4, h5⟩ := of_decide_eq_true h1
    refine ⟨h3, h4, h5, fun k hk => ?_⟩
    have h6 := List.all_eq_true.mp h2 k (List.mem_range.mpr hk)
    split at h6
    · rename_i off ho
      exact ⟨off, ho, of_decide_eq_true h6⟩
    · cases h6
  | getfield idx =>
    have hb : decide ((tb_ow i, idx, a, b) ∈ pf_L) = true := hb
    have := pf_ok hY _ (of_decide_eq_true hb)
    rw [how] at this
    exact this
  | putfield idx =>
    obtain ⟨h1, h2⟩ := Bool.and_eq_true_iff.mp (show (decide ((tb_ow i, idx, a, b) ∈ pf_L) && (decide (pk_fn a b = false) || decide ((tb_nm i).name = "<init>" ∧ tb_cn a = (tb_nm i).cls))) = true from hb)
    have h3 := pf_ok hY _ (of_decide_eq_true h1)
    rw [how] at h3
    refine ⟨h3, fun r hr => ?_⟩
    obtain ⟨g1, g2⟩ := qk_vc hr
    obtain ⟨r', hr', hbl, -⟩ := h3
    cases hr.symm.trans hr'
    rcases Bool.or_eq_true_iff.mp h2 with h4 | h4
    · left
      have h5 := of_decide_eq_true h4
      unfold pk_fn at h5
      rw [g2] at h5
      exact h5
    · right
      have h5 := of_decide_eq_true h4
      refine ⟨h5.1, ?_⟩
      have h6 := dn_ok a g1 b (by rw [g2]; exact hbl)
      rw [g2] at h6
      rw [h6]
      exact h5.2
  | getstatic idx =>
    have hb : decide ((tb_ow i, idx, a) ∈ ps_L) = true := hb
    have h1 := of_decide_eq_true hb
    have h2 := ps_ok hY _ h1
    rw [how] at h2
    have h3 : 1 ≤ a ∧ a ≤ 4 := by
      have : ∀ q ∈ ps_L, 1 ≤ q.2.2 ∧ q.2.2 ≤ 4 := by decide
      exact this _ h1
    exact ⟨by omega, _, _, _, hZ.2.1 a h3.1 h3.2, h2⟩
  | new idx =>
    intro ha
    have hb : (if 1000 ≤ a then decide ((i, pc, idx, a) ∈ px_L) else decide ((tb_ow i, idx, a) ∈ pn_L)) = true := hb
    rw [if_neg (by omega)] at hb
    have := pn_ok hY _ (of_decide_eq_true hb)
    rw [how] at this
    exact this
  | newarray t =>
    have hb : decide (t = .int ∨ t = .char ∨ t = .boolean ∨ t = .long) = true := hb
    rcases of_decide_eq_true hb with rfl | rfl | rfl | rfl
    · exact ac_int hY
    · exact ac_char hY
    · exact ac_boolean hY
    · exact ac_long hY
  | anewarray idx =>
    have hb : decide ((tb_ow i, idx, a) ∈ pa_L) = true := hb
    have := pa_ok hY _ (of_decide_eq_true hb)
    rw [how] at this
    exact this
  | invokespecial idx =>
    intro ha
    have hb : (if 1000 ≤ a then decide ((tb_ow i, idx, a) ∈ bi_L ∧ a = 1000) else _) = true := hb
    rw [if_pos ha] at hb
    obtain ⟨h1, h2⟩ := of_decide_eq_true hb
    have h3 := bi_ok hY _ h1
    rw [how] at h3
    subst h2
    exact ⟨h3, bo_1 hY, bo_2 hY⟩
  | invokestatic idx =>
    by_cases ha : 1001 ≤ a
    · have hb : (if 1001 ≤ a then decide ((tb_ow i, idx, a) ∈ bi_L ∧ a ≤ 1003) else _) = true := hb
      rw [if_pos ha] at hb
      obtain ⟨h1, h2⟩ := of_decide_eq_true hb
      have h3 := bi_ok hY _ h1
      rw [how] at h3
      refine ⟨fun e => ?_, fun e => ?_, fun e => ?_⟩
      · subst e
        exact ⟨h3, bo_3 hY, bo_7 hY, bo_9 hY⟩
      · subst e
        exact ⟨h3, bo_4 hY, bo_7 hY, bo_10 hY⟩
      · have e2 : a = 1003 := by omega
        subst e2
        exact ⟨h3, bo_6 hY, bo_5 hY, bo_8 hY⟩
    · exact ⟨fun e => by omega, fun e => by omega, fun e => by omega⟩
  | _ => trivial
theorem pk_c_ok {s0 : State} {B : Nat → Nat} (hZ : pk_Z s0 B) {i pc a b : Nat} {ins : Instr} {v : Int32} {ts : List Nat} (hi : i < 114) (hb : pk_bw i pc ins a b v ts = true) : pk_c s0 i pc ins a b := by
  have hY := hZ.1
  have how := ow_ok i hi
  cases ins with
  | new idx =>
    intro ha
    have hb : (if 1000 ≤ a then decide ((i, pc, idx, a) ∈ px_L) else decide ((tb_ow i, idx, a) ∈ pn_L)) = true := hb
    rw [if_pos ha] at hb
    exact px_ok hZ (i, pc, idx, a) (of_decide_eq_true hb)
  | invokevirtual idx =>
    have hb : decide ((tb_ow i, idx, a) ∈ pj_L ∧ a ∈ md_L ∧ a ∈ im_L ∧ a ∈ sv_L ∧ tb_cn (tb_rc a) = (tb_nm a).cls ∧ (parseMethodDescriptor (tb_nm a).desc).map (fun d => d.parameters.length + 1) = some b) = true := hb
    obtain ⟨h1, h2, h3, h4, h5, h6⟩ := of_decide_eq_true hb
    have h7 := pj_ok hY _ h1
    rw [how] at h7
    exact ⟨md_ok hY a h2, ph_ok hZ i pc hi, h7, im_ok hY a h3, sv_ok hY a h4, h5, h6⟩
  | invokestatic idx =>
    intro ha
    have hb : (if 1001 ≤ a then _ else decide ((tb_ow i, idx, a) ∈ pj_L ∧ a ∈ md_L ∧ a ∈ sm_L ∧ (parseMethodDescriptor (tb_nm a).desc).map (fun d => d.parameters.length) = some b)) = true := hb
    rw [if_neg (by omega)] at hb
    obtain ⟨h1, h2, h3, h6⟩ := of_decide_eq_true hb
    have h7 := pj_ok hY _ h1
    rw [how] at h7
    exact ⟨md_ok hY a h2, ph_ok hZ i pc hi, h7, sm_ok hY a h3, h6⟩
  | invokespecial idx =>
    intro ha
    have hb : (if 1000 ≤ a then _ else decide ((tb_ow i, idx, a) ∈ pj_L ∧ a ∈ md_L ∧ a ∈ im_L ∧ tb_hh a = [] ∧ tb_re a = none ∧ (tb_nm a).name = "<init>" ∧ (parseMethodDescriptor (tb_nm a).desc).map (fun d => d.parameters.length + 1) = some b)) = true := hb
    rw [if_neg (by omega)] at hb
    obtain ⟨h1, h2, h3, h4, h5, h6, h8⟩ := of_decide_eq_true hb
    have h7 := pj_ok hY _ h1
    rw [how] at h7
    exact ⟨md_ok hY a h2, ph_ok hZ i pc hi, h7, im_ok hY a h3, h4, h5, h6, h8⟩
  | _ => trivial
/-- EVERY ROW OF THE TABLES SAYS WHAT THE MACHINE HAS. -/
theorem pk_T_ok {s0 : State} {B : Nat → Nat} (hZ : pk_Z s0 B) : pk_T s0 B := by
  intro i pc ins a b v ts h
  by_cases hi : i < 114
  · unfold tb_in at h
    obtain ⟨q, hq, he⟩ := Option.map_eq_some_iff.mp h
    have hmem : q ∈ tb_li i := List.mem_of_find?_eq_some hq
    have hpc : q.1 = pc := by
      have := List.find?_some hq
      simpa using this
    have hb := List.all_eq_true.mp (ck_all i hi) q hmem
    obtain ⟨pc', ins', a', b', v', ts'⟩ := q
    cases he
    simp only at hpc
    subst hpc
    unfold pk_b at hb
    obtain ⟨hd, hb⟩ := Bool.and_eq_true_iff.mp hb
    have hd := of_decide_eq_true hd
    exact ⟨hd, pk_w_ok hZ hi hb, pk_c_ok hZ hi hb⟩
  · unfold tb_in at h
    rw [tb_li_none i (by omega)] at h
    cases h
theorem pk_G_ok {s0 : State} {D : va_G} {B : Nat → Nat} (hZ : pk_Z s0 B) (hB : pw_B s0 B) (hK : va_K D vwCl [] s0) : pw_G s0 D B := ⟨hB, hK, pk_U hZ.1, pk_nm, fun c r h => by
  obtain ⟨h1, h2⟩ := qk_vc h
  subst h2
  exact cn_ok c h1⟩
end
section
/-! From the pure machine to the claim: what is left is a statement of the pure machine alone. -/
def pu_M0 (L : Nat) (xs : Nat → Int32) : pm_M := (0, 0, fun p => if p = 0 then .inl (.int, L, fun j => .int (xs j)) else .inr (1000, []))
/-- THE LAW ON THE PURE MACHINE: on every script of at most 2048 ints it comes to its end with 1, in the claim's room -/
def pu_Law : Prop := ∀ (L : Nat) (xs : Nat → Int32), L ≤ 2048 → ∃ (n d : Nat) (M' : pm_M), d ≤ 800 ∧ pm_ex n d 113 0 [some (.ref 0), none, none, none, none, none, none] [] (pu_M0 L xs) = some (.inl (some (.int 1)), M') ∧ M'.1 ≤ 601024 ∧ M'.2.1 ≤ 7293034
def qs_At (p : Program) (s : State) (m : MethodId) (meth : Method) (c : Code) (b L : Nat) (xs : Nat → Int32) : Prop :=
  p.tables.exec = Jvm.exec ∧ c.code = code ∧ meth.sig.returnType = ret ∧ c.maxLocals = 7 ∧ s.vm.findClass "MemoRuntimeLaw" = some m.cls ∧ (∀ w ∈ lw_tbl, w.before #[Value.ref b] s = true) ∧ va_X b L xs s s.heap ∧ b < s.heap.size ∧ meth.locks = false ∧ (Jvm.Cond.and given_1 narrow_1).before #[Value.ref b] s = true
theorem qs_Y {s : State} {b : Nat} (hts : ∀ w ∈ lw_tbl, w.before #[Value.ref b] s = true) : pk_Y s := by
  intro w hw ho
  have h := hts w hw
  unfold pk_ok at ho
  split at ho
  · exact h
  · exact h
  · exact va_tabs ho rfl h
theorem qs_K {s : State} {b : Nat} (hts : ∀ w ∈ lw_tbl, w.before #[Value.ref b] s = true) : ∃ D : va_G, va_K D vwCl [] s := by
  have h0 : ∀ c : Nat, ∃ q : ClassId × (Nat → Nat), ∀ r : vw_C, vwCl[c]? = some r → u_Kn s r.1 r.2.1 r.2.2 q.1 q.2 := by
    intro c
    cases hr : vwCl[c]? with
    | none => exact ⟨(0, fun _ => 0), fun r h => by cases h⟩
    | some r =>
      have hm : (∀ w ∈ u_ws r.1 r.2.1 r.2.2, w ∈ lw_tbl) ∧ Cond.instantiable r.1 r.2.2 ∈ lw_tbl := by
        obtain ⟨h1, h2⟩ := qk_vc hr
        subst h2
        match c, h1 with
        | 0, _ => exact ⟨ul_0, by decide +kernel⟩
        | 1, _ => exact ⟨ul_1, by decide +kernel⟩
        | 2, _ => exact ⟨ul_2, by decide +kernel⟩
        | 3, _ => exact ⟨ul_3, by decide +kernel⟩
        | 4, _ => exact ⟨ul_4, by decide +kernel⟩
        | 5, _ => exact ⟨ul_5, by decide +kernel⟩
        | 6, _ => exact ⟨ul_6, by decide +kernel⟩
        | 7, _ => exact ⟨ul_7, by decide +kernel⟩
        | n + 8, h => omega
      obtain ⟨cC, iS, h⟩ := u_known hts hm.1 (hts _ hm.2)
      exact ⟨(cC, iS), fun r' h' => by cases h'; exact h⟩
  obtain ⟨f, hf⟩ := Classical.axiomOfChoice h0
  exact ⟨(fun c => (f c).1, fun c => (f c).2), fun c q hq => hf c q hq, fun k q hk => by simp at hk⟩
theorem qs_Z {s : State} {b : Nat} (hts : ∀ w ∈ lw_tbl, w.before #[Value.ref b] s = true) (hgv : (Jvm.Cond.and given_1 narrow_1).before #[Value.ref b] s = true) (hb : b < s.heap.size) : ∃ B : Nat → Nat, B 0 = b ∧ pk_Z s B ∧ pw_B s B := by
  have hs := flat_of_before _ hgv
  have hY := qs_Y hts
  have ex : ∀ n, (Cond.exactly (.static "MemoRuntime$Outcome" n "LMemoRuntime$Outcome;") "MemoRuntime$Outcome").before #[Value.ref b] s = true → (Cond.laysStatic "MemoRuntime$Outcome" n "LMemoRuntime$Outcome;") ∈ lw_tbl → ∃ t, (Term.static "MemoRuntime$Outcome" n "LMemoRuntime$Outcome;").eval #[Value.ref b] s none [] s = some (.ref t) ∧ t < s.heap.size ∧ va_Z "MemoRuntime$Outcome" n "LMemoRuntime$Outcome;" (.ref t) (fun q => s.heap.size ≤ q) s s.heap := by
    intro n h1 h2
    obtain ⟨a, c, cell, k, q1, q2, q3, q4, q5, q6, -⟩ := Cond.exactly_spec h1
    exact ⟨a, q1, (Array.getElem?_eq_some_iff.mp q3).1, va_Zof (hts _ h2) (hts (.initialized "MemoRuntime$Outcome") (by decide +kernel)) q1 (fun a ha => Nat.not_le.mpr ha)⟩
  obtain ⟨t1, e1, l1, z1⟩ := ex "ANSWERED" (hs _ (by decide +kernel)) (by decide +kernel)
  obtain ⟨t2, e2, l2, z2⟩ := ex "STALE" (hs _ (by decide +kernel)) (by decide +kernel)
  obtain ⟨t3, e3, l3, z3⟩ := ex "CIRCLE" (hs _ (by decide +kernel)) (by decide +kernel)
  obtain ⟨t4, e4, l4, z4⟩ := ex "GIVEN_UP" (hs _ (by decide +kernel)) (by decide +kernel)
  have n31 : t3 ≠ t1 := va_neR (hs _ (by decide +kernel)) e3 e1
  have n34 : t3 ≠ t4 := va_neR (hs _ (by decide +kernel)) e3 e4
  have n14 : t1 ≠ t4 := va_neR (hs _ (by decide +kernel)) e1 e4
  have n32 : t3 ≠ t2 := va_neR (hs _ (by decide +kernel)) e3 e2
  have n12 : t1 ≠ t2 := va_neR (hs _ (by decide +kernel)) e1 e2
  have n42 : t4 ≠ t2 := va_neR (hs _ (by decide +kernel)) e4 e2
  obtain ⟨cM, kM, hcM, -⟩ := Cond.instantiable_spec (hts (.instantiable "MemoRuntime" 15) (by decide +kernel))
  have str : ∀ (k : Nat) (tx : String), Cond.stringRef "MemoRuntime" k tx ∈ lw_tbl → ∃ sa, vk_R "MemoRuntime" k tx sa s := by
    intro k tx h
    obtain ⟨_, _, _, sa, -, -, -, -, -, hev⟩ := Cond.stringRef_spec hcM (hts _ h)
    exact ⟨sa, vk_R.of (hts _ h) hev⟩
  refine ⟨fun p => if p = 1 then t1 else if p = 2 then t2 else if p = 3 then t3 else if p = 4 then t4 else b, rfl, ⟨hY, ?_, ?_, ⟨#[Value.ref b], hs _ (by decide +kernel), hs _ (by decide +kernel), hts _ (by decide +kernel), hts _ (by decide +kernel), hts _ (by decide +kernel)⟩, ?_, ?_⟩, ?_, ?_⟩
  · intro p h1 h2
    rcases (show p = 1 ∨ p = 2 ∨ p = 3 ∨ p = 4 by omega) with rfl | rfl | rfl | rfl
    · exact z1
    · exact z2
    · exact z3
    · exact z4
  · refine List.forall_mem_cons.mpr ⟨str _ _ (by decide +kernel), List.forall_mem_cons.mpr ⟨str _ _ (by decide +kernel), List.forall_mem_cons.mpr ⟨str _ _ (by decide +kernel), List.forall_mem_cons.mpr ⟨str _ _ (by decide +kernel), fun _ h => absurd h List.not_mem_nil⟩⟩⟩⟩
  · exact hs (.not (.castable "java/lang/IllegalStateException" "java/lang/IllegalArgumentException")) (by decide +kernel)
  · exact hs (.not (.castable "java/util/NoSuchElementException" "java/lang/IllegalArgumentException")) (by decide +kernel)
  · intro p hp
    dsimp only
    split
    · exact l1
    · split
      · exact l2
      · split
        · exact l3
        · split
          · exact l4
          · exact hb
  · intro p q h1 h2 h3 h4 h
    rcases (show p = 1 ∨ p = 2 ∨ p = 3 ∨ p = 4 by omega) with rfl | rfl | rfl | rfl <;> rcases (show q = 1 ∨ q = 2 ∨ q = 3 ∨ q = 4 by omega) with rfl | rfl | rfl | rfl <;> simp at h <;> first | rfl | (exfalso; first | exact n12 h | exact n12 h.symm | exact n31 h | exact n31 h.symm | exact n14 h | exact n14 h.symm | exact n32 h | exact n32 h.symm | exact n34 h | exact n34 h.symm | exact n42 h | exact n42 h.symm)
set_option maxHeartbeats 4000000 in
/-- the law's walk, out of the pure law -/
theorem qs_start (hpu : pu_Law) {p : Program} {e : Env} {s : State} {m : MethodId} {below : List Frame} {meth : Method} {c : Code} (l : Launch) (hfl : l.flags = flags0) (hne : c.exceptionTable.isEmpty = true) (hnm : meth.name = "law") {b L : Nat} {xs : Nat → Int32} (hL : L ≤ 2048) (C0 : qs_At p s m meth c b L xs) {Q : State → Prop} (hQ : ∀ t, (∃ o, t.status = .running ∧ Ended t below o ∧ o = .returned (some (.int 1)) ∧ s.WarmedH t.vm ∧ s.sameButNew ({ t with vm := s.vm } : State) [] 601024 7293034) → Q t) : W p l e room_1 s m #[Value.ref b] below meth c s.heap [] 0 0 Q (entryFrame m ([Value.ref b] : List Value).toArray 7) := by
  obtain ⟨hx, hb, hr, hml, hown, hts, hX, hbl, hlk, hgv⟩ := C0
  obtain ⟨D, hK⟩ := qs_K hts
  obtain ⟨B, hB0, hZ, hB⟩ := qs_Z hts hgv hbl
  obtain ⟨n, d, M', hd, hex, hm1, hm2⟩ := hpu L xs hL
  have had0 : pw_ad s B 0 = b := by unfold pw_ad; rw [if_pos (by omega), hB0]
  have hW : pw_W s D (pw_ad s B) s.heap (pu_M0 L xs) := by
    refine ⟨rfl, fun _ _ => rfl, fun p => ?_⟩
    show pw_at s D (pw_ad s B) s.heap p (if p = 0 then _ else _)
    by_cases hp : p = 0
    · subst hp
      rw [if_pos rfl]
      obtain ⟨scr, h1, h2, h3, h4, h5⟩ := hX
      exact ⟨scr, by rw [had0]; exact h1, h2, h3, h4, fun j hj => h5 j hj, fun C hC => by cases hC⟩
    · rw [if_neg hp]
      intro r hr9
      exfalso
      have : vwCl.length ≤ 1000 := by decide
      have := (List.getElem?_eq_some_iff.mp hr9).1
      omega
  have hC : pw_C s 113 p s m meth c := by
    refine ⟨hx, hb, hml, hown, hr, hlk, hnm, ?_, State.WarmedH.refl s⟩
    have : c.exceptionTable.toList = [] := by
      have h9 := Array.isEmpty_iff.mp hne
      rw [h9]
    rw [this]
    rfl
  obtain ⟨e1, e2⟩ := pw_ent (ad := pw_ad s B) (j := 113) (as := [.ref 0]) (L := [some (.ref 0), none, none, none, none, none, none]) (by decide +kernel)
  have w := pw_sound (s0 := s) (D := D) (B := B) (l := l) (by rw [hfl]; rfl) (pk_G_ok hZ hB hK) (pk_T_ok hZ) n d 113 0 _ [] (pu_M0 L xs) _ M' hex (p := p) (e := e) (R := room_1) (args := #[Value.ref b]) (below := below) (locs := []) (m0 := 0) (k0 := 0) hC e1 e2 hW (fun y hy => by cases hy) (Nat.zero_le _) (Nat.zero_le _) (by show M'.1 - 0 ≤ 601024; omega) (by show M'.2.1 - 0 ≤ 7293034; omega) (by show d + 8 ≤ 2048; omega) (by show 100 * d + 200 ≤ 84000; omega)
  rw [lg_entry_eq]
  have hv : ([.ref 0] : List Value).map (pw_tr (pw_ad s B)) = [.ref b] := by
    show [Value.ref (pw_ad s B 0)] = _
    rw [had0]
  rw [hv] at w
  refine pw_mono (fun t ht => hQ t ?_) w
  obtain ⟨o, Lc, h1, h2, h3, h4, h5, -, h7⟩ := ht
  exact ⟨o, h1, h2, h7, h3, h4.weaken (fun y hy hlt => absurd hlt (Nat.not_lt.mpr (h5 y hy))) (by omega) (by omega)⟩
end
section
/-! Rows of the pure machine: from a frame's place to what its method comes to. -/
def Ev (d i pc : Nat) (L : pm_L) (st : List Value) (M : pm_M) (Q : pm_R → pm_M → Prop) : Prop := ∃ (n : Nat) (r : pm_R) (M' : pm_M), pm_ex n d i pc L st M = some (r, M') ∧ Q r M'
theorem pm_ex_more : ∀ (n d i pc : Nat) (L : pm_L) (st : List Value) (M : pm_M) (x : pm_R × pm_M), pm_ex n d i pc L st M = some x → ∀ m, n ≤ m → pm_ex m d i pc L st M = some x := by
  intro n
  induction n with
  | zero => intro d i pc L st M x h; cases h
  | succ n ih =>
    intro d i pc L st M x h m hm
    obtain ⟨m, rfl⟩ : ∃ k, m = k + 1 := ⟨m - 1, by omega⟩
    rw [pm_ex] at h ⊢
    cases hs : pm_st i pc L st M with
    | none => rw [hs] at h; cases h
    | some S =>
      rw [hs] at h
      rcases S with F | ⟨j, as, rest⟩ | r
      · exact ih _ _ _ _ _ _ _ h m (by omega)
      · dsimp only at h ⊢
        cases d with
        | zero => cases h
        | succ d =>
          dsimp only at h ⊢
          cases hc : pm_ex n d j 0 ((pm_en j as).getD []) [] M with
          | none => rw [hc] at h; cases h
          | some q =>
            rw [ih _ _ _ _ _ _ _ hc m (by omega)]
            rw [hc] at h
            obtain ⟨v | x9, M'⟩ := q
            · exact ih _ _ _ _ _ _ _ h m (by omega)
            · dsimp only at h ⊢
              split at h
              · cases h
              · exact h
              · exact ih _ _ _ _ _ _ _ h m (by omega)
      · exact h
section EV
variable {d i pc : Nat} {L : pm_L} {st : List Value} {M : pm_M} {Q : pm_R → pm_M → Prop} {a b : Nat} {v : Int32} {ts : List Nat}
theorem ev_st {F : pm_F} (hs : pm_st i pc L st M = some (.inl F)) (k : Ev d i F.1 F.2.1 F.2.2.1 F.2.2.2 Q) : Ev d i pc L st M Q := by
  obtain ⟨n, r, M', h, hq⟩ := k
  exact ⟨n + 1, r, M', by rw [pm_ex, hs]; exact h, hq⟩
theorem ev_end {r : pm_R} {M' : pm_M} (hs : pm_st i pc L st M = some (.inr (.inr (r, M')))) (h : Q r M') : Ev d i pc L st M Q := ⟨1, r, M', by rw [pm_ex, hs], h⟩
theorem ev_mono {Q' : pm_R → pm_M → Prop} (k : Ev d i pc L st M Q) (h : ∀ r M', Q r M' → Q' r M') : Ev d i pc L st M Q' := by
  obtain ⟨n, r, M', h1, h2⟩ := k
  exact ⟨n, r, M', h1, h r M' h2⟩
/-- a call: what the callee comes to, and what comes behind -/
theorem ev_call {j : Nat} {as rest : List Value} {L0 : pm_L} {P : pm_R → pm_M → Prop} (hs : pm_st i pc L st M = some (.inr (.inl (j, as, rest)))) (hL : pm_en j as = some L0) (hc : Ev d j 0 L0 [] M P) (kk : ∀ r M', P r M' → match r with
    | .inl v => Ev (d + 1) i (pc + 3) L (v.toList ++ rest) M' Q
    | .inr x => match tb_hn i pc x with
      | none => False
      | some none => Q (.inr x) M'
      | some (some h) => Ev (d + 1) i h L [.ref (7 + M'.1)] M' Q) : Ev (d + 1) i pc L st M Q := by
  obtain ⟨n, r, M', h1, h2⟩ := hc
  have h3 := kk r M' h2
  cases r with
  | inl v =>
    obtain ⟨n2, r2, M2, h4, h5⟩ := h3
    refine ⟨n + n2 + 1, r2, M2, ?_, h5⟩
    rw [pm_ex, hs]
    dsimp only
    rw [hL, Option.getD_some, pm_ex_more _ _ _ _ _ _ _ _ h1 (n + n2) (by omega)]
    exact pm_ex_more _ _ _ _ _ _ _ _ h4 _ (by omega)
  | inr x =>
    dsimp only at h3
    split at h3
    · cases h3
    · rename_i ht
      refine ⟨n + 1, .inr x, M', ?_, h3⟩
      rw [pm_ex, hs]
      dsimp only
      rw [hL, Option.getD_some, h1]
      dsimp only
      rw [ht]
    · rename_i h9 ht
      obtain ⟨n2, r2, M2, h4, h5⟩ := h3
      refine ⟨n + n2 + 1, r2, M2, ?_, h5⟩
      rw [pm_ex, hs]
      dsimp only
      rw [hL, Option.getD_some, pm_ex_more _ _ _ _ _ _ _ _ h1 (n + n2) (by omega)]
      dsimp only
      rw [ht]
      exact pm_ex_more _ _ _ _ _ _ _ _ h4 _ (by omega)
/-- a call that returns -/
theorem ev_cl {j : Nat} {as rest : List Value} {L0 : pm_L} {P : Option Value → pm_M → Prop} (hs : pm_st i pc L st M = some (.inr (.inl (j, as, rest)))) (hL : pm_en j as = some L0) (hc : Ev d j 0 L0 [] M (fun r M' => ∃ v, r = .inl v ∧ P v M')) (kk : ∀ v M', P v M' → Ev (d + 1) i (pc + 3) L (v.toList ++ rest) M' Q) : Ev (d + 1) i pc L st M Q :=
  ev_call hs hL hc (fun r M' h => by obtain ⟨v, rfl, h2⟩ := h; exact kk v M' h2)
def pm_sp : Instr → Bool
  | .ireturn => true
  | .areturn => true
  | .return_ => true
  | .new _ => true
  | .invokevirtual _ => true
  | .invokestatic _ => true
  | .invokespecial _ => true
  | _ => false
theorem pm_st_nx {ins : Instr} (ht : tb_in i pc = some (ins, a, b, v, ts)) (hs : pm_sp ins = false) : pm_st i pc L st M = (pm_nx ins a b v ts pc L st M).map .inl := by
  unfold pm_st
  rw [ht]
  cases ins <;> first | rfl | (cases hs)
theorem ev_n {ins : Instr} {F : pm_F} (ht : tb_in i pc = some (ins, a, b, v, ts)) (hs : pm_sp ins = false) (h : pm_nx ins a b v ts pc L st M = some F) (k : Ev d i F.1 F.2.1 F.2.2.1 F.2.2.2 Q) : Ev d i pc L st M Q :=
  ev_st (F := F) (by rw [pm_st_nx ht hs, h]; rfl) k
theorem ev_iconst {n : Int} (ht : tb_in i pc = some (.iconst n, a, b, v, ts))  (kk : Ev d i (pc + 1) L (.int v :: st) M Q) : Ev d i pc L (st) M Q := ev_n (F := (pc + 1, L, (.int v :: st), M)) ht rfl (rfl) kk
theorem ev_bipush {n : Int} (ht : tb_in i pc = some (.bipush n, a, b, v, ts))  (kk : Ev d i (pc + 2) L (.int v :: st) M Q) : Ev d i pc L (st) M Q := ev_n (F := (pc + 2, L, (.int v :: st), M)) ht rfl (rfl) kk
theorem ev_sipush {n : Int} (ht : tb_in i pc = some (.sipush n, a, b, v, ts))  (kk : Ev d i (pc + 3) L (.int v :: st) M Q) : Ev d i pc L (st) M Q := ev_n (F := (pc + 3, L, (.int v :: st), M)) ht rfl (rfl) kk
theorem ev_lconst {n : Fin 2} (ht : tb_in i pc = some (.lconst n, a, b, v, ts))  (kk : Ev d i (pc + 1) L (.long (Int64.ofNat (n : Nat)) :: st) M Q) : Ev d i pc L (st) M Q := ev_n (F := (pc + 1, L, (.long (Int64.ofNat (n : Nat)) :: st), M)) ht rfl (rfl) kk
theorem ev_ldc2 {n : Nat} (ht : tb_in i pc = some (.ldc2_w n, a, b, v, ts))  (kk : Ev d i (pc + 3) L (.long (Int64.ofNat a) :: st) M Q) : Ev d i pc L (st) M Q := ev_n (F := (pc + 3, L, (.long (Int64.ofNat a) :: st), M)) ht rfl (rfl) kk
theorem ev_iload_n {k : Fin 4} {x : Int32} (ht : tb_in i pc = some (.iload_n k, a, b, v, ts)) (hL : pm_get L k = some (.int x)) (kk : Ev d i (pc + 1) L (.int x :: st) M Q) : Ev d i pc L (st) M Q := ev_n (F := (pc + 1, L, (.int x :: st), M)) ht rfl (by simp [pm_nx, pm_ld, hL, pm_isI]) kk
theorem ev_iload {k : Nat} {x : Int32} (ht : tb_in i pc = some (.iload k, a, b, v, ts)) (hL : pm_get L k = some (.int x)) (kk : Ev d i (pc + 2) L (.int x :: st) M Q) : Ev d i pc L (st) M Q := ev_n (F := (pc + 2, L, (.int x :: st), M)) ht rfl (by simp [pm_nx, pm_ld, hL, pm_isI]) kk
theorem ev_lload_n {k : Fin 4} {x : Int64} (ht : tb_in i pc = some (.lload_n k, a, b, v, ts)) (hL : pm_get L k = some (.long x)) (kk : Ev d i (pc + 1) L (.long x :: st) M Q) : Ev d i pc L (st) M Q := ev_n (F := (pc + 1, L, (.long x :: st), M)) ht rfl (by simp [pm_nx, pm_ld, hL, pm_isJ]) kk
theorem ev_aload_n {k : Fin 4} {x : Nat} (ht : tb_in i pc = some (.aload_n k, a, b, v, ts)) (hL : pm_get L k = some (.ref x)) (kk : Ev d i (pc + 1) L (.ref x :: st) M Q) : Ev d i pc L (st) M Q := ev_n (F := (pc + 1, L, (.ref x :: st), M)) ht rfl (by simp [pm_nx, pm_ld, hL, pm_isA]) kk
theorem ev_aload {k : Nat} {x : Nat} (ht : tb_in i pc = some (.aload k, a, b, v, ts)) (hL : pm_get L k = some (.ref x)) (kk : Ev d i (pc + 2) L (.ref x :: st) M Q) : Ev d i pc L (st) M Q := ev_n (F := (pc + 2, L, (.ref x :: st), M)) ht rfl (by simp [pm_nx, pm_ld, hL, pm_isA]) kk
theorem ev_istore_n {k : Fin 4} {x : Int32} {L' : pm_L} (ht : tb_in i pc = some (.istore_n k, a, b, v, ts)) (hk : (k : Nat) < L.length) (hL : pm_set L k (.int x) = L') (kk : Ev d i (pc + 1) L' st M Q) : Ev d i pc L (.int x :: st) M Q := ev_n (F := (pc + 1, L', st, M)) ht rfl (by subst hL; simp [pm_nx, pm_v1, hk, pm_isI]) kk
theorem ev_istore {k : Nat} {x : Int32} {L' : pm_L} (ht : tb_in i pc = some (.istore k, a, b, v, ts)) (hk : (k : Nat) < L.length) (hL : pm_set L k (.int x) = L') (kk : Ev d i (pc + 2) L' st M Q) : Ev d i pc L (.int x :: st) M Q := ev_n (F := (pc + 2, L', st, M)) ht rfl (by subst hL; simp [pm_nx, pm_v1, hk, pm_isI]) kk
theorem ev_astore_n {k : Fin 4} {x : Nat} {L' : pm_L} (ht : tb_in i pc = some (.astore_n k, a, b, v, ts)) (hk : (k : Nat) < L.length) (hL : pm_set L k (.ref x) = L') (kk : Ev d i (pc + 1) L' st M Q) : Ev d i pc L (.ref x :: st) M Q := ev_n (F := (pc + 1, L', st, M)) ht rfl (by subst hL; simp [pm_nx, pm_v1, hk, pm_isA]) kk
theorem ev_astore {k : Nat} {x : Nat} {L' : pm_L} (ht : tb_in i pc = some (.astore k, a, b, v, ts)) (hk : (k : Nat) < L.length) (hL : pm_set L k (.ref x) = L') (kk : Ev d i (pc + 2) L' st M Q) : Ev d i pc L (.ref x :: st) M Q := ev_n (F := (pc + 2, L', st, M)) ht rfl (by subst hL; simp [pm_nx, pm_v1, hk, pm_isA]) kk
theorem ev_iinc {k : Nat} {n : Int} {x : Int32} {L' : pm_L} (ht : tb_in i pc = some (.iinc k n, a, b, v, ts)) (hx : pm_get L k = some (.int x)) (hk : k < L.length) (hL : pm_set L k (.int (x + v)) = L') (kk : Ev d i (pc + 3) L' st M Q) : Ev d i pc L (st) M Q := ev_n (F := (pc + 3, L', st, M)) ht rfl (by subst hL; simp [pm_nx, pm_ld, hx, hk]) kk
theorem ev_iadd {x y : Int32} (ht : tb_in i pc = some (.iadd, a, b, v, ts))  (kk : Ev d i (pc + 1) L (.int (x + y) :: st) M Q) : Ev d i pc L (.int y :: .int x :: st) M Q := ev_n (F := (pc + 1, L, (.int (x + y) :: st), M)) ht rfl (rfl) kk
theorem ev_isub {x y : Int32} (ht : tb_in i pc = some (.isub, a, b, v, ts))  (kk : Ev d i (pc + 1) L (.int (x - y) :: st) M Q) : Ev d i pc L (.int y :: .int x :: st) M Q := ev_n (F := (pc + 1, L, (.int (x - y) :: st), M)) ht rfl (rfl) kk
theorem ev_imul {x y : Int32} (ht : tb_in i pc = some (.imul, a, b, v, ts))  (kk : Ev d i (pc + 1) L (.int (x * y) :: st) M Q) : Ev d i pc L (.int y :: .int x :: st) M Q := ev_n (F := (pc + 1, L, (.int (x * y) :: st), M)) ht rfl (rfl) kk
theorem ev_iand {x y : Int32} (ht : tb_in i pc = some (.iand, a, b, v, ts))  (kk : Ev d i (pc + 1) L (.int (x &&& y) :: st) M Q) : Ev d i pc L (.int y :: .int x :: st) M Q := ev_n (F := (pc + 1, L, (.int (x &&& y) :: st), M)) ht rfl (rfl) kk
theorem ev_idiv {x y : Int32} (ht : tb_in i pc = some (.idiv, a, b, v, ts)) (hy : ¬ y = 0) (kk : Ev d i (pc + 1) L (.int (x / y) :: st) M Q) : Ev d i pc L (.int y :: .int x :: st) M Q := ev_n (F := (pc + 1, L, (.int (x / y) :: st), M)) ht rfl (by simp [pm_nx, pm_i2, hy]) kk
theorem ev_irem {x y : Int32} (ht : tb_in i pc = some (.irem, a, b, v, ts)) (hy : ¬ y = 0) (kk : Ev d i (pc + 1) L (.int (x - x / y * y) :: st) M Q) : Ev d i pc L (.int y :: .int x :: st) M Q := ev_n (F := (pc + 1, L, (.int (x - x / y * y) :: st), M)) ht rfl (by simp [pm_nx, pm_i2, hy]) kk
theorem ev_i2l {x : Int32} (ht : tb_in i pc = some (.i2l, a, b, v, ts))  (kk : Ev d i (pc + 1) L (.long x.toInt64 :: st) M Q) : Ev d i pc L (.int x :: st) M Q := ev_n (F := (pc + 1, L, (.long x.toInt64 :: st), M)) ht rfl (rfl) kk
theorem ev_i2c {x : Int32} (ht : tb_in i pc = some (.i2c, a, b, v, ts))  (kk : Ev d i (pc + 1) L (.int (x.toUInt32 % 65536).toInt32 :: st) M Q) : Ev d i pc L (.int x :: st) M Q := ev_n (F := (pc + 1, L, (.int (x.toUInt32 % 65536).toInt32 :: st), M)) ht rfl (rfl) kk
theorem ev_l2i {x : Int64} (ht : tb_in i pc = some (.l2i, a, b, v, ts))  (kk : Ev d i (pc + 1) L (.int x.toInt32 :: st) M Q) : Ev d i pc L (.long x :: st) M Q := ev_n (F := (pc + 1, L, (.int x.toInt32 :: st), M)) ht rfl (rfl) kk
theorem ev_lcmp {x y : Int64} (ht : tb_in i pc = some (.lcmp, a, b, v, ts))  (kk : Ev d i (pc + 1) L (.int (lg_cmp x y) :: st) M Q) : Ev d i pc L (.long y :: .long x :: st) M Q := ev_n (F := (pc + 1, L, (.int (lg_cmp x y) :: st), M)) ht rfl (rfl) kk
theorem ev_land {x y : Int64} (ht : tb_in i pc = some (.land, a, b, v, ts))  (kk : Ev d i (pc + 1) L (.long (x &&& y) :: st) M Q) : Ev d i pc L (.long y :: .long x :: st) M Q := ev_n (F := (pc + 1, L, (.long (x &&& y) :: st), M)) ht rfl (rfl) kk
theorem ev_lor {x y : Int64} (ht : tb_in i pc = some (.lor, a, b, v, ts))  (kk : Ev d i (pc + 1) L (.long (x ||| y) :: st) M Q) : Ev d i pc L (.long y :: .long x :: st) M Q := ev_n (F := (pc + 1, L, (.long (x ||| y) :: st), M)) ht rfl (rfl) kk
theorem ev_lshl {x : Int64} {y : Int32} (ht : tb_in i pc = some (.lshl, a, b, v, ts))  (kk : Ev d i (pc + 1) L (.long (x <<< (y.toInt64 &&& 63)) :: st) M Q) : Ev d i pc L (.int y :: .long x :: st) M Q := ev_n (F := (pc + 1, L, (.long (x <<< (y.toInt64 &&& 63)) :: st), M)) ht rfl (rfl) kk
theorem ev_lshr {x : Int64} {y : Int32} (ht : tb_in i pc = some (.lshr, a, b, v, ts))  (kk : Ev d i (pc + 1) L (.long (x >>> (y.toInt64 &&& 63)) :: st) M Q) : Ev d i pc L (.int y :: .long x :: st) M Q := ev_n (F := (pc + 1, L, (.long (x >>> (y.toInt64 &&& 63)) :: st), M)) ht rfl (rfl) kk
theorem ev_lushr {x : Int64} {y : Int32} (ht : tb_in i pc = some (.lushr, a, b, v, ts))  (kk : Ev d i (pc + 1) L (.long ((x.toUInt64 >>> (y.toInt64.toUInt64 &&& Int64.toUInt64 63)).toInt64) :: st) M Q) : Ev d i pc L (.int y :: .long x :: st) M Q := ev_n (F := (pc + 1, L, (.long ((x.toUInt64 >>> (y.toInt64.toUInt64 &&& Int64.toUInt64 63)).toInt64) :: st), M)) ht rfl (rfl) kk
theorem ev_dup {x : Value} (ht : tb_in i pc = some (.dup, a, b, v, ts)) (hx : x.category = 1) (kk : Ev d i (pc + 1) L (x :: x :: st) M Q) : Ev d i pc L (x :: st) M Q := ev_n (F := (pc + 1, L, (x :: x :: st), M)) ht rfl (by simp [pm_nx, pm_v1, hx]) kk
theorem ev_pop {x : Value} (ht : tb_in i pc = some (.pop, a, b, v, ts)) (hx : x.category = 1) (kk : Ev d i (pc + 1) L st M Q) : Ev d i pc L (x :: st) M Q := ev_n (F := (pc + 1, L, st, M)) ht rfl (by simp [pm_nx, pm_v1, hx]) kk
theorem ev_goto {n : Int} (ht : tb_in i pc = some (.goto n, a, b, v, ts))  (kk : Ev d i a L st M Q) : Ev d i pc L (st) M Q := ev_n (F := (a, L, st, M)) ht rfl (rfl) kk
theorem ev_if_eq {n : Int} {x y : Int32} (ht : tb_in i pc = some (.ifCond .eq n, a, b, v, ts)) (kt : x = 0 → Ev d i a L st M Q) (kf : ¬ (x = 0) → Ev d i (pc + 3) L st M Q) : Ev d i pc L (.int x :: st) M Q := by
  by_cases h : x = 0
  · exact ev_n (F := (a, L, st, M)) ht rfl (by simp [pm_nx, pm_i1, h]) (kt h)
  · exact ev_n (F := (pc + 3, L, st, M)) ht rfl (by simp [pm_nx, pm_i1, h]) (kf h)
theorem ev_if_ne {n : Int} {x y : Int32} (ht : tb_in i pc = some (.ifCond .ne n, a, b, v, ts)) (kt : ¬ x = 0 → Ev d i a L st M Q) (kf : ¬ (¬ x = 0) → Ev d i (pc + 3) L st M Q) : Ev d i pc L (.int x :: st) M Q := by
  by_cases h : ¬ x = 0
  · exact ev_n (F := (a, L, st, M)) ht rfl (by simp [pm_nx, pm_i1, h]) (kt h)
  · exact ev_n (F := (pc + 3, L, st, M)) ht rfl (by simp only [pm_nx, pm_i1]; rw [if_pos (Classical.not_not.mp h)]) (kf h)
theorem ev_if_lt {n : Int} {x y : Int32} (ht : tb_in i pc = some (.ifCond .lt n, a, b, v, ts)) (kt : x < 0 → Ev d i a L st M Q) (kf : ¬ (x < 0) → Ev d i (pc + 3) L st M Q) : Ev d i pc L (.int x :: st) M Q := by
  by_cases h : x < 0
  · exact ev_n (F := (a, L, st, M)) ht rfl (by simp [pm_nx, pm_i1, h]) (kt h)
  · exact ev_n (F := (pc + 3, L, st, M)) ht rfl (by simp [pm_nx, pm_i1, h]) (kf h)
theorem ev_if_ge {n : Int} {x y : Int32} (ht : tb_in i pc = some (.ifCond .ge n, a, b, v, ts)) (kt : 0 ≤ x → Ev d i a L st M Q) (kf : ¬ (0 ≤ x) → Ev d i (pc + 3) L st M Q) : Ev d i pc L (.int x :: st) M Q := by
  by_cases h : 0 ≤ x
  · exact ev_n (F := (a, L, st, M)) ht rfl (by simp [pm_nx, pm_i1, h]) (kt h)
  · exact ev_n (F := (pc + 3, L, st, M)) ht rfl (by simp [pm_nx, pm_i1, h]) (kf h)
theorem ev_if_gt {n : Int} {x y : Int32} (ht : tb_in i pc = some (.ifCond .gt n, a, b, v, ts)) (kt : 0 < x → Ev d i a L st M Q) (kf : ¬ (0 < x) → Ev d i (pc + 3) L st M Q) : Ev d i pc L (.int x :: st) M Q := by
  by_cases h : 0 < x
  · exact ev_n (F := (a, L, st, M)) ht rfl (by simp [pm_nx, pm_i1, h]) (kt h)
  · exact ev_n (F := (pc + 3, L, st, M)) ht rfl (by simp [pm_nx, pm_i1, h]) (kf h)
theorem ev_if_le {n : Int} {x y : Int32} (ht : tb_in i pc = some (.ifCond .le n, a, b, v, ts)) (kt : x ≤ 0 → Ev d i a L st M Q) (kf : ¬ (x ≤ 0) → Ev d i (pc + 3) L st M Q) : Ev d i pc L (.int x :: st) M Q := by
  by_cases h : x ≤ 0
  · exact ev_n (F := (a, L, st, M)) ht rfl (by simp [pm_nx, pm_i1, h]) (kt h)
  · exact ev_n (F := (pc + 3, L, st, M)) ht rfl (by simp [pm_nx, pm_i1, h]) (kf h)
theorem ev_icmp_eq {n : Int} {x y : Int32} (ht : tb_in i pc = some (.if_icmp .eq n, a, b, v, ts)) (kt : x = y → Ev d i a L st M Q) (kf : ¬ (x = y) → Ev d i (pc + 3) L st M Q) : Ev d i pc L (.int y :: .int x :: st) M Q := by
  by_cases h : x = y
  · exact ev_n (F := (a, L, st, M)) ht rfl (by simp [pm_nx, pm_i2, h]) (kt h)
  · exact ev_n (F := (pc + 3, L, st, M)) ht rfl (by simp [pm_nx, pm_i2, h]) (kf h)
theorem ev_icmp_ne {n : Int} {x y : Int32} (ht : tb_in i pc = some (.if_icmp .ne n, a, b, v, ts)) (kt : ¬ x = y → Ev d i a L st M Q) (kf : ¬ (¬ x = y) → Ev d i (pc + 3) L st M Q) : Ev d i pc L (.int y :: .int x :: st) M Q := by
  by_cases h : ¬ x = y
  · exact ev_n (F := (a, L, st, M)) ht rfl (by simp [pm_nx, pm_i2, h]) (kt h)
  · exact ev_n (F := (pc + 3, L, st, M)) ht rfl (by simp only [pm_nx, pm_i2]; rw [if_pos (Classical.not_not.mp h)]) (kf h)
theorem ev_icmp_lt {n : Int} {x y : Int32} (ht : tb_in i pc = some (.if_icmp .lt n, a, b, v, ts)) (kt : x < y → Ev d i a L st M Q) (kf : ¬ (x < y) → Ev d i (pc + 3) L st M Q) : Ev d i pc L (.int y :: .int x :: st) M Q := by
  by_cases h : x < y
  · exact ev_n (F := (a, L, st, M)) ht rfl (by simp [pm_nx, pm_i2, h]) (kt h)
  · exact ev_n (F := (pc + 3, L, st, M)) ht rfl (by simp [pm_nx, pm_i2, h]) (kf h)
theorem ev_icmp_ge {n : Int} {x y : Int32} (ht : tb_in i pc = some (.if_icmp .ge n, a, b, v, ts)) (kt : y ≤ x → Ev d i a L st M Q) (kf : ¬ (y ≤ x) → Ev d i (pc + 3) L st M Q) : Ev d i pc L (.int y :: .int x :: st) M Q := by
  by_cases h : y ≤ x
  · exact ev_n (F := (a, L, st, M)) ht rfl (by simp [pm_nx, pm_i2, h]) (kt h)
  · exact ev_n (F := (pc + 3, L, st, M)) ht rfl (by simp [pm_nx, pm_i2, h]) (kf h)
theorem ev_icmp_gt {n : Int} {x y : Int32} (ht : tb_in i pc = some (.if_icmp .gt n, a, b, v, ts)) (kt : y < x → Ev d i a L st M Q) (kf : ¬ (y < x) → Ev d i (pc + 3) L st M Q) : Ev d i pc L (.int y :: .int x :: st) M Q := by
  by_cases h : y < x
  · exact ev_n (F := (a, L, st, M)) ht rfl (by simp [pm_nx, pm_i2, h]) (kt h)
  · exact ev_n (F := (pc + 3, L, st, M)) ht rfl (by simp [pm_nx, pm_i2, h]) (kf h)
theorem ev_icmp_le {n : Int} {x y : Int32} (ht : tb_in i pc = some (.if_icmp .le n, a, b, v, ts)) (kt : x ≤ y → Ev d i a L st M Q) (kf : ¬ (x ≤ y) → Ev d i (pc + 3) L st M Q) : Ev d i pc L (.int y :: .int x :: st) M Q := by
  by_cases h : x ≤ y
  · exact ev_n (F := (a, L, st, M)) ht rfl (by simp [pm_nx, pm_i2, h]) (kt h)
  · exact ev_n (F := (pc + 3, L, st, M)) ht rfl (by simp [pm_nx, pm_i2, h]) (kf h)
theorem ev_acmp_eq {n : Int} {x y : Nat} (ht : tb_in i pc = some (.if_acmp .eq n, a, b, v, ts)) (h : (1 ≤ x ∧ x ≤ 4) ∧ 1 ≤ y ∧ y ≤ 4) (kt : x = y → Ev d i a L st M Q) (kf : ¬ x = y → Ev d i (pc + 3) L st M Q) : Ev d i pc L (.ref y :: .ref x :: st) M Q := by
  by_cases hxy : x = y
  · exact ev_n (F := (a, L, st, M)) ht rfl (by simp only [pm_nx, pm_r2]; rw [if_pos h, if_pos hxy]) (kt hxy)
  · exact ev_n (F := (pc + 3, L, st, M)) ht rfl (by simp only [pm_nx, pm_r2]; rw [if_pos h, if_neg hxy]) (kf hxy)
theorem ev_acmp_ne {n : Int} {x y : Nat} (ht : tb_in i pc = some (.if_acmp .ne n, a, b, v, ts)) (h : (1 ≤ x ∧ x ≤ 4) ∧ 1 ≤ y ∧ y ≤ 4) (kt : ¬ x = y → Ev d i a L st M Q) (kf : x = y → Ev d i (pc + 3) L st M Q) : Ev d i pc L (.ref y :: .ref x :: st) M Q := by
  by_cases hxy : x = y
  · exact ev_n (F := (pc + 3, L, st, M)) ht rfl (by simp only [pm_nx, pm_r2]; rw [if_pos h, if_pos hxy]) (kf hxy)
  · exact ev_n (F := (a, L, st, M)) ht rfl (by simp only [pm_nx, pm_r2]; rw [if_pos h, if_neg hxy]) (kt hxy)
theorem ev_switch {dd lo hi : Int} {offs : Array Int} {x : Int32} (ht : tb_in i pc = some (.tableswitch dd lo hi offs, a, b, v, ts)) (kt : ∀ k, k < ts.length → x = nI k → Ev d i (ts.getD k 0) L st M Q) (kf : (x < 0 ∨ ts.length ≤ x.toNatClampNeg) → Ev d i a L st M Q) : Ev d i pc L (.int x :: st) M Q := by
  by_cases h : x < 0 ∨ ts.length ≤ x.toNatClampNeg
  · exact ev_n (F := (a, L, st, M)) ht rfl (by simp only [pm_nx, pm_i1]; rw [if_pos h]) (kf h)
  · obtain ⟨k, hk, rfl⟩ := nI_of (fun z => h (Or.inl z))
    have h2 : (nI k).toNatClampNeg = k := nI_clamp hk
    exact ev_n (F := (ts.getD k 0, L, st, M)) ht rfl (by simp only [pm_nx, pm_i1]; rw [if_neg h, h2]) (kt k (by rw [h2] at h; omega) rfl)
theorem ev_getstatic {n : Nat} (ht : tb_in i pc = some (.getstatic n, a, b, v, ts)) (kk : Ev d i (pc + 3) L (.ref a :: st) M Q) : Ev d i pc L st M Q := ev_n ht rfl rfl kk
theorem ev_alen {p : Nat} {ty : FieldType} {n : Nat} {f : Nat → Value} (ht : tb_in i pc = some (.arraylength, a, b, v, ts)) (hM : M.2.2 p = .inl (ty, n, f)) (kk : Ev d i (pc + 1) L (.int (nI n) :: st) M Q) : Ev d i pc L (.ref p :: st) M Q := ev_n (F := (pc + 1, L, .int (Int32.ofNat n) :: st, M)) ht rfl (by simp [pm_nx, pm_r1, pm_arr, hM]) kk
theorem ev_new {n : Nat} (ht : tb_in i pc = some (.new n, a, b, v, ts)) (ha : a < 1000) (kk : Ev d i (pc + 3) L (.ref (8 + M.1) :: st) (pm_mk M (tb_df a).length (.inr (a, tb_df a))) Q) : Ev d i pc L st M Q :=
  ev_st (F := (pc + 3, L, .ref (8 + M.1) :: st, pm_mk M (tb_df a).length (.inr (a, tb_df a)))) (by unfold pm_st; rw [ht]; simp only; rw [if_neg (by omega)]; rfl) kk
theorem ev_newarray {t : ArrayType} {k : Nat} (ht : tb_in i pc = some (.newarray t, a, b, v, ts)) (hk : k ≤ 5000) (kk : Ev d i (pc + 2) L (.ref (8 + M.1) :: st) (pm_mk M k (.inl (newarray.typeOf t, k, fun _ => defaultValue (newarray.typeOf t)))) Q) : Ev d i pc L (.int (nI k) :: st) M Q := by
  have h1 : ¬ nI k < 0 := nI_pos (by omega)
  have h2 : (nI k).toNatClampNeg = k := nI_clamp (by omega)
  exact ev_n (F := (pc + 2, L, .ref (8 + M.1) :: st, pm_mk M k (.inl (newarray.typeOf t, k, fun _ => defaultValue (newarray.typeOf t))))) ht rfl (by simp only [pm_nx, pm_i1, h2]; rw [if_neg (by rintro (h | h); exact h1 h; omega)]) kk
theorem ev_anewarray {n k : Nat} (ht : tb_in i pc = some (.anewarray n, a, b, v, ts)) (hk : k ≤ 5000) (kk : Ev d i (pc + 3) L (.ref (8 + M.1) :: st) (pm_mk M k (.inl (.object (tb_cn a), k, fun _ => .null))) Q) : Ev d i pc L (.int (nI k) :: st) M Q := by
  have h1 : ¬ nI k < 0 := nI_pos (by omega)
  have h2 : (nI k).toNatClampNeg = k := nI_clamp (by omega)
  exact ev_n (F := (pc + 3, L, .ref (8 + M.1) :: st, pm_mk M k (.inl (.object (tb_cn a), k, fun _ => .null)))) ht rfl (by simp only [pm_nx, pm_i1, h2]; rw [if_neg (by rintro (h | h); exact h1 h; omega)]) kk
theorem ev_objinit {n p : Nat} (ht : tb_in i pc = some (.invokespecial n, 1000, b, v, ts)) (hs : pm_cs st ≤ 11) (kk : Ev d i (pc + 3) L st M Q) : Ev d i pc L (.ref p :: st) M Q :=
  ev_st (F := (pc + 3, L, st, M)) (by
    have h9 : pm_cs (.ref p :: st) = 1 + pm_cs st := rfl
    unfold pm_st; rw [ht]; simp only; rw [if_pos (Nat.le_refl _), if_pos (by omega)]; rfl) kk
theorem ev_max {n : Nat} {x y : Int32} (ht : tb_in i pc = some (.invokestatic n, 1001, b, v, ts)) (hs : pm_cs st ≤ 10) (kk : Ev d i (pc + 3) L (.int (if x < y then y else x) :: st) M Q) : Ev d i pc L (.int y :: .int x :: st) M Q :=
  ev_st (F := (pc + 3, L, .int (if x < y then y else x) :: st, M)) (by
    have h9 : pm_cs (.int y :: .int x :: st) = 1 + (1 + pm_cs st) := rfl
    unfold pm_st; rw [ht]; simp only; rw [if_pos (Nat.le_refl _), if_pos (by omega)]; rfl) kk
theorem ev_min {n : Nat} {x y : Int32} (ht : tb_in i pc = some (.invokestatic n, 1002, b, v, ts)) (hs : pm_cs st ≤ 10) (kk : Ev d i (pc + 3) L (.int (if y < x then y else x) :: st) M Q) : Ev d i pc L (.int y :: .int x :: st) M Q :=
  ev_st (F := (pc + 3, L, .int (if y < x then y else x) :: st, M)) (by
    have h9 : pm_cs (.int y :: .int x :: st) = 1 + (1 + pm_cs st) := rfl
    unfold pm_st; rw [ht]; simp only; rw [if_pos (by omega), if_pos (by omega)]; rfl) kk
theorem ev_reti {x : Int32} (ht : tb_in i pc = some (.ireturn, a, b, v, ts)) (hr : tb_rI i x = true) (h : Q (.inl (some (.int x))) M) : Ev d i pc L [.int x] M Q := ev_end (by unfold pm_st; rw [ht]; simp only; rw [if_pos hr]) h
theorem ev_reta {x : Nat} (ht : tb_in i pc = some (.areturn, a, b, v, ts)) (hr : tb_rA i = true) (h : Q (.inl (some (.ref x))) M) : Ev d i pc L [.ref x] M Q := ev_end (by unfold pm_st; rw [ht]; simp only; rw [if_pos hr]) h
theorem ev_retv (ht : tb_in i pc = some (.return_, a, b, v, ts)) (hr : tb_rV i = true) (h : Q (.inl none) M) : Ev d i pc L [] M Q := ev_end (by unfold pm_st; rw [ht]; simp only; rw [if_pos hr]) h
theorem ev_throw {n : Nat} (ht : tb_in i pc = some (.new n, a, b, v, ts)) (ha : 1000 ≤ a) (hs : pm_cs st ≤ 8) (h : Q (.inr a) (pm_mk M 6 (.inr (1000, [])))) : Ev d i pc L st M Q := ev_end (by unfold pm_st; rw [ht]; simp only; rw [if_pos ha, if_pos hs]) h
theorem pm_st_V {n : Nat} (ht : tb_in i pc = some (.invokevirtual n, a, b, v, ts)) {as rest : List Value} {L0 : pm_L} (h1 : st.take b = as.reverse) (h2 : st.drop b = rest) (h3 : b ≤ st.length) (h4 : pm_cs rest ≤ 8) (h5 : pm_en a as = some L0) (h6 : pm_rc M a as = true) : pm_st i pc L st M = some (.inr (.inl (a, as, rest))) := by
  unfold pm_st
  rw [ht]
  simp only [pm_cl]
  rw [h1, h2, List.reverse_reverse, if_pos ⟨h3, h4, by rw [h5]; rfl, fun _ => h6⟩]
theorem pm_st_S {n : Nat} (ht : tb_in i pc = some (.invokestatic n, a, b, v, ts)) (ha : a ≤ 1000) {as rest : List Value} {L0 : pm_L} (h1 : st.take b = as.reverse) (h2 : st.drop b = rest) (h3 : b ≤ st.length) (h4 : pm_cs rest ≤ 8) (h5 : pm_en a as = some L0) : pm_st i pc L st M = some (.inr (.inl (a, as, rest))) := by
  unfold pm_st
  rw [ht]
  simp only [pm_cl]
  rw [if_neg (by omega), h1, h2, List.reverse_reverse, if_pos ⟨h3, h4, by rw [h5]; rfl, fun h => by cases h⟩]
theorem pm_st_I {n : Nat} (ht : tb_in i pc = some (.invokespecial n, a, b, v, ts)) (ha : a < 1000) {as rest : List Value} {L0 : pm_L} (h1 : st.take b = as.reverse) (h2 : st.drop b = rest) (h3 : b ≤ st.length) (h4 : pm_cs rest ≤ 8) (h5 : pm_en a as = some L0) (h6 : pm_rc M a as = true) : pm_st i pc L st M = some (.inr (.inl (a, as, rest))) := by
  unfold pm_st
  rw [ht]
  simp only [pm_cl]
  rw [if_neg (by omega), h1, h2, List.reverse_reverse, if_pos ⟨h3, h4, by rw [h5]; rfl, fun _ => h6⟩]
/-! numbers -/
theorem ev_top {x y : Int32} (h : x = y) (kk : Ev d i pc L (.int y :: st) M Q) : Ev d i pc L (.int x :: st) M Q := by rw [h]; exact kk
theorem ev_iaddN {m n : Nat} (ht : tb_in i pc = some (.iadd, a, b, v, ts)) (kk : Ev d i (pc + 1) L (.int (nI (m + n)) :: st) M Q) : Ev d i pc L (.int (nI n) :: .int (nI m) :: st) M Q := ev_iadd ht (by rw [nI_add]; exact kk)
theorem ev_isubN {m n : Nat} (ht : tb_in i pc = some (.isub, a, b, v, ts)) (h : n ≤ m) (kk : Ev d i (pc + 1) L (.int (nI (m - n)) :: st) M Q) : Ev d i pc L (.int (nI n) :: .int (nI m) :: st) M Q := ev_isub ht (by rw [pk_sub h]; exact kk)
theorem ev_imulN {m n : Nat} (ht : tb_in i pc = some (.imul, a, b, v, ts)) (kk : Ev d i (pc + 1) L (.int (nI (m * n)) :: st) M Q) : Ev d i pc L (.int (nI n) :: .int (nI m) :: st) M Q := ev_imul ht (by rw [pk_mul]; exact kk)
theorem ev_idivN {m n : Nat} (ht : tb_in i pc = some (.idiv, a, b, v, ts)) (hm : m < 2 ^ 31) (hn : 0 < n) (hn2 : n < 2 ^ 31) (kk : Ev d i (pc + 1) L (.int (nI (m / n)) :: st) M Q) : Ev d i pc L (.int (nI n) :: .int (nI m) :: st) M Q := ev_idiv ht (nI_ne0 hn hn2) (by rw [pk_div hm hn hn2]; exact kk)
theorem ev_iremN {m n : Nat} (ht : tb_in i pc = some (.irem, a, b, v, ts)) (hm : m < 2 ^ 31) (hn : 0 < n) (hn2 : n < 2 ^ 31) (kk : Ev d i (pc + 1) L (.int (nI (m % n)) :: st) M Q) : Ev d i pc L (.int (nI n) :: .int (nI m) :: st) M Q := ev_irem ht (nI_ne0 hn hn2) (by rw [pk_rem hm hn hn2]; exact kk)
theorem ev_iincN {k m : Nat} {n : Int} {L' : pm_L} (ht : tb_in i pc = some (.iinc k n, a, b, 1, ts)) (hx : pm_get L k = some (.int (nI m))) (hk : k < L.length) (hL : pm_set L k (.int (nI (m + 1))) = L') (kk : Ev d i (pc + 3) L' st M Q) : Ev d i pc L st M Q := ev_iinc ht hx hk (by rw [nI_1]; exact hL) kk
theorem ev_icmp_eqN {n : Int} {x y : Nat} (ht : tb_in i pc = some (.if_icmp .eq n, a, b, v, ts)) (hx : x < 2 ^ 31) (hy : y < 2 ^ 31) (kt : x = y → Ev d i a L st M Q) (kf : ¬ (x = y) → Ev d i (pc + 3) L st M Q) : Ev d i pc L (.int (nI y) :: .int (nI x) :: st) M Q := ev_icmp_eq ht (fun h => kt (by exact (nI_eq hx hy).mp h)) (fun h => kf (by exact fun z => h ((nI_eq hx hy).mpr z)))
theorem ev_icmp_neN {n : Int} {x y : Nat} (ht : tb_in i pc = some (.if_icmp .ne n, a, b, v, ts)) (hx : x < 2 ^ 31) (hy : y < 2 ^ 31) (kt : ¬ x = y → Ev d i a L st M Q) (kf : ¬ (¬ x = y) → Ev d i (pc + 3) L st M Q) : Ev d i pc L (.int (nI y) :: .int (nI x) :: st) M Q := ev_icmp_ne ht (fun h => kt (by exact fun z => h ((nI_eq hx hy).mpr z))) (fun h => kf (by exact fun z => h (fun w => z ((nI_eq hx hy).mp w))))
theorem ev_icmp_ltN {n : Int} {x y : Nat} (ht : tb_in i pc = some (.if_icmp .lt n, a, b, v, ts)) (hx : x < 2 ^ 31) (hy : y < 2 ^ 31) (kt : x < y → Ev d i a L st M Q) (kf : ¬ (x < y) → Ev d i (pc + 3) L st M Q) : Ev d i pc L (.int (nI y) :: .int (nI x) :: st) M Q := ev_icmp_lt ht (fun h => kt (by exact (nI_ltI hx hy).mp h)) (fun h => kf (by exact fun z => h ((nI_ltI hx hy).mpr z)))
theorem ev_icmp_geN {n : Int} {x y : Nat} (ht : tb_in i pc = some (.if_icmp .ge n, a, b, v, ts)) (hx : x < 2 ^ 31) (hy : y < 2 ^ 31) (kt : y ≤ x → Ev d i a L st M Q) (kf : ¬ (y ≤ x) → Ev d i (pc + 3) L st M Q) : Ev d i pc L (.int (nI y) :: .int (nI x) :: st) M Q := ev_icmp_ge ht (fun h => kt (by exact (nI_leI hy hx).mp h)) (fun h => kf (by exact fun z => h ((nI_leI hy hx).mpr z)))
theorem ev_icmp_gtN {n : Int} {x y : Nat} (ht : tb_in i pc = some (.if_icmp .gt n, a, b, v, ts)) (hx : x < 2 ^ 31) (hy : y < 2 ^ 31) (kt : y < x → Ev d i a L st M Q) (kf : ¬ (y < x) → Ev d i (pc + 3) L st M Q) : Ev d i pc L (.int (nI y) :: .int (nI x) :: st) M Q := ev_icmp_gt ht (fun h => kt (by exact (nI_ltI hy hx).mp h)) (fun h => kf (by exact fun z => h ((nI_ltI hy hx).mpr z)))
theorem ev_icmp_leN {n : Int} {x y : Nat} (ht : tb_in i pc = some (.if_icmp .le n, a, b, v, ts)) (hx : x < 2 ^ 31) (hy : y < 2 ^ 31) (kt : x ≤ y → Ev d i a L st M Q) (kf : ¬ (x ≤ y) → Ev d i (pc + 3) L st M Q) : Ev d i pc L (.int (nI y) :: .int (nI x) :: st) M Q := ev_icmp_le ht (fun h => kt (by exact (nI_leI hx hy).mp h)) (fun h => kf (by exact fun z => h ((nI_leI hx hy).mpr z)))
end EV
/-! a stretch of pointers whose objects and arrays have a fixed form: a store of ints beneath it -/
def sl (lo hi : Nat) (sh : Nat → (Nat → Int32) → pm_E) (M : pm_M) (σ : Nat → Nat → Int32) : pm_M := (M.1, M.2.1, fun p => if lo ≤ p ∧ p < hi then sh p (σ p) else M.2.2 p)
def u2 (σ : Nat → Nat → Int32) (p k : Nat) (x : Int32) : Nat → Nat → Int32 := fun q => if q = p then upd (σ q) k x else σ q
def ob (lo hi : Nat) (sh : Nat → (Nat → Int32) → pm_E) (p c : Nat) (fl : (Nat → Int32) → List Value) : Prop := (8 ≤ lo ∧ lo ≤ p ∧ p < hi) ∧ ∀ r, sh p r = .inr (c, fl r)
def ar (lo hi : Nat) (sh : Nat → (Nat → Int32) → pm_E) (p : Nat) (ty : FieldType) (n : Nat) : Prop := (8 ≤ lo ∧ lo ≤ p ∧ p < hi) ∧ n ≤ 5000 ∧ ∀ r, sh p r = .inl (ty, n, fun j => .int (r j))
def rr (lo hi : Nat) (sh : Nat → (Nat → Int32) → pm_E) (p : Nat) (ty : FieldType) (n : Nat) (f : Nat → Value) : Prop := (8 ≤ lo ∧ lo ≤ p ∧ p < hi) ∧ n ≤ 5000 ∧ ∀ r, sh p r = .inl (ty, n, f)
section ES
variable {d i pc : Nat} {L : pm_L} {st : List Value} {M : pm_M} {Q : pm_R → pm_M → Prop} {a b : Nat} {v : Int32} {ts : List Nat} {lo hi : Nat} {sh : Nat → (Nat → Int32) → pm_E} {σ : Nat → Nat → Int32}
theorem sl_in {p : Nat} (h : lo ≤ p ∧ p < hi) : (sl lo hi sh M σ).2.2 p = sh p (σ p) := by
  show (if lo ≤ p ∧ p < hi then _ else _) = _
  rw [if_pos h]
theorem sl_up {p k : Nat} {x : Int32} {e : pm_E} (h : lo ≤ p ∧ p < hi) (he : sh p (upd (σ p) k x) = e) : pm_up (sl lo hi sh M σ) p e = sl lo hi sh M (u2 σ p k x) := by
  unfold pm_up sl
  refine Prod.ext rfl (Prod.ext rfl ?_)
  funext q
  dsimp only
  by_cases hq : q = p
  · subst hq
    rw [if_pos rfl, if_pos h, ← he]
    unfold u2
    rw [if_pos rfl]
  · rw [if_neg hq]
    unfold u2
    rw [if_neg hq]
theorem es_get {n p : Nat} {fl : (Nat → Int32) → List Value} {x : Value} (ho : ob lo hi sh p a fl) (ht : tb_in i pc = some (.getfield n, a, b, v, ts)) (hv : (fl (σ p))[b]? = some x) (kk : Ev d i (pc + 3) L (x :: st) (sl lo hi sh M σ) Q) : Ev d i pc L (.ref p :: st) (sl lo hi sh M σ) Q :=
  ev_n (F := (pc + 3, L, x :: st, sl lo hi sh M σ)) ht rfl (by simp only [pm_nx, pm_r1, pm_obj]; rw [sl_in ho.1.2, ho.2]; simp [hv]) kk
theorem es_putV {n p : Nat} {fl : (Nat → Int32) → List Value} {x : Value} {y : Int32} (ho : ob lo hi sh p a fl) (ht : tb_in i pc = some (.putfield n, a, b, v, ts)) (hb : b < (fl (σ p)).length) (h1 : narrow (tb_ft a b) x = x) (h2 : fits (tb_ft a b) x = true) (he : (fl (σ p)).set b x = fl (upd (σ p) b y)) (kk : Ev d i (pc + 3) L st (sl lo hi sh M (u2 σ p b y)) Q) : Ev d i pc L (x :: .ref p :: st) (sl lo hi sh M σ) Q :=
  ev_n (F := (pc + 3, L, st, sl lo hi sh M (u2 σ p b y))) ht rfl (by
    simp only [pm_nx, pm_vr, pm_obj]
    rw [sl_in ho.1.2, ho.2]
    dsimp only
    rw [if_pos ⟨rfl, by have := ho.1; omega, hb, h1, h2⟩, sl_up (k := b) (x := y) ho.1.2 (by rw [ho.2, he])]) kk
theorem es_put {n p : Nat} {fl : (Nat → Int32) → List Value} {x : Int32} (ho : ob lo hi sh p a fl) (ht : tb_in i pc = some (.putfield n, a, b, v, ts)) (hty : tb_ft a b = .int) (hb : b < (fl (σ p)).length) (he : (fl (σ p)).set b (.int x) = fl (upd (σ p) b x)) (kk : Ev d i (pc + 3) L st (sl lo hi sh M (u2 σ p b x)) Q) : Ev d i pc L (.int x :: .ref p :: st) (sl lo hi sh M σ) Q :=
  es_putV ho ht hb (by rw [hty]; rfl) (by rw [hty]; rfl) he kk
theorem es_al {ins : Instr} {ok : FieldType → Bool} {p k n : Nat} {ty : FieldType} {f : Nat → Value} (ht : tb_in i pc = some (ins, a, b, v, ts)) (hs : pm_sp ins = false) (hn : ∀ L st M, pm_nx ins a b v ts pc L st M = pm_al M L st pc ok) (hM : M.2.2 p = .inl (ty, n, f)) (hty : ok ty = true) (hk : k < n) (hn5 : n ≤ 5000) (kk : Ev d i (pc + 1) L (f k :: st) M Q) : Ev d i pc L (.int (nI k) :: .ref p :: st) M Q := by
  have h2 : (nI k).toNatClampNeg = k := nI_clamp (by omega)
  refine ev_n (F := (pc + 1, L, f k :: st, M)) ht hs ?_ kk
  rw [hn]
  simp only [pm_al, pm_ir, pm_arr]
  rw [hM]
  simp only
  rw [if_pos ⟨hty, by rintro (h | h); exact nI_pos (by omega) h; omega⟩, h2]
theorem es_iald {p k n : Nat} (ha : ar lo hi sh p .int n) (ht : tb_in i pc = some (.iaload, a, b, v, ts)) (hk : k < n) (kk : Ev d i (pc + 1) L (.int (σ p k) :: st) (sl lo hi sh M σ) Q) : Ev d i pc L (.int (nI k) :: .ref p :: st) (sl lo hi sh M σ) Q := es_al (f := fun j => .int (σ p j)) ht rfl (fun _ _ _ => rfl) (by rw [sl_in ha.1.2, ha.2.2]) rfl hk ha.2.1 kk
theorem es_zald {p k n : Nat} (ha : ar lo hi sh p .boolean n) (ht : tb_in i pc = some (.baload, a, b, v, ts)) (hk : k < n) (kk : Ev d i (pc + 1) L (.int (σ p k) :: st) (sl lo hi sh M σ) Q) : Ev d i pc L (.int (nI k) :: .ref p :: st) (sl lo hi sh M σ) Q := es_al (f := fun j => .int (σ p j)) ht rfl (fun _ _ _ => rfl) (by rw [sl_in ha.1.2, ha.2.2]) rfl hk ha.2.1 kk
theorem es_cald {p k n : Nat} (ha : ar lo hi sh p .char n) (ht : tb_in i pc = some (.caload, a, b, v, ts)) (hk : k < n) (kk : Ev d i (pc + 1) L (.int (σ p k) :: st) (sl lo hi sh M σ) Q) : Ev d i pc L (.int (nI k) :: .ref p :: st) (sl lo hi sh M σ) Q := es_al (f := fun j => .int (σ p j)) ht rfl (fun _ _ _ => rfl) (by rw [sl_in ha.1.2, ha.2.2]) rfl hk ha.2.1 kk
theorem es_rald {p k n : Nat} {C : String} {f : Nat → Value} {x : Value} (ha : rr lo hi sh p (.object C) n f) (ht : tb_in i pc = some (.aaload, a, b, v, ts)) (hk : k < n) (hx : f k = x) (kk : Ev d i (pc + 1) L (x :: st) (sl lo hi sh M σ) Q) : Ev d i pc L (.int (nI k) :: .ref p :: st) (sl lo hi sh M σ) Q := es_al (f := f) ht rfl (fun _ _ _ => rfl) (by rw [sl_in ha.1.2, ha.2.2]) rfl hk ha.2.1 (by rw [hx]; exact kk)
theorem es_as {ins : Instr} {p k n : Nat} {ty : FieldType} {x y : Int32} (ha : ar lo hi sh p ty n) (ht : tb_in i pc = some (ins, a, b, v, ts)) (hs : pm_sp ins = false) (hn : ∀ L st M, pm_nx ins a b v ts pc L st M = pm_as M L st pc ty pm_isI) (hk : k < n) (hx : narrow ty (.int x) = .int y) (kk : Ev d i (pc + 1) L st (sl lo hi sh M (u2 σ p k y)) Q) : Ev d i pc L (.int x :: .int (nI k) :: .ref p :: st) (sl lo hi sh M σ) Q := by
  have hn5 := ha.2.1
  have h2 : (nI k).toNatClampNeg = k := nI_clamp (by omega)
  refine ev_n (F := (pc + 1, L, st, sl lo hi sh M (u2 σ p k y))) ht hs ?_ kk
  rw [hn]
  simp only [pm_as, pm_vir, pm_arr]
  rw [sl_in ha.1.2, ha.2.2]
  dsimp only
  rw [if_pos ⟨rfl, rfl, by have := ha.1; omega, by rintro (h | h); exact nI_pos (by omega) h; omega⟩, h2, hx, sl_up (k := k) (x := y) ha.1.2]
  rw [ha.2.2]
  congr 2
  refine Prod.ext rfl ?_
  funext j
  show Value.int (upd (σ p) k y j) = pm_uv (fun j => .int (σ p j)) k (.int y) j
  unfold upd pm_uv
  split <;> rfl
theorem es_iast {p k n : Nat} {x : Int32} (ha : ar lo hi sh p .int n) (ht : tb_in i pc = some (.iastore, a, b, v, ts)) (hk : k < n) (kk : Ev d i (pc + 1) L st (sl lo hi sh M (u2 σ p k x)) Q) : Ev d i pc L (.int x :: .int (nI k) :: .ref p :: st) (sl lo hi sh M σ) Q := es_as ha ht rfl (fun _ _ _ => rfl) hk rfl kk
theorem es_zast {p k n : Nat} {x y : Int32} (ha : ar lo hi sh p .boolean n) (ht : tb_in i pc = some (.bastore, a, b, v, ts)) (hk : k < n) (hx : narrow .boolean (.int x) = .int y) (kk : Ev d i (pc + 1) L st (sl lo hi sh M (u2 σ p k y)) Q) : Ev d i pc L (.int x :: .int (nI k) :: .ref p :: st) (sl lo hi sh M σ) Q := es_as ha ht rfl (fun _ _ _ => rfl) hk hx kk
theorem es_cast {p k n : Nat} {x y : Int32} (ha : ar lo hi sh p .char n) (ht : tb_in i pc = some (.castore, a, b, v, ts)) (hk : k < n) (hx : narrow .char (.int x) = .int y) (kk : Ev d i (pc + 1) L st (sl lo hi sh M (u2 σ p k y)) Q) : Ev d i pc L (.int x :: .int (nI k) :: .ref p :: st) (sl lo hi sh M σ) Q := es_as ha ht rfl (fun _ _ _ => rfl) hk hx kk
theorem es_rc {p c j : Nat} {fl : (Nat → Int32) → List Value} {al : List Value} (ho : ob lo hi sh p c fl) (hc : c = tb_rc j) (hl : c < 8) : pm_rc (sl lo hi sh M σ) j (.ref p :: al) = true := by
  unfold pm_rc
  simp only
  rw [sl_in ho.1.2, ho.2]
  exact decide_eq_true ⟨hl, hc⟩
end ES
end
section
/-! Each instruction by its place. Written by program. -/
theorem t_0_0 : tb_in 0 0 = some (.aload_n 0, 0, 0, 0, []) := by decide +kernel
theorem t_0_1 : tb_in 0 1 = some (.invokespecial 1, 1000, 0, 0, []) := by decide +kernel
theorem t_0_4 : tb_in 0 4 = some (.aload_n 0, 0, 0, 0, []) := by decide +kernel
theorem t_0_5 : tb_in 0 5 = some (.new 7, 4, 0, 0, []) := by decide +kernel
theorem t_0_8 : tb_in 0 8 = some (.dup, 0, 0, 0, []) := by decide +kernel
theorem t_0_9 : tb_in 0 9 = some (.invokespecial 9, 87, 1, 0, []) := by decide +kernel
theorem t_0_12 : tb_in 0 12 = some (.putfield 10, 6, 0, 0, []) := by decide +kernel
theorem t_0_15 : tb_in 0 15 = some (.aload_n 0, 0, 0, 0, []) := by decide +kernel
theorem t_0_16 : tb_in 0 16 = some (.bipush 6, 0, 0, 6, []) := by decide +kernel
theorem t_0_18 : tb_in 0 18 = some (.anewarray 7, 4, 0, 0, []) := by decide +kernel
theorem t_0_21 : tb_in 0 21 = some (.putfield 16, 6, 1, 0, []) := by decide +kernel
theorem t_0_24 : tb_in 0 24 = some (.aload_n 0, 0, 0, 0, []) := by decide +kernel
theorem t_0_25 : tb_in 0 25 = some (.bipush 6, 0, 0, 6, []) := by decide +kernel
theorem t_0_27 : tb_in 0 27 = some (.newarray .int, 0, 0, 0, []) := by decide +kernel
theorem t_0_29 : tb_in 0 29 = some (.putfield 20, 6, 2, 0, []) := by decide +kernel
theorem t_0_32 : tb_in 0 32 = some (.aload_n 0, 0, 0, 0, []) := by decide +kernel
theorem t_0_33 : tb_in 0 33 = some (.new 24, 2, 0, 0, []) := by decide +kernel
theorem t_0_36 : tb_in 0 36 = some (.dup, 0, 0, 0, []) := by decide +kernel
theorem t_0_37 : tb_in 0 37 = some (.invokespecial 26, 79, 1, 0, []) := by decide +kernel
theorem t_0_40 : tb_in 0 40 = some (.putfield 27, 6, 3, 0, []) := by decide +kernel
theorem t_0_43 : tb_in 0 43 = some (.aload_n 0, 0, 0, 0, []) := by decide +kernel
theorem t_0_44 : tb_in 0 44 = some (.new 31, 1, 0, 0, []) := by decide +kernel
theorem t_0_47 : tb_in 0 47 = some (.dup, 0, 0, 0, []) := by decide +kernel
theorem t_0_48 : tb_in 0 48 = some (.invokespecial 33, 76, 1, 0, []) := by decide +kernel
theorem t_0_51 : tb_in 0 51 = some (.putfield 34, 6, 4, 0, []) := by decide +kernel
theorem t_0_54 : tb_in 0 54 = some (.aload_n 0, 0, 0, 0, []) := by decide +kernel
theorem t_0_55 : tb_in 0 55 = some (.bipush 96, 0, 0, 96, []) := by decide +kernel
theorem t_0_57 : tb_in 0 57 = some (.anewarray 38, 0, 0, 0, []) := by decide +kernel
theorem t_0_60 : tb_in 0 60 = some (.putfield 40, 6, 5, 0, []) := by decide +kernel
theorem t_0_63 : tb_in 0 63 = some (.aload_n 0, 0, 0, 0, []) := by decide +kernel
theorem t_0_64 : tb_in 0 64 = some (.new 44, 3, 0, 0, []) := by decide +kernel
theorem t_0_67 : tb_in 0 67 = some (.dup, 0, 0, 0, []) := by decide +kernel
theorem t_0_68 : tb_in 0 68 = some (.invokespecial 46, 80, 1, 0, []) := by decide +kernel
theorem t_0_71 : tb_in 0 71 = some (.putfield 47, 6, 6, 0, []) := by decide +kernel
theorem t_0_74 : tb_in 0 74 = some (.aload_n 0, 0, 0, 0, []) := by decide +kernel
theorem t_0_75 : tb_in 0 75 = some (.bipush 96, 0, 0, 96, []) := by decide +kernel
theorem t_0_77 : tb_in 0 77 = some (.putfield 51, 6, 7, 0, []) := by decide +kernel
theorem t_0_80 : tb_in 0 80 = some (.aload_n 0, 0, 0, 0, []) := by decide +kernel
theorem t_0_81 : tb_in 0 81 = some (.bipush 20, 0, 0, 20, []) := by decide +kernel
theorem t_0_83 : tb_in 0 83 = some (.newarray .int, 0, 0, 0, []) := by decide +kernel
theorem t_0_85 : tb_in 0 85 = some (.putfield 55, 6, 8, 0, []) := by decide +kernel
theorem t_0_88 : tb_in 0 88 = some (.aload_n 0, 0, 0, 0, []) := by decide +kernel
theorem t_0_89 : tb_in 0 89 = some (.bipush 20, 0, 0, 20, []) := by decide +kernel
theorem t_0_91 : tb_in 0 91 = some (.anewarray 58, 5, 0, 0, []) := by decide +kernel
theorem t_0_94 : tb_in 0 94 = some (.putfield 60, 6, 9, 0, []) := by decide +kernel
theorem t_0_97 : tb_in 0 97 = some (.aload_n 0, 0, 0, 0, []) := by decide +kernel
theorem t_0_98 : tb_in 0 98 = some (.iconst 0, 0, 0, 0, []) := by decide +kernel
theorem t_0_99 : tb_in 0 99 = some (.putfield 64, 6, 10, 0, []) := by decide +kernel
theorem t_0_102 : tb_in 0 102 = some (.aload_n 0, 0, 0, 0, []) := by decide +kernel
theorem t_0_103 : tb_in 0 103 = some (.iconst 0, 0, 0, 0, []) := by decide +kernel
theorem t_0_104 : tb_in 0 104 = some (.putfield 67, 6, 11, 0, []) := by decide +kernel
theorem t_0_107 : tb_in 0 107 = some (.aload_n 0, 0, 0, 0, []) := by decide +kernel
theorem t_0_108 : tb_in 0 108 = some (.iconst 0, 0, 0, 0, []) := by decide +kernel
theorem t_0_109 : tb_in 0 109 = some (.putfield 70, 6, 12, 0, []) := by decide +kernel
theorem t_0_112 : tb_in 0 112 = some (.aload_n 0, 0, 0, 0, []) := by decide +kernel
theorem t_0_113 : tb_in 0 113 = some (.iconst 0, 0, 0, 0, []) := by decide +kernel
theorem t_0_114 : tb_in 0 114 = some (.putfield 73, 6, 13, 0, []) := by decide +kernel
theorem t_0_117 : tb_in 0 117 = some (.aload_n 0, 0, 0, 0, []) := by decide +kernel
theorem t_0_118 : tb_in 0 118 = some (.iconst 0, 0, 0, 0, []) := by decide +kernel
theorem t_0_119 : tb_in 0 119 = some (.putfield 76, 6, 14, 0, []) := by decide +kernel
theorem t_0_122 : tb_in 0 122 = some (.iconst 0, 0, 0, 0, []) := by decide +kernel
theorem t_0_123 : tb_in 0 123 = some (.istore_n 1, 0, 0, 0, []) := by decide +kernel
theorem t_0_124 : tb_in 0 124 = some (.iload_n 1, 0, 0, 0, []) := by decide +kernel
theorem t_0_125 : tb_in 0 125 = some (.bipush 6, 0, 0, 6, []) := by decide +kernel
theorem t_0_127 : tb_in 0 127 = some (.if_icmp .ge 33, 160, 0, 0, []) := by decide +kernel
theorem t_0_130 : tb_in 0 130 = some (.aload_n 0, 0, 0, 0, []) := by decide +kernel
theorem t_0_131 : tb_in 0 131 = some (.getfield 16, 6, 1, 0, []) := by decide +kernel
theorem t_0_134 : tb_in 0 134 = some (.iload_n 1, 0, 0, 0, []) := by decide +kernel
theorem t_0_135 : tb_in 0 135 = some (.new 7, 4, 0, 0, []) := by decide +kernel
theorem t_0_138 : tb_in 0 138 = some (.dup, 0, 0, 0, []) := by decide +kernel
theorem t_0_139 : tb_in 0 139 = some (.invokespecial 9, 87, 1, 0, []) := by decide +kernel
theorem t_0_142 : tb_in 0 142 = some (.aastore, 0, 0, 0, []) := by decide +kernel
theorem t_0_143 : tb_in 0 143 = some (.aload_n 0, 0, 0, 0, []) := by decide +kernel
theorem t_0_144 : tb_in 0 144 = some (.getfield 16, 6, 1, 0, []) := by decide +kernel
theorem t_0_147 : tb_in 0 147 = some (.iload_n 1, 0, 0, 0, []) := by decide +kernel
theorem t_0_148 : tb_in 0 148 = some (.aaload, 0, 0, 0, []) := by decide +kernel
theorem t_0_149 : tb_in 0 149 = some (.bipush 48, 0, 0, 48, []) := by decide +kernel
theorem t_0_151 : tb_in 0 151 = some (.invokevirtual 79, 89, 2, 0, []) := by decide +kernel
theorem t_0_154 : tb_in 0 154 = some (.iinc 1 1, 0, 0, 1, []) := by decide +kernel
theorem t_0_157 : tb_in 0 157 = some (.goto (-33), 124, 0, 0, []) := by decide +kernel
theorem t_0_160 : tb_in 0 160 = some (.iconst 0, 0, 0, 0, []) := by decide +kernel
theorem t_0_161 : tb_in 0 161 = some (.istore_n 1, 0, 0, 0, []) := by decide +kernel
theorem t_0_162 : tb_in 0 162 = some (.iload_n 1, 0, 0, 0, []) := by decide +kernel
theorem t_0_163 : tb_in 0 163 = some (.bipush 96, 0, 0, 96, []) := by decide +kernel
theorem t_0_165 : tb_in 0 165 = some (.if_icmp .ge 22, 187, 0, 0, []) := by decide +kernel
theorem t_0_168 : tb_in 0 168 = some (.aload_n 0, 0, 0, 0, []) := by decide +kernel
theorem t_0_169 : tb_in 0 169 = some (.getfield 40, 6, 5, 0, []) := by decide +kernel
theorem t_0_172 : tb_in 0 172 = some (.iload_n 1, 0, 0, 0, []) := by decide +kernel
theorem t_0_173 : tb_in 0 173 = some (.new 38, 0, 0, 0, []) := by decide +kernel
theorem t_0_176 : tb_in 0 176 = some (.dup, 0, 0, 0, []) := by decide +kernel
theorem t_0_177 : tb_in 0 177 = some (.invokespecial 83, 75, 1, 0, []) := by decide +kernel
theorem t_0_180 : tb_in 0 180 = some (.aastore, 0, 0, 0, []) := by decide +kernel
theorem t_0_181 : tb_in 0 181 = some (.iinc 1 1, 0, 0, 1, []) := by decide +kernel
theorem t_0_184 : tb_in 0 184 = some (.goto (-22), 162, 0, 0, []) := by decide +kernel
theorem t_0_187 : tb_in 0 187 = some (.iconst 0, 0, 0, 0, []) := by decide +kernel
theorem t_0_188 : tb_in 0 188 = some (.istore_n 1, 0, 0, 0, []) := by decide +kernel
theorem t_0_189 : tb_in 0 189 = some (.iload_n 1, 0, 0, 0, []) := by decide +kernel
theorem t_0_190 : tb_in 0 190 = some (.bipush 20, 0, 0, 20, []) := by decide +kernel
theorem t_0_192 : tb_in 0 192 = some (.if_icmp .ge 22, 214, 0, 0, []) := by decide +kernel
theorem t_0_195 : tb_in 0 195 = some (.aload_n 0, 0, 0, 0, []) := by decide +kernel
theorem t_0_196 : tb_in 0 196 = some (.getfield 60, 6, 9, 0, []) := by decide +kernel
theorem t_0_199 : tb_in 0 199 = some (.iload_n 1, 0, 0, 0, []) := by decide +kernel
theorem t_0_200 : tb_in 0 200 = some (.new 58, 5, 0, 0, []) := by decide +kernel
theorem t_0_203 : tb_in 0 203 = some (.dup, 0, 0, 0, []) := by decide +kernel
theorem t_0_204 : tb_in 0 204 = some (.invokespecial 84, 93, 1, 0, []) := by decide +kernel
theorem t_0_207 : tb_in 0 207 = some (.aastore, 0, 0, 0, []) := by decide +kernel
theorem t_0_208 : tb_in 0 208 = some (.iinc 1 1, 0, 0, 1, []) := by decide +kernel
theorem t_0_211 : tb_in 0 211 = some (.goto (-22), 189, 0, 0, []) := by decide +kernel
theorem t_0_214 : tb_in 0 214 = some (.return_, 0, 0, 0, []) := by decide +kernel
theorem t_1_0 : tb_in 1 0 = some (.aload_n 0, 0, 0, 0, []) := by decide +kernel
theorem t_1_1 : tb_in 1 1 = some (.getfield 10, 6, 0, 0, []) := by decide +kernel
theorem t_1_4 : tb_in 1 4 = some (.getfield 85, 4, 1, 0, []) := by decide +kernel
theorem t_1_7 : tb_in 1 7 = some (.lload_n 1, 0, 0, 0, []) := by decide +kernel
theorem t_1_8 : tb_in 1 8 = some (.invokestatic 88, 22, 1, 0, []) := by decide +kernel
theorem t_1_11 : tb_in 1 11 = some (.iadd, 0, 0, 0, []) := by decide +kernel
theorem t_1_12 : tb_in 1 12 = some (.bipush 24, 0, 0, 24, []) := by decide +kernel
theorem t_1_14 : tb_in 1 14 = some (.if_icmp .le 5, 19, 0, 0, []) := by decide +kernel
theorem t_1_17 : tb_in 1 17 = some (.iconst (-1), 0, 0, (-1), []) := by decide +kernel
theorem t_1_18 : tb_in 1 18 = some (.ireturn, 0, 0, 0, []) := by decide +kernel
theorem t_1_19 : tb_in 1 19 = some (.iconst 0, 0, 0, 0, []) := by decide +kernel
theorem t_1_20 : tb_in 1 20 = some (.istore_n 3, 0, 0, 0, []) := by decide +kernel
theorem t_1_21 : tb_in 1 21 = some (.iload_n 3, 0, 0, 0, []) := by decide +kernel
theorem t_1_22 : tb_in 1 22 = some (.bipush 8, 0, 0, 8, []) := by decide +kernel
theorem t_1_24 : tb_in 1 24 = some (.if_icmp .ge 30, 54, 0, 0, []) := by decide +kernel
theorem t_1_27 : tb_in 1 27 = some (.lload_n 1, 0, 0, 0, []) := by decide +kernel
theorem t_1_28 : tb_in 1 28 = some (.iload_n 3, 0, 0, 0, []) := by decide +kernel
theorem t_1_29 : tb_in 1 29 = some (.invokestatic 92, 21, 2, 0, []) := by decide +kernel
theorem t_1_32 : tb_in 1 32 = some (.istore 4, 0, 0, 0, []) := by decide +kernel
theorem t_1_34 : tb_in 1 34 = some (.iload 4, 0, 0, 0, []) := by decide +kernel
theorem t_1_36 : tb_in 1 36 = some (.ifCond .eq 12, 48, 0, 0, []) := by decide +kernel
theorem t_1_39 : tb_in 1 39 = some (.aload_n 0, 0, 0, 0, []) := by decide +kernel
theorem t_1_40 : tb_in 1 40 = some (.getfield 10, 6, 0, 0, []) := by decide +kernel
theorem t_1_43 : tb_in 1 43 = some (.iload 4, 0, 0, 0, []) := by decide +kernel
theorem t_1_45 : tb_in 1 45 = some (.invokevirtual 79, 89, 2, 0, []) := by decide +kernel
theorem t_1_48 : tb_in 1 48 = some (.iinc 3 1, 0, 0, 1, []) := by decide +kernel
theorem t_1_51 : tb_in 1 51 = some (.goto (-30), 21, 0, 0, []) := by decide +kernel
theorem t_1_54 : tb_in 1 54 = some (.aload_n 0, 0, 0, 0, []) := by decide +kernel
theorem t_1_55 : tb_in 1 55 = some (.getfield 10, 6, 0, 0, []) := by decide +kernel
theorem t_1_58 : tb_in 1 58 = some (.getfield 85, 4, 1, 0, []) := by decide +kernel
theorem t_1_61 : tb_in 1 61 = some (.ireturn, 0, 0, 0, []) := by decide +kernel
theorem t_2_0 : tb_in 2 0 = some (.aload_n 0, 0, 0, 0, []) := by decide +kernel
theorem t_2_1 : tb_in 2 1 = some (.getfield 10, 6, 0, 0, []) := by decide +kernel
theorem t_2_4 : tb_in 2 4 = some (.getfield 85, 4, 1, 0, []) := by decide +kernel
theorem t_2_7 : tb_in 2 7 = some (.istore_n 1, 0, 0, 0, []) := by decide +kernel
theorem t_2_8 : tb_in 2 8 = some (.aload_n 0, 0, 0, 0, []) := by decide +kernel
theorem t_2_9 : tb_in 2 9 = some (.getfield 10, 6, 0, 0, []) := by decide +kernel
theorem t_2_12 : tb_in 2 12 = some (.iconst 0, 0, 0, 0, []) := by decide +kernel
theorem t_2_13 : tb_in 2 13 = some (.putfield 85, 4, 1, 0, []) := by decide +kernel
theorem t_2_16 : tb_in 2 16 = some (.iload_n 1, 0, 0, 0, []) := by decide +kernel
theorem t_2_17 : tb_in 2 17 = some (.ireturn, 0, 0, 0, []) := by decide +kernel
theorem t_3_0 : tb_in 3 0 = some (.iload_n 1, 0, 0, 0, []) := by decide +kernel
theorem t_3_1 : tb_in 3 1 = some (.invokestatic 96, 17, 1, 0, []) := by decide +kernel
theorem t_3_4 : tb_in 3 4 = some (.aload_n 0, 0, 0, 0, []) := by decide +kernel
theorem t_3_5 : tb_in 3 5 = some (.getfield 10, 6, 0, 0, []) := by decide +kernel
theorem t_3_8 : tb_in 3 8 = some (.invokevirtual 100, 91, 1, 0, []) := by decide +kernel
theorem t_3_11 : tb_in 3 11 = some (.istore_n 2, 0, 0, 0, []) := by decide +kernel
theorem t_3_12 : tb_in 3 12 = some (.iload_n 2, 0, 0, 0, []) := by decide +kernel
theorem t_3_13 : tb_in 3 13 = some (.iconst (-1), 0, 0, (-1), []) := by decide +kernel
theorem t_3_14 : tb_in 3 14 = some (.if_icmp .ne 31, 45, 0, 0, []) := by decide +kernel
theorem t_3_17 : tb_in 3 17 = some (.aload_n 0, 0, 0, 0, []) := by decide +kernel
theorem t_3_18 : tb_in 3 18 = some (.getfield 16, 6, 1, 0, []) := by decide +kernel
theorem t_3_21 : tb_in 3 21 = some (.iload_n 1, 0, 0, 0, []) := by decide +kernel
theorem t_3_22 : tb_in 3 22 = some (.aaload, 0, 0, 0, []) := by decide +kernel
theorem t_3_23 : tb_in 3 23 = some (.aload_n 0, 0, 0, 0, []) := by decide +kernel
theorem t_3_24 : tb_in 3 24 = some (.getfield 10, 6, 0, 0, []) := by decide +kernel
theorem t_3_27 : tb_in 3 27 = some (.invokevirtual 104, 90, 2, 0, []) := by decide +kernel
theorem t_3_30 : tb_in 3 30 = some (.aload_n 0, 0, 0, 0, []) := by decide +kernel
theorem t_3_31 : tb_in 3 31 = some (.getfield 10, 6, 0, 0, []) := by decide +kernel
theorem t_3_34 : tb_in 3 34 = some (.iconst 0, 0, 0, 0, []) := by decide +kernel
theorem t_3_35 : tb_in 3 35 = some (.putfield 85, 4, 1, 0, []) := by decide +kernel
theorem t_3_38 : tb_in 3 38 = some (.aload_n 0, 0, 0, 0, []) := by decide +kernel
theorem t_3_39 : tb_in 3 39 = some (.getfield 47, 6, 6, 0, []) := by decide +kernel
theorem t_3_42 : tb_in 3 42 = some (.invokevirtual 108, 84, 1, 0, []) := by decide +kernel
theorem t_3_45 : tb_in 3 45 = some (.iload_n 2, 0, 0, 0, []) := by decide +kernel
theorem t_3_46 : tb_in 3 46 = some (.ireturn, 0, 0, 0, []) := by decide +kernel
theorem t_4_0 : tb_in 4 0 = some (.iload_n 1, 0, 0, 0, []) := by decide +kernel
theorem t_4_1 : tb_in 4 1 = some (.invokestatic 111, 16, 1, 0, []) := by decide +kernel
theorem t_4_4 : tb_in 4 4 = some (.iload_n 2, 0, 0, 0, []) := by decide +kernel
theorem t_4_5 : tb_in 4 5 = some (.invokestatic 114, 18, 1, 0, []) := by decide +kernel
theorem t_4_8 : tb_in 4 8 = some (.iload_n 1, 0, 0, 0, []) := by decide +kernel
theorem t_4_9 : tb_in 4 9 = some (.bipush 16, 0, 0, 16, []) := by decide +kernel
theorem t_4_11 : tb_in 4 11 = some (.imul, 0, 0, 0, []) := by decide +kernel
theorem t_4_12 : tb_in 4 12 = some (.iload_n 2, 0, 0, 0, []) := by decide +kernel
theorem t_4_13 : tb_in 4 13 = some (.iadd, 0, 0, 0, []) := by decide +kernel
theorem t_4_14 : tb_in 4 14 = some (.istore 4, 0, 0, 0, []) := by decide +kernel
theorem t_4_16 : tb_in 4 16 = some (.aload_n 0, 0, 0, 0, []) := by decide +kernel
theorem t_4_17 : tb_in 4 17 = some (.getfield 27, 6, 3, 0, []) := by decide +kernel
theorem t_4_20 : tb_in 4 20 = some (.getfield 117, 2, 0, 0, []) := by decide +kernel
theorem t_4_23 : tb_in 4 23 = some (.iload 4, 0, 0, 0, []) := by decide +kernel
theorem t_4_25 : tb_in 4 25 = some (.iaload, 0, 0, 0, []) := by decide +kernel
theorem t_4_26 : tb_in 4 26 = some (.iload_n 3, 0, 0, 0, []) := by decide +kernel
theorem t_4_27 : tb_in 4 27 = some (.if_icmp .ne 5, 32, 0, 0, []) := by decide +kernel
theorem t_4_30 : tb_in 4 30 = some (.iconst 0, 0, 0, 0, []) := by decide +kernel
theorem t_4_31 : tb_in 4 31 = some (.ireturn, 0, 0, 0, []) := by decide +kernel
theorem t_4_32 : tb_in 4 32 = some (.aload_n 0, 0, 0, 0, []) := by decide +kernel
theorem t_4_33 : tb_in 4 33 = some (.aload_n 0, 0, 0, 0, []) := by decide +kernel
theorem t_4_34 : tb_in 4 34 = some (.getfield 27, 6, 3, 0, []) := by decide +kernel
theorem t_4_37 : tb_in 4 37 = some (.getfield 120, 2, 2, 0, []) := by decide +kernel
theorem t_4_40 : tb_in 4 40 = some (.iload_n 1, 0, 0, 0, []) := by decide +kernel
theorem t_4_41 : tb_in 4 41 = some (.iaload, 0, 0, 0, []) := by decide +kernel
theorem t_4_42 : tb_in 4 42 = some (.invokevirtual 123, 23, 2, 0, []) := by decide +kernel
theorem t_4_45 : tb_in 4 45 = some (.aload_n 0, 0, 0, 0, []) := by decide +kernel
theorem t_4_46 : tb_in 4 46 = some (.getfield 27, 6, 3, 0, []) := by decide +kernel
theorem t_4_49 : tb_in 4 49 = some (.getfield 117, 2, 0, 0, []) := by decide +kernel
theorem t_4_52 : tb_in 4 52 = some (.iload 4, 0, 0, 0, []) := by decide +kernel
theorem t_4_54 : tb_in 4 54 = some (.iload_n 3, 0, 0, 0, []) := by decide +kernel
theorem t_4_55 : tb_in 4 55 = some (.iastore, 0, 0, 0, []) := by decide +kernel
theorem t_4_56 : tb_in 4 56 = some (.aload_n 0, 0, 0, 0, []) := by decide +kernel
theorem t_4_57 : tb_in 4 57 = some (.getfield 27, 6, 3, 0, []) := by decide +kernel
theorem t_4_60 : tb_in 4 60 = some (.getfield 126, 2, 1, 0, []) := by decide +kernel
theorem t_4_63 : tb_in 4 63 = some (.iload 4, 0, 0, 0, []) := by decide +kernel
theorem t_4_65 : tb_in 4 65 = some (.aload_n 0, 0, 0, 0, []) := by decide +kernel
theorem t_4_66 : tb_in 4 66 = some (.getfield 34, 6, 4, 0, []) := by decide +kernel
theorem t_4_69 : tb_in 4 69 = some (.getfield 129, 1, 0, 0, []) := by decide +kernel
theorem t_4_72 : tb_in 4 72 = some (.iastore, 0, 0, 0, []) := by decide +kernel
theorem t_4_73 : tb_in 4 73 = some (.iconst 1, 0, 0, 1, []) := by decide +kernel
theorem t_4_74 : tb_in 4 74 = some (.ireturn, 0, 0, 0, []) := by decide +kernel
theorem t_5_0 : tb_in 5 0 = some (.iload_n 1, 0, 0, 0, []) := by decide +kernel
theorem t_5_1 : tb_in 5 1 = some (.invokestatic 96, 17, 1, 0, []) := by decide +kernel
theorem t_5_4 : tb_in 5 4 = some (.aload_n 0, 0, 0, 0, []) := by decide +kernel
theorem t_5_5 : tb_in 5 5 = some (.getfield 20, 6, 2, 0, []) := by decide +kernel
theorem t_5_8 : tb_in 5 8 = some (.iload_n 1, 0, 0, 0, []) := by decide +kernel
theorem t_5_9 : tb_in 5 9 = some (.iaload, 0, 0, 0, []) := by decide +kernel
theorem t_5_10 : tb_in 5 10 = some (.iload_n 2, 0, 0, 0, []) := by decide +kernel
theorem t_5_11 : tb_in 5 11 = some (.if_icmp .ne 5, 16, 0, 0, []) := by decide +kernel
theorem t_5_14 : tb_in 5 14 = some (.iconst 0, 0, 0, 0, []) := by decide +kernel
theorem t_5_15 : tb_in 5 15 = some (.ireturn, 0, 0, 0, []) := by decide +kernel
theorem t_5_16 : tb_in 5 16 = some (.aload_n 0, 0, 0, 0, []) := by decide +kernel
theorem t_5_17 : tb_in 5 17 = some (.iconst 0, 0, 0, 0, []) := by decide +kernel
theorem t_5_18 : tb_in 5 18 = some (.invokevirtual 123, 23, 2, 0, []) := by decide +kernel
theorem t_5_21 : tb_in 5 21 = some (.aload_n 0, 0, 0, 0, []) := by decide +kernel
theorem t_5_22 : tb_in 5 22 = some (.getfield 20, 6, 2, 0, []) := by decide +kernel
theorem t_5_25 : tb_in 5 25 = some (.iload_n 1, 0, 0, 0, []) := by decide +kernel
theorem t_5_26 : tb_in 5 26 = some (.iload_n 2, 0, 0, 0, []) := by decide +kernel
theorem t_5_27 : tb_in 5 27 = some (.iastore, 0, 0, 0, []) := by decide +kernel
theorem t_5_28 : tb_in 5 28 = some (.iconst 1, 0, 0, 1, []) := by decide +kernel
theorem t_5_29 : tb_in 5 29 = some (.ireturn, 0, 0, 0, []) := by decide +kernel
theorem t_6_0 : tb_in 6 0 = some (.iload_n 1, 0, 0, 0, []) := by decide +kernel
theorem t_6_1 : tb_in 6 1 = some (.invokestatic 111, 16, 1, 0, []) := by decide +kernel
theorem t_6_4 : tb_in 6 4 = some (.iload_n 2, 0, 0, 0, []) := by decide +kernel
theorem t_6_5 : tb_in 6 5 = some (.iconst 3, 0, 0, 3, []) := by decide +kernel
theorem t_6_6 : tb_in 6 6 = some (.invokestatic 132, 15, 2, 0, []) := by decide +kernel
theorem t_6_9 : tb_in 6 9 = some (.aload_n 0, 0, 0, 0, []) := by decide +kernel
theorem t_6_10 : tb_in 6 10 = some (.getfield 27, 6, 3, 0, []) := by decide +kernel
theorem t_6_13 : tb_in 6 13 = some (.getfield 120, 2, 2, 0, []) := by decide +kernel
theorem t_6_16 : tb_in 6 16 = some (.iload_n 1, 0, 0, 0, []) := by decide +kernel
theorem t_6_17 : tb_in 6 17 = some (.iload_n 2, 0, 0, 0, []) := by decide +kernel
theorem t_6_18 : tb_in 6 18 = some (.iastore, 0, 0, 0, []) := by decide +kernel
theorem t_6_19 : tb_in 6 19 = some (.aload_n 0, 0, 0, 0, []) := by decide +kernel
theorem t_6_20 : tb_in 6 20 = some (.getfield 47, 6, 6, 0, []) := by decide +kernel
theorem t_6_23 : tb_in 6 23 = some (.invokevirtual 108, 84, 1, 0, []) := by decide +kernel
theorem t_6_26 : tb_in 6 26 = some (.return_, 0, 0, 0, []) := by decide +kernel
theorem t_7_0 : tb_in 7 0 = some (.iload_n 1, 0, 0, 0, []) := by decide +kernel
theorem t_7_1 : tb_in 7 1 = some (.iload_n 2, 0, 0, 0, []) := by decide +kernel
theorem t_7_2 : tb_in 7 2 = some (.invokestatic 136, 19, 2, 0, []) := by decide +kernel
theorem t_7_5 : tb_in 7 5 = some (.iload_n 1, 0, 0, 0, []) := by decide +kernel
theorem t_7_6 : tb_in 7 6 = some (.bipush 16, 0, 0, 16, []) := by decide +kernel
theorem t_7_8 : tb_in 7 8 = some (.imul, 0, 0, 0, []) := by decide +kernel
theorem t_7_9 : tb_in 7 9 = some (.iload_n 2, 0, 0, 0, []) := by decide +kernel
theorem t_7_10 : tb_in 7 10 = some (.iadd, 0, 0, 0, []) := by decide +kernel
theorem t_7_11 : tb_in 7 11 = some (.istore_n 3, 0, 0, 0, []) := by decide +kernel
theorem t_7_12 : tb_in 7 12 = some (.getstatic 139, 3, 0, 0, []) := by decide +kernel
theorem t_7_15 : tb_in 7 15 = some (.astore 4, 0, 0, 0, []) := by decide +kernel
theorem t_7_17 : tb_in 7 17 = some (.iconst 0, 0, 0, 0, []) := by decide +kernel
theorem t_7_18 : tb_in 7 18 = some (.istore 5, 0, 0, 0, []) := by decide +kernel
theorem t_7_20 : tb_in 7 20 = some (.iload 5, 0, 0, 0, []) := by decide +kernel
theorem t_7_22 : tb_in 7 22 = some (.bipush 96, 0, 0, 96, []) := by decide +kernel
theorem t_7_24 : tb_in 7 24 = some (.if_icmp .gt 29, 53, 0, 0, []) := by decide +kernel
theorem t_7_27 : tb_in 7 27 = some (.aload 4, 0, 0, 0, []) := by decide +kernel
theorem t_7_29 : tb_in 7 29 = some (.getstatic 139, 3, 0, 0, []) := by decide +kernel
theorem t_7_32 : tb_in 7 32 = some (.if_acmp .ne 21, 53, 0, 0, []) := by decide +kernel
theorem t_7_35 : tb_in 7 35 = some (.aload_n 0, 0, 0, 0, []) := by decide +kernel
theorem t_7_36 : tb_in 7 36 = some (.iconst 0, 0, 0, 0, []) := by decide +kernel
theorem t_7_37 : tb_in 7 37 = some (.putfield 64, 6, 10, 0, []) := by decide +kernel
theorem t_7_40 : tb_in 7 40 = some (.aload_n 0, 0, 0, 0, []) := by decide +kernel
theorem t_7_41 : tb_in 7 41 = some (.iload_n 3, 0, 0, 0, []) := by decide +kernel
theorem t_7_42 : tb_in 7 42 = some (.invokevirtual 145, 25, 2, 0, []) := by decide +kernel
theorem t_7_45 : tb_in 7 45 = some (.astore 4, 0, 0, 0, []) := by decide +kernel
theorem t_7_47 : tb_in 7 47 = some (.iinc 5 1, 0, 0, 1, []) := by decide +kernel
theorem t_7_50 : tb_in 7 50 = some (.goto (-30), 20, 0, 0, []) := by decide +kernel
theorem t_7_53 : tb_in 7 53 = some (.aload 4, 0, 0, 0, []) := by decide +kernel
theorem t_7_55 : tb_in 7 55 = some (.getstatic 149, 1, 0, 0, []) := by decide +kernel
theorem t_7_58 : tb_in 7 58 = some (.if_acmp .eq 13, 71, 0, 0, []) := by decide +kernel
theorem t_7_61 : tb_in 7 61 = some (.new 152, 1001, 0, 0, []) := by decide +kernel
theorem t_7_64 : tb_in 7 64 = some (.dup, 0, 0, 0, []) := by decide +kernel
theorem t_7_70 : tb_in 7 70 = some (.athrow, 0, 0, 0, []) := by decide +kernel
theorem t_7_71 : tb_in 7 71 = some (.aload_n 0, 0, 0, 0, []) := by decide +kernel
theorem t_7_72 : tb_in 7 72 = some (.getfield 47, 6, 6, 0, []) := by decide +kernel
theorem t_7_75 : tb_in 7 75 = some (.iload_n 3, 0, 0, 0, []) := by decide +kernel
theorem t_7_76 : tb_in 7 76 = some (.invokevirtual 159, 82, 2, 0, []) := by decide +kernel
theorem t_7_79 : tb_in 7 79 = some (.aload_n 0, 0, 0, 0, []) := by decide +kernel
theorem t_7_80 : tb_in 7 80 = some (.invokevirtual 162, 24, 1, 0, []) := by decide +kernel
theorem t_7_83 : tb_in 7 83 = some (.pop, 0, 0, 0, []) := by decide +kernel
theorem t_7_84 : tb_in 7 84 = some (.aload_n 0, 0, 0, 0, []) := by decide +kernel
theorem t_7_85 : tb_in 7 85 = some (.getfield 40, 6, 5, 0, []) := by decide +kernel
theorem t_7_88 : tb_in 7 88 = some (.iload_n 3, 0, 0, 0, []) := by decide +kernel
theorem t_7_89 : tb_in 7 89 = some (.aaload, 0, 0, 0, []) := by decide +kernel
theorem t_7_90 : tb_in 7 90 = some (.getfield 165, 0, 0, 0, []) := by decide +kernel
theorem t_7_93 : tb_in 7 93 = some (.ireturn, 0, 0, 0, []) := by decide +kernel
theorem t_8_0 : tb_in 8 0 = some (.iload_n 1, 0, 0, 0, []) := by decide +kernel
theorem t_8_1 : tb_in 8 1 = some (.tableswitch 75 0 5 #[39, 47, 52, 57, 62, 67], 76, 39, 0, [40, 48, 53, 58, 63, 68]) := by decide +kernel
theorem t_8_40 : tb_in 8 40 = some (.aload_n 0, 0, 0, 0, []) := by decide +kernel
theorem t_8_41 : tb_in 8 41 = some (.getfield 34, 6, 4, 0, []) := by decide +kernel
theorem t_8_44 : tb_in 8 44 = some (.getfield 129, 1, 0, 0, []) := by decide +kernel
theorem t_8_47 : tb_in 8 47 = some (.ireturn, 0, 0, 0, []) := by decide +kernel
theorem t_8_48 : tb_in 8 48 = some (.aload_n 0, 0, 0, 0, []) := by decide +kernel
theorem t_8_49 : tb_in 8 49 = some (.getfield 67, 6, 11, 0, []) := by decide +kernel
theorem t_8_52 : tb_in 8 52 = some (.ireturn, 0, 0, 0, []) := by decide +kernel
theorem t_8_53 : tb_in 8 53 = some (.aload_n 0, 0, 0, 0, []) := by decide +kernel
theorem t_8_54 : tb_in 8 54 = some (.getfield 70, 6, 12, 0, []) := by decide +kernel
theorem t_8_57 : tb_in 8 57 = some (.ireturn, 0, 0, 0, []) := by decide +kernel
theorem t_8_58 : tb_in 8 58 = some (.aload_n 0, 0, 0, 0, []) := by decide +kernel
theorem t_8_59 : tb_in 8 59 = some (.getfield 73, 6, 13, 0, []) := by decide +kernel
theorem t_8_62 : tb_in 8 62 = some (.ireturn, 0, 0, 0, []) := by decide +kernel
theorem t_8_63 : tb_in 8 63 = some (.aload_n 0, 0, 0, 0, []) := by decide +kernel
theorem t_8_64 : tb_in 8 64 = some (.getfield 76, 6, 14, 0, []) := by decide +kernel
theorem t_8_67 : tb_in 8 67 = some (.ireturn, 0, 0, 0, []) := by decide +kernel
theorem t_8_68 : tb_in 8 68 = some (.aload_n 0, 0, 0, 0, []) := by decide +kernel
theorem t_8_69 : tb_in 8 69 = some (.getfield 47, 6, 6, 0, []) := by decide +kernel
theorem t_8_72 : tb_in 8 72 = some (.getfield 168, 3, 0, 0, []) := by decide +kernel
theorem t_8_75 : tb_in 8 75 = some (.ireturn, 0, 0, 0, []) := by decide +kernel
theorem t_8_76 : tb_in 8 76 = some (.iconst (-1), 0, 0, (-1), []) := by decide +kernel
theorem t_8_77 : tb_in 8 77 = some (.ireturn, 0, 0, 0, []) := by decide +kernel
theorem t_9_0 : tb_in 9 0 = some (.iload_n 1, 0, 0, 0, []) := by decide +kernel
theorem t_9_1 : tb_in 9 1 = some (.iload_n 2, 0, 0, 0, []) := by decide +kernel
theorem t_9_2 : tb_in 9 2 = some (.invokestatic 136, 19, 2, 0, []) := by decide +kernel
theorem t_9_5 : tb_in 9 5 = some (.aload_n 0, 0, 0, 0, []) := by decide +kernel
theorem t_9_6 : tb_in 9 6 = some (.getfield 47, 6, 6, 0, []) := by decide +kernel
theorem t_9_9 : tb_in 9 9 = some (.iload_n 1, 0, 0, 0, []) := by decide +kernel
theorem t_9_10 : tb_in 9 10 = some (.bipush 16, 0, 0, 16, []) := by decide +kernel
theorem t_9_12 : tb_in 9 12 = some (.imul, 0, 0, 0, []) := by decide +kernel
theorem t_9_13 : tb_in 9 13 = some (.iload_n 2, 0, 0, 0, []) := by decide +kernel
theorem t_9_14 : tb_in 9 14 = some (.iadd, 0, 0, 0, []) := by decide +kernel
theorem t_9_15 : tb_in 9 15 = some (.invokevirtual 171, 81, 2, 0, []) := by decide +kernel
theorem t_9_18 : tb_in 9 18 = some (.ireturn, 0, 0, 0, []) := by decide +kernel
theorem t_10_0 : tb_in 10 0 = some (.iload_n 1, 0, 0, 0, []) := by decide +kernel
theorem t_10_1 : tb_in 10 1 = some (.iload_n 2, 0, 0, 0, []) := by decide +kernel
theorem t_10_2 : tb_in 10 2 = some (.invokestatic 136, 19, 2, 0, []) := by decide +kernel
theorem t_10_5 : tb_in 10 5 = some (.iload_n 3, 0, 0, 0, []) := by decide +kernel
theorem t_10_6 : tb_in 10 6 = some (.bipush 6, 0, 0, 6, []) := by decide +kernel
theorem t_10_8 : tb_in 10 8 = some (.invokestatic 132, 15, 2, 0, []) := by decide +kernel
theorem t_10_11 : tb_in 10 11 = some (.aload_n 0, 0, 0, 0, []) := by decide +kernel
theorem t_10_12 : tb_in 10 12 = some (.iload_n 1, 0, 0, 0, []) := by decide +kernel
theorem t_10_13 : tb_in 10 13 = some (.bipush 16, 0, 0, 16, []) := by decide +kernel
theorem t_10_15 : tb_in 10 15 = some (.imul, 0, 0, 0, []) := by decide +kernel
theorem t_10_16 : tb_in 10 16 = some (.iload_n 2, 0, 0, 0, []) := by decide +kernel
theorem t_10_17 : tb_in 10 17 = some (.iadd, 0, 0, 0, []) := by decide +kernel
theorem t_10_18 : tb_in 10 18 = some (.invokevirtual 175, 20, 2, 0, []) := by decide +kernel
theorem t_10_21 : tb_in 10 21 = some (.astore 4, 0, 0, 0, []) := by decide +kernel
theorem t_10_23 : tb_in 10 23 = some (.iload_n 3, 0, 0, 0, []) := by decide +kernel
theorem t_10_24 : tb_in 10 24 = some (.tableswitch 74 0 4 #[36, 42, 48, 54, 60], 98, 36, 0, [60, 66, 72, 78, 84]) := by decide +kernel
theorem t_10_60 : tb_in 10 60 = some (.aload 4, 0, 0, 0, []) := by decide +kernel
theorem t_10_62 : tb_in 10 62 = some (.getfield 165, 0, 0, 0, []) := by decide +kernel
theorem t_10_65 : tb_in 10 65 = some (.ireturn, 0, 0, 0, []) := by decide +kernel
theorem t_10_66 : tb_in 10 66 = some (.aload 4, 0, 0, 0, []) := by decide +kernel
theorem t_10_68 : tb_in 10 68 = some (.getfield 179, 0, 3, 0, []) := by decide +kernel
theorem t_10_71 : tb_in 10 71 = some (.ireturn, 0, 0, 0, []) := by decide +kernel
theorem t_10_72 : tb_in 10 72 = some (.aload 4, 0, 0, 0, []) := by decide +kernel
theorem t_10_74 : tb_in 10 74 = some (.getfield 182, 0, 4, 0, []) := by decide +kernel
theorem t_10_77 : tb_in 10 77 = some (.ireturn, 0, 0, 0, []) := by decide +kernel
theorem t_10_78 : tb_in 10 78 = some (.aload 4, 0, 0, 0, []) := by decide +kernel
theorem t_10_80 : tb_in 10 80 = some (.getfield 184, 0, 5, 0, []) := by decide +kernel
theorem t_10_83 : tb_in 10 83 = some (.ireturn, 0, 0, 0, []) := by decide +kernel
theorem t_10_84 : tb_in 10 84 = some (.aload 4, 0, 0, 0, []) := by decide +kernel
theorem t_10_86 : tb_in 10 86 = some (.getfield 187, 0, 6, 0, []) := by decide +kernel
theorem t_10_89 : tb_in 10 89 = some (.ifCond .eq 7, 96, 0, 0, []) := by decide +kernel
theorem t_10_92 : tb_in 10 92 = some (.iconst 1, 0, 0, 1, []) := by decide +kernel
theorem t_10_93 : tb_in 10 93 = some (.goto 4, 97, 0, 0, []) := by decide +kernel
theorem t_10_96 : tb_in 10 96 = some (.iconst 0, 0, 0, 0, []) := by decide +kernel
theorem t_10_97 : tb_in 10 97 = some (.ireturn, 0, 0, 0, []) := by decide +kernel
theorem t_10_98 : tb_in 10 98 = some (.aload 4, 0, 0, 0, []) := by decide +kernel
theorem t_10_100 : tb_in 10 100 = some (.getfield 191, 0, 2, 0, []) := by decide +kernel
theorem t_10_103 : tb_in 10 103 = some (.ireturn, 0, 0, 0, []) := by decide +kernel
theorem t_11_0 : tb_in 11 0 = some (.iload_n 1, 0, 0, 0, []) := by decide +kernel
theorem t_11_1 : tb_in 11 1 = some (.iload_n 2, 0, 0, 0, []) := by decide +kernel
theorem t_11_2 : tb_in 11 2 = some (.invokestatic 136, 19, 2, 0, []) := by decide +kernel
theorem t_11_5 : tb_in 11 5 = some (.aload_n 0, 0, 0, 0, []) := by decide +kernel
theorem t_11_6 : tb_in 11 6 = some (.iload_n 1, 0, 0, 0, []) := by decide +kernel
theorem t_11_7 : tb_in 11 7 = some (.bipush 16, 0, 0, 16, []) := by decide +kernel
theorem t_11_9 : tb_in 11 9 = some (.imul, 0, 0, 0, []) := by decide +kernel
theorem t_11_10 : tb_in 11 10 = some (.iload_n 2, 0, 0, 0, []) := by decide +kernel
theorem t_11_11 : tb_in 11 11 = some (.iadd, 0, 0, 0, []) := by decide +kernel
theorem t_11_12 : tb_in 11 12 = some (.invokevirtual 175, 20, 2, 0, []) := by decide +kernel
theorem t_11_15 : tb_in 11 15 = some (.astore 4, 0, 0, 0, []) := by decide +kernel
theorem t_11_17 : tb_in 11 17 = some (.iload_n 3, 0, 0, 0, []) := by decide +kernel
theorem t_11_18 : tb_in 11 18 = some (.ifCond .lt 22, 40, 0, 0, []) := by decide +kernel
theorem t_11_21 : tb_in 11 21 = some (.iload_n 3, 0, 0, 0, []) := by decide +kernel
theorem t_11_22 : tb_in 11 22 = some (.aload 4, 0, 0, 0, []) := by decide +kernel
theorem t_11_24 : tb_in 11 24 = some (.getfield 191, 0, 2, 0, []) := by decide +kernel
theorem t_11_27 : tb_in 11 27 = some (.if_icmp .ge 13, 40, 0, 0, []) := by decide +kernel
theorem t_11_30 : tb_in 11 30 = some (.aload 4, 0, 0, 0, []) := by decide +kernel
theorem t_11_32 : tb_in 11 32 = some (.getfield 194, 0, 1, 0, []) := by decide +kernel
theorem t_11_35 : tb_in 11 35 = some (.iload_n 3, 0, 0, 0, []) := by decide +kernel
theorem t_11_36 : tb_in 11 36 = some (.iaload, 0, 0, 0, []) := by decide +kernel
theorem t_11_37 : tb_in 11 37 = some (.goto 4, 41, 0, 0, []) := by decide +kernel
theorem t_11_40 : tb_in 11 40 = some (.iconst (-1), 0, 0, (-1), []) := by decide +kernel
theorem t_11_41 : tb_in 11 41 = some (.ireturn, 0, 0, 0, []) := by decide +kernel
theorem t_12_0 : tb_in 12 0 = some (.iload_n 1, 0, 0, 0, []) := by decide +kernel
theorem t_12_1 : tb_in 12 1 = some (.ifCond .lt 25, 26, 0, 0, []) := by decide +kernel
theorem t_12_4 : tb_in 12 4 = some (.iload_n 1, 0, 0, 0, []) := by decide +kernel
theorem t_12_5 : tb_in 12 5 = some (.aload_n 0, 0, 0, 0, []) := by decide +kernel
theorem t_12_6 : tb_in 12 6 = some (.getfield 47, 6, 6, 0, []) := by decide +kernel
theorem t_12_9 : tb_in 12 9 = some (.getfield 168, 3, 0, 0, []) := by decide +kernel
theorem t_12_12 : tb_in 12 12 = some (.if_icmp .ge 14, 26, 0, 0, []) := by decide +kernel
theorem t_12_15 : tb_in 12 15 = some (.aload_n 0, 0, 0, 0, []) := by decide +kernel
theorem t_12_16 : tb_in 12 16 = some (.getfield 47, 6, 6, 0, []) := by decide +kernel
theorem t_12_19 : tb_in 12 19 = some (.iload_n 1, 0, 0, 0, []) := by decide +kernel
theorem t_12_20 : tb_in 12 20 = some (.invokevirtual 197, 85, 2, 0, []) := by decide +kernel
theorem t_12_23 : tb_in 12 23 = some (.goto 4, 27, 0, 0, []) := by decide +kernel
theorem t_12_26 : tb_in 12 26 = some (.iconst (-1), 0, 0, (-1), []) := by decide +kernel
theorem t_12_27 : tb_in 12 27 = some (.ireturn, 0, 0, 0, []) := by decide +kernel
theorem t_13_0 : tb_in 13 0 = some (.iload_n 1, 0, 0, 0, []) := by decide +kernel
theorem t_13_1 : tb_in 13 1 = some (.iconst 1, 0, 0, 1, []) := by decide +kernel
theorem t_13_2 : tb_in 13 2 = some (.if_icmp .lt 9, 11, 0, 0, []) := by decide +kernel
theorem t_13_5 : tb_in 13 5 = some (.iload_n 1, 0, 0, 0, []) := by decide +kernel
theorem t_13_6 : tb_in 13 6 = some (.bipush 96, 0, 0, 96, []) := by decide +kernel
theorem t_13_8 : tb_in 13 8 = some (.if_icmp .le 13, 21, 0, 0, []) := by decide +kernel
theorem t_13_11 : tb_in 13 11 = some (.new 201, 1000, 0, 0, []) := by decide +kernel
theorem t_13_14 : tb_in 13 14 = some (.dup, 0, 0, 0, []) := by decide +kernel
theorem t_13_20 : tb_in 13 20 = some (.athrow, 0, 0, 0, []) := by decide +kernel
theorem t_13_21 : tb_in 13 21 = some (.aload_n 0, 0, 0, 0, []) := by decide +kernel
theorem t_13_22 : tb_in 13 22 = some (.iload_n 1, 0, 0, 0, []) := by decide +kernel
theorem t_13_23 : tb_in 13 23 = some (.putfield 51, 6, 7, 0, []) := by decide +kernel
theorem t_13_26 : tb_in 13 26 = some (.aload_n 0, 0, 0, 0, []) := by decide +kernel
theorem t_13_27 : tb_in 13 27 = some (.invokevirtual 162, 24, 1, 0, []) := by decide +kernel
theorem t_13_30 : tb_in 13 30 = some (.ireturn, 0, 0, 0, []) := by decide +kernel
theorem t_14_0 : tb_in 14 0 = some (.iload_n 1, 0, 0, 0, []) := by decide +kernel
theorem t_14_1 : tb_in 14 1 = some (.iload_n 2, 0, 0, 0, []) := by decide +kernel
theorem t_14_2 : tb_in 14 2 = some (.invokestatic 136, 19, 2, 0, []) := by decide +kernel
theorem t_14_5 : tb_in 14 5 = some (.iload_n 1, 0, 0, 0, []) := by decide +kernel
theorem t_14_6 : tb_in 14 6 = some (.bipush 16, 0, 0, 16, []) := by decide +kernel
theorem t_14_8 : tb_in 14 8 = some (.imul, 0, 0, 0, []) := by decide +kernel
theorem t_14_9 : tb_in 14 9 = some (.iload_n 2, 0, 0, 0, []) := by decide +kernel
theorem t_14_10 : tb_in 14 10 = some (.iadd, 0, 0, 0, []) := by decide +kernel
theorem t_14_11 : tb_in 14 11 = some (.istore_n 3, 0, 0, 0, []) := by decide +kernel
theorem t_14_12 : tb_in 14 12 = some (.aload_n 0, 0, 0, 0, []) := by decide +kernel
theorem t_14_13 : tb_in 14 13 = some (.getfield 47, 6, 6, 0, []) := by decide +kernel
theorem t_14_16 : tb_in 14 16 = some (.iload_n 3, 0, 0, 0, []) := by decide +kernel
theorem t_14_17 : tb_in 14 17 = some (.invokevirtual 171, 81, 2, 0, []) := by decide +kernel
theorem t_14_20 : tb_in 14 20 = some (.istore 4, 0, 0, 0, []) := by decide +kernel
theorem t_14_22 : tb_in 14 22 = some (.aload_n 0, 0, 0, 0, []) := by decide +kernel
theorem t_14_23 : tb_in 14 23 = some (.getfield 47, 6, 6, 0, []) := by decide +kernel
theorem t_14_26 : tb_in 14 26 = some (.iload_n 3, 0, 0, 0, []) := by decide +kernel
theorem t_14_27 : tb_in 14 27 = some (.invokevirtual 206, 83, 2, 0, []) := by decide +kernel
theorem t_14_30 : tb_in 14 30 = some (.iload 4, 0, 0, 0, []) := by decide +kernel
theorem t_14_32 : tb_in 14 32 = some (.ireturn, 0, 0, 0, []) := by decide +kernel
theorem t_15_0 : tb_in 15 0 = some (.iload_n 0, 0, 0, 0, []) := by decide +kernel
theorem t_15_1 : tb_in 15 1 = some (.ifCond .lt 8, 9, 0, 0, []) := by decide +kernel
theorem t_15_4 : tb_in 15 4 = some (.iload_n 0, 0, 0, 0, []) := by decide +kernel
theorem t_15_5 : tb_in 15 5 = some (.iload_n 1, 0, 0, 0, []) := by decide +kernel
theorem t_15_6 : tb_in 15 6 = some (.if_icmp .lt 13, 19, 0, 0, []) := by decide +kernel
theorem t_15_9 : tb_in 15 9 = some (.new 201, 1000, 0, 0, []) := by decide +kernel
theorem t_15_12 : tb_in 15 12 = some (.dup, 0, 0, 0, []) := by decide +kernel
theorem t_15_18 : tb_in 15 18 = some (.athrow, 0, 0, 0, []) := by decide +kernel
theorem t_15_19 : tb_in 15 19 = some (.return_, 0, 0, 0, []) := by decide +kernel
theorem t_16_0 : tb_in 16 0 = some (.iload_n 0, 0, 0, 0, []) := by decide +kernel
theorem t_16_1 : tb_in 16 1 = some (.iconst 3, 0, 0, 3, []) := by decide +kernel
theorem t_16_2 : tb_in 16 2 = some (.invokestatic 132, 15, 2, 0, []) := by decide +kernel
theorem t_16_5 : tb_in 16 5 = some (.return_, 0, 0, 0, []) := by decide +kernel
theorem t_17_0 : tb_in 17 0 = some (.iload_n 0, 0, 0, 0, []) := by decide +kernel
theorem t_17_1 : tb_in 17 1 = some (.bipush 6, 0, 0, 6, []) := by decide +kernel
theorem t_17_3 : tb_in 17 3 = some (.invokestatic 132, 15, 2, 0, []) := by decide +kernel
theorem t_17_6 : tb_in 17 6 = some (.return_, 0, 0, 0, []) := by decide +kernel
theorem t_18_0 : tb_in 18 0 = some (.iload_n 0, 0, 0, 0, []) := by decide +kernel
theorem t_18_1 : tb_in 18 1 = some (.bipush 16, 0, 0, 16, []) := by decide +kernel
theorem t_18_3 : tb_in 18 3 = some (.invokestatic 132, 15, 2, 0, []) := by decide +kernel
theorem t_18_6 : tb_in 18 6 = some (.return_, 0, 0, 0, []) := by decide +kernel
theorem t_19_0 : tb_in 19 0 = some (.iload_n 0, 0, 0, 0, []) := by decide +kernel
theorem t_19_1 : tb_in 19 1 = some (.invokestatic 96, 17, 1, 0, []) := by decide +kernel
theorem t_19_4 : tb_in 19 4 = some (.iload_n 1, 0, 0, 0, []) := by decide +kernel
theorem t_19_5 : tb_in 19 5 = some (.invokestatic 114, 18, 1, 0, []) := by decide +kernel
theorem t_19_8 : tb_in 19 8 = some (.return_, 0, 0, 0, []) := by decide +kernel
theorem t_20_0 : tb_in 20 0 = some (.aload_n 0, 0, 0, 0, []) := by decide +kernel
theorem t_20_1 : tb_in 20 1 = some (.getfield 47, 6, 6, 0, []) := by decide +kernel
theorem t_20_4 : tb_in 20 4 = some (.iload_n 1, 0, 0, 0, []) := by decide +kernel
theorem t_20_5 : tb_in 20 5 = some (.invokevirtual 171, 81, 2, 0, []) := by decide +kernel
theorem t_20_8 : tb_in 20 8 = some (.ifCond .ne 13, 21, 0, 0, []) := by decide +kernel
theorem t_20_11 : tb_in 20 11 = some (.new 211, 1002, 0, 0, []) := by decide +kernel
theorem t_20_14 : tb_in 20 14 = some (.dup, 0, 0, 0, []) := by decide +kernel
theorem t_20_20 : tb_in 20 20 = some (.athrow, 0, 0, 0, []) := by decide +kernel
theorem t_20_21 : tb_in 20 21 = some (.aload_n 0, 0, 0, 0, []) := by decide +kernel
theorem t_20_22 : tb_in 20 22 = some (.getfield 40, 6, 5, 0, []) := by decide +kernel
theorem t_20_25 : tb_in 20 25 = some (.iload_n 1, 0, 0, 0, []) := by decide +kernel
theorem t_20_26 : tb_in 20 26 = some (.aaload, 0, 0, 0, []) := by decide +kernel
theorem t_20_27 : tb_in 20 27 = some (.areturn, 0, 0, 0, []) := by decide +kernel
theorem t_21_0 : tb_in 21 0 = some (.lload_n 0, 0, 0, 0, []) := by decide +kernel
theorem t_21_1 : tb_in 21 1 = some (.bipush 8, 0, 0, 8, []) := by decide +kernel
theorem t_21_3 : tb_in 21 3 = some (.iload_n 2, 0, 0, 0, []) := by decide +kernel
theorem t_21_4 : tb_in 21 4 = some (.imul, 0, 0, 0, []) := by decide +kernel
theorem t_21_5 : tb_in 21 5 = some (.lushr, 0, 0, 0, []) := by decide +kernel
theorem t_21_6 : tb_in 21 6 = some (.ldc2_w 216, 255, 0, 0, []) := by decide +kernel
theorem t_21_9 : tb_in 21 9 = some (.land, 0, 0, 0, []) := by decide +kernel
theorem t_21_10 : tb_in 21 10 = some (.l2i, 0, 0, 0, []) := by decide +kernel
theorem t_21_11 : tb_in 21 11 = some (.i2c, 0, 0, 0, []) := by decide +kernel
theorem t_21_12 : tb_in 21 12 = some (.ireturn, 0, 0, 0, []) := by decide +kernel
theorem t_22_0 : tb_in 22 0 = some (.iconst 0, 0, 0, 0, []) := by decide +kernel
theorem t_22_1 : tb_in 22 1 = some (.istore_n 2, 0, 0, 0, []) := by decide +kernel
theorem t_22_2 : tb_in 22 2 = some (.iconst 0, 0, 0, 0, []) := by decide +kernel
theorem t_22_3 : tb_in 22 3 = some (.istore_n 3, 0, 0, 0, []) := by decide +kernel
theorem t_22_4 : tb_in 22 4 = some (.iload_n 3, 0, 0, 0, []) := by decide +kernel
theorem t_22_5 : tb_in 22 5 = some (.bipush 8, 0, 0, 8, []) := by decide +kernel
theorem t_22_7 : tb_in 22 7 = some (.if_icmp .ge 20, 27, 0, 0, []) := by decide +kernel
theorem t_22_10 : tb_in 22 10 = some (.lload_n 0, 0, 0, 0, []) := by decide +kernel
theorem t_22_11 : tb_in 22 11 = some (.iload_n 3, 0, 0, 0, []) := by decide +kernel
theorem t_22_12 : tb_in 22 12 = some (.invokestatic 92, 21, 2, 0, []) := by decide +kernel
theorem t_22_15 : tb_in 22 15 = some (.ifCond .eq 6, 21, 0, 0, []) := by decide +kernel
theorem t_22_18 : tb_in 22 18 = some (.iinc 2 1, 0, 0, 1, []) := by decide +kernel
theorem t_22_21 : tb_in 22 21 = some (.iinc 3 1, 0, 0, 1, []) := by decide +kernel
theorem t_22_24 : tb_in 22 24 = some (.goto (-20), 4, 0, 0, []) := by decide +kernel
theorem t_22_27 : tb_in 22 27 = some (.iload_n 2, 0, 0, 0, []) := by decide +kernel
theorem t_22_28 : tb_in 22 28 = some (.ireturn, 0, 0, 0, []) := by decide +kernel
theorem t_23_0 : tb_in 23 0 = some (.aload_n 0, 0, 0, 0, []) := by decide +kernel
theorem t_23_1 : tb_in 23 1 = some (.getfield 34, 6, 4, 0, []) := by decide +kernel
theorem t_23_4 : tb_in 23 4 = some (.iload_n 1, 0, 0, 0, []) := by decide +kernel
theorem t_23_5 : tb_in 23 5 = some (.invokevirtual 218, 77, 2, 0, []) := by decide +kernel
theorem t_23_8 : tb_in 23 8 = some (.iconst 0, 0, 0, 0, []) := by decide +kernel
theorem t_23_9 : tb_in 23 9 = some (.istore_n 2, 0, 0, 0, []) := by decide +kernel
theorem t_23_10 : tb_in 23 10 = some (.iload_n 2, 0, 0, 0, []) := by decide +kernel
theorem t_23_11 : tb_in 23 11 = some (.bipush 96, 0, 0, 96, []) := by decide +kernel
theorem t_23_13 : tb_in 23 13 = some (.if_icmp .ge 29, 42, 0, 0, []) := by decide +kernel
theorem t_23_16 : tb_in 23 16 = some (.aload_n 0, 0, 0, 0, []) := by decide +kernel
theorem t_23_17 : tb_in 23 17 = some (.getfield 40, 6, 5, 0, []) := by decide +kernel
theorem t_23_20 : tb_in 23 20 = some (.iload_n 2, 0, 0, 0, []) := by decide +kernel
theorem t_23_21 : tb_in 23 21 = some (.aaload, 0, 0, 0, []) := by decide +kernel
theorem t_23_22 : tb_in 23 22 = some (.getfield 187, 0, 6, 0, []) := by decide +kernel
theorem t_23_25 : tb_in 23 25 = some (.ifCond .eq 11, 36, 0, 0, []) := by decide +kernel
theorem t_23_28 : tb_in 23 28 = some (.aload_n 0, 0, 0, 0, []) := by decide +kernel
theorem t_23_29 : tb_in 23 29 = some (.getfield 47, 6, 6, 0, []) := by decide +kernel
theorem t_23_32 : tb_in 23 32 = some (.iload_n 2, 0, 0, 0, []) := by decide +kernel
theorem t_23_33 : tb_in 23 33 = some (.invokevirtual 206, 83, 2, 0, []) := by decide +kernel
theorem t_23_36 : tb_in 23 36 = some (.iinc 2 1, 0, 0, 1, []) := by decide +kernel
theorem t_23_39 : tb_in 23 39 = some (.goto (-29), 10, 0, 0, []) := by decide +kernel
theorem t_23_42 : tb_in 23 42 = some (.return_, 0, 0, 0, []) := by decide +kernel
theorem t_24_0 : tb_in 24 0 = some (.iconst 0, 0, 0, 0, []) := by decide +kernel
theorem t_24_1 : tb_in 24 1 = some (.aload_n 0, 0, 0, 0, []) := by decide +kernel
theorem t_24_2 : tb_in 24 2 = some (.getfield 47, 6, 6, 0, []) := by decide +kernel
theorem t_24_5 : tb_in 24 5 = some (.getfield 168, 3, 0, 0, []) := by decide +kernel
theorem t_24_8 : tb_in 24 8 = some (.aload_n 0, 0, 0, 0, []) := by decide +kernel
theorem t_24_9 : tb_in 24 9 = some (.getfield 51, 6, 7, 0, []) := by decide +kernel
theorem t_24_12 : tb_in 24 12 = some (.isub, 0, 0, 0, []) := by decide +kernel
theorem t_24_13 : tb_in 24 13 = some (.invokestatic 221, 1001, 0, 0, []) := by decide +kernel
theorem t_24_16 : tb_in 24 16 = some (.istore_n 1, 0, 0, 0, []) := by decide +kernel
theorem t_24_17 : tb_in 24 17 = some (.iconst 0, 0, 0, 0, []) := by decide +kernel
theorem t_24_18 : tb_in 24 18 = some (.istore_n 2, 0, 0, 0, []) := by decide +kernel
theorem t_24_19 : tb_in 24 19 = some (.iload_n 2, 0, 0, 0, []) := by decide +kernel
theorem t_24_20 : tb_in 24 20 = some (.iload_n 1, 0, 0, 0, []) := by decide +kernel
theorem t_24_21 : tb_in 24 21 = some (.if_icmp .ge 24, 45, 0, 0, []) := by decide +kernel
theorem t_24_24 : tb_in 24 24 = some (.aload_n 0, 0, 0, 0, []) := by decide +kernel
theorem t_24_25 : tb_in 24 25 = some (.getfield 47, 6, 6, 0, []) := by decide +kernel
theorem t_24_28 : tb_in 24 28 = some (.aload_n 0, 0, 0, 0, []) := by decide +kernel
theorem t_24_29 : tb_in 24 29 = some (.getfield 47, 6, 6, 0, []) := by decide +kernel
theorem t_24_32 : tb_in 24 32 = some (.iconst 0, 0, 0, 0, []) := by decide +kernel
theorem t_24_33 : tb_in 24 33 = some (.invokevirtual 197, 85, 2, 0, []) := by decide +kernel
theorem t_24_36 : tb_in 24 36 = some (.invokevirtual 206, 83, 2, 0, []) := by decide +kernel
theorem t_24_39 : tb_in 24 39 = some (.iinc 2 1, 0, 0, 1, []) := by decide +kernel
theorem t_24_42 : tb_in 24 42 = some (.goto (-23), 19, 0, 0, []) := by decide +kernel
theorem t_24_45 : tb_in 24 45 = some (.iload_n 1, 0, 0, 0, []) := by decide +kernel
theorem t_24_46 : tb_in 24 46 = some (.ireturn, 0, 0, 0, []) := by decide +kernel
theorem t_25_0 : tb_in 25 0 = some (.aload_n 0, 0, 0, 0, []) := by decide +kernel
theorem t_25_1 : tb_in 25 1 = some (.iload_n 1, 0, 0, 0, []) := by decide +kernel
theorem t_25_2 : tb_in 25 2 = some (.invokevirtual 227, 26, 2, 0, []) := by decide +kernel
theorem t_25_5 : tb_in 25 5 = some (.istore_n 2, 0, 0, 0, []) := by decide +kernel
theorem t_25_6 : tb_in 25 6 = some (.iload_n 2, 0, 0, 0, []) := by decide +kernel
theorem t_25_7 : tb_in 25 7 = some (.iconst (-1), 0, 0, (-1), []) := by decide +kernel
theorem t_25_8 : tb_in 25 8 = some (.if_icmp .eq 12, 20, 0, 0, []) := by decide +kernel
theorem t_25_11 : tb_in 25 11 = some (.aload_n 0, 0, 0, 0, []) := by decide +kernel
theorem t_25_12 : tb_in 25 12 = some (.iload_n 2, 0, 0, 0, []) := by decide +kernel
theorem t_25_13 : tb_in 25 13 = some (.invokevirtual 230, 27, 2, 0, []) := by decide +kernel
theorem t_25_16 : tb_in 25 16 = some (.getstatic 139, 3, 0, 0, []) := by decide +kernel
theorem t_25_19 : tb_in 25 19 = some (.areturn, 0, 0, 0, []) := by decide +kernel
theorem t_25_20 : tb_in 25 20 = some (.aload_n 0, 0, 0, 0, []) := by decide +kernel
theorem t_25_21 : tb_in 25 21 = some (.iload_n 1, 0, 0, 0, []) := by decide +kernel
theorem t_25_22 : tb_in 25 22 = some (.invokevirtual 233, 28, 2, 0, []) := by decide +kernel
theorem t_25_25 : tb_in 25 25 = some (.ifCond .ne 11, 36, 0, 0, []) := by decide +kernel
theorem t_25_28 : tb_in 25 28 = some (.aload_n 0, 0, 0, 0, []) := by decide +kernel
theorem t_25_29 : tb_in 25 29 = some (.iload_n 1, 0, 0, 0, []) := by decide +kernel
theorem t_25_30 : tb_in 25 30 = some (.invokevirtual 236, 29, 2, 0, []) := by decide +kernel
theorem t_25_33 : tb_in 25 33 = some (.ifCond .eq 7, 40, 0, 0, []) := by decide +kernel
theorem t_25_36 : tb_in 25 36 = some (.getstatic 149, 1, 0, 0, []) := by decide +kernel
theorem t_25_39 : tb_in 25 39 = some (.areturn, 0, 0, 0, []) := by decide +kernel
theorem t_25_40 : tb_in 25 40 = some (.aload_n 0, 0, 0, 0, []) := by decide +kernel
theorem t_25_41 : tb_in 25 41 = some (.getfield 64, 6, 10, 0, []) := by decide +kernel
theorem t_25_44 : tb_in 25 44 = some (.bipush 20, 0, 0, 20, []) := by decide +kernel
theorem t_25_46 : tb_in 25 46 = some (.if_icmp .lt 7, 53, 0, 0, []) := by decide +kernel
theorem t_25_49 : tb_in 25 49 = some (.getstatic 239, 4, 0, 0, []) := by decide +kernel
theorem t_25_52 : tb_in 25 52 = some (.areturn, 0, 0, 0, []) := by decide +kernel
theorem t_25_53 : tb_in 25 53 = some (.aload_n 0, 0, 0, 0, []) := by decide +kernel
theorem t_25_54 : tb_in 25 54 = some (.getfield 55, 6, 8, 0, []) := by decide +kernel
theorem t_25_57 : tb_in 25 57 = some (.aload_n 0, 0, 0, 0, []) := by decide +kernel
theorem t_25_58 : tb_in 25 58 = some (.getfield 64, 6, 10, 0, []) := by decide +kernel
theorem t_25_61 : tb_in 25 61 = some (.iload_n 1, 0, 0, 0, []) := by decide +kernel
theorem t_25_62 : tb_in 25 62 = some (.iastore, 0, 0, 0, []) := by decide +kernel
theorem t_25_63 : tb_in 25 63 = some (.aload_n 0, 0, 0, 0, []) := by decide +kernel
theorem t_25_64 : tb_in 25 64 = some (.dup, 0, 0, 0, []) := by decide +kernel
theorem t_25_65 : tb_in 25 65 = some (.getfield 64, 6, 10, 0, []) := by decide +kernel
theorem t_25_68 : tb_in 25 68 = some (.iconst 1, 0, 0, 1, []) := by decide +kernel
theorem t_25_69 : tb_in 25 69 = some (.iadd, 0, 0, 0, []) := by decide +kernel
theorem t_25_70 : tb_in 25 70 = some (.putfield 64, 6, 10, 0, []) := by decide +kernel
theorem t_25_73 : tb_in 25 73 = some (.aload_n 0, 0, 0, 0, []) := by decide +kernel
theorem t_25_74 : tb_in 25 74 = some (.iload_n 1, 0, 0, 0, []) := by decide +kernel
theorem t_25_75 : tb_in 25 75 = some (.invokevirtual 242, 30, 2, 0, []) := by decide +kernel
theorem t_25_78 : tb_in 25 78 = some (.astore_n 3, 0, 0, 0, []) := by decide +kernel
theorem t_25_79 : tb_in 25 79 = some (.aload_n 3, 0, 0, 0, []) := by decide +kernel
theorem t_25_80 : tb_in 25 80 = some (.getstatic 245, 2, 0, 0, []) := by decide +kernel
theorem t_25_83 : tb_in 25 83 = some (.if_acmp .ne 20, 103, 0, 0, []) := by decide +kernel
theorem t_25_86 : tb_in 25 86 = some (.aload_n 0, 0, 0, 0, []) := by decide +kernel
theorem t_25_87 : tb_in 25 87 = some (.iload_n 1, 0, 0, 0, []) := by decide +kernel
theorem t_25_88 : tb_in 25 88 = some (.aload_n 0, 0, 0, 0, []) := by decide +kernel
theorem t_25_89 : tb_in 25 89 = some (.getfield 60, 6, 9, 0, []) := by decide +kernel
theorem t_25_92 : tb_in 25 92 = some (.aload_n 0, 0, 0, 0, []) := by decide +kernel
theorem t_25_93 : tb_in 25 93 = some (.getfield 64, 6, 10, 0, []) := by decide +kernel
theorem t_25_96 : tb_in 25 96 = some (.iconst 1, 0, 0, 1, []) := by decide +kernel
theorem t_25_97 : tb_in 25 97 = some (.isub, 0, 0, 0, []) := by decide +kernel
theorem t_25_98 : tb_in 25 98 = some (.aaload, 0, 0, 0, []) := by decide +kernel
theorem t_25_99 : tb_in 25 99 = some (.invokevirtual 248, 31, 3, 0, []) := by decide +kernel
theorem t_25_102 : tb_in 25 102 = some (.astore_n 3, 0, 0, 0, []) := by decide +kernel
theorem t_25_103 : tb_in 25 103 = some (.aload_n 3, 0, 0, 0, []) := by decide +kernel
theorem t_25_104 : tb_in 25 104 = some (.getstatic 149, 1, 0, 0, []) := by decide +kernel
theorem t_25_107 : tb_in 25 107 = some (.if_acmp .ne 21, 128, 0, 0, []) := by decide +kernel
theorem t_25_110 : tb_in 25 110 = some (.aload_n 0, 0, 0, 0, []) := by decide +kernel
theorem t_25_111 : tb_in 25 111 = some (.dup, 0, 0, 0, []) := by decide +kernel
theorem t_25_112 : tb_in 25 112 = some (.getfield 64, 6, 10, 0, []) := by decide +kernel
theorem t_25_115 : tb_in 25 115 = some (.iconst 1, 0, 0, 1, []) := by decide +kernel
theorem t_25_116 : tb_in 25 116 = some (.isub, 0, 0, 0, []) := by decide +kernel
theorem t_25_117 : tb_in 25 117 = some (.putfield 64, 6, 10, 0, []) := by decide +kernel
theorem t_25_120 : tb_in 25 120 = some (.aload_n 0, 0, 0, 0, []) := by decide +kernel
theorem t_25_121 : tb_in 25 121 = some (.getfield 47, 6, 6, 0, []) := by decide +kernel
theorem t_25_124 : tb_in 25 124 = some (.iload_n 1, 0, 0, 0, []) := by decide +kernel
theorem t_25_125 : tb_in 25 125 = some (.invokevirtual 159, 82, 2, 0, []) := by decide +kernel
theorem t_25_128 : tb_in 25 128 = some (.aload_n 3, 0, 0, 0, []) := by decide +kernel
theorem t_25_129 : tb_in 25 129 = some (.areturn, 0, 0, 0, []) := by decide +kernel
theorem t_26_0 : tb_in 26 0 = some (.iconst 0, 0, 0, 0, []) := by decide +kernel
theorem t_26_1 : tb_in 26 1 = some (.istore_n 2, 0, 0, 0, []) := by decide +kernel
theorem t_26_2 : tb_in 26 2 = some (.iload_n 2, 0, 0, 0, []) := by decide +kernel
theorem t_26_3 : tb_in 26 3 = some (.aload_n 0, 0, 0, 0, []) := by decide +kernel
theorem t_26_4 : tb_in 26 4 = some (.getfield 64, 6, 10, 0, []) := by decide +kernel
theorem t_26_7 : tb_in 26 7 = some (.if_icmp .ge 21, 28, 0, 0, []) := by decide +kernel
theorem t_26_10 : tb_in 26 10 = some (.aload_n 0, 0, 0, 0, []) := by decide +kernel
theorem t_26_11 : tb_in 26 11 = some (.getfield 55, 6, 8, 0, []) := by decide +kernel
theorem t_26_14 : tb_in 26 14 = some (.iload_n 2, 0, 0, 0, []) := by decide +kernel
theorem t_26_15 : tb_in 26 15 = some (.iaload, 0, 0, 0, []) := by decide +kernel
theorem t_26_16 : tb_in 26 16 = some (.iload_n 1, 0, 0, 0, []) := by decide +kernel
theorem t_26_17 : tb_in 26 17 = some (.if_icmp .ne 5, 22, 0, 0, []) := by decide +kernel
theorem t_26_20 : tb_in 26 20 = some (.iload_n 2, 0, 0, 0, []) := by decide +kernel
theorem t_26_21 : tb_in 26 21 = some (.ireturn, 0, 0, 0, []) := by decide +kernel
theorem t_26_22 : tb_in 26 22 = some (.iinc 2 1, 0, 0, 1, []) := by decide +kernel
theorem t_26_25 : tb_in 26 25 = some (.goto (-23), 2, 0, 0, []) := by decide +kernel
theorem t_26_28 : tb_in 26 28 = some (.iconst (-1), 0, 0, (-1), []) := by decide +kernel
theorem t_26_29 : tb_in 26 29 = some (.ireturn, 0, 0, 0, []) := by decide +kernel
theorem t_27_0 : tb_in 27 0 = some (.iload_n 1, 0, 0, 0, []) := by decide +kernel
theorem t_27_1 : tb_in 27 1 = some (.istore_n 2, 0, 0, 0, []) := by decide +kernel
theorem t_27_2 : tb_in 27 2 = some (.iload_n 2, 0, 0, 0, []) := by decide +kernel
theorem t_27_3 : tb_in 27 3 = some (.aload_n 0, 0, 0, 0, []) := by decide +kernel
theorem t_27_4 : tb_in 27 4 = some (.getfield 64, 6, 10, 0, []) := by decide +kernel
theorem t_27_7 : tb_in 27 7 = some (.if_icmp .ge 98, 105, 0, 0, []) := by decide +kernel
theorem t_27_10 : tb_in 27 10 = some (.aload_n 0, 0, 0, 0, []) := by decide +kernel
theorem t_27_11 : tb_in 27 11 = some (.getfield 55, 6, 8, 0, []) := by decide +kernel
theorem t_27_14 : tb_in 27 14 = some (.iload_n 2, 0, 0, 0, []) := by decide +kernel
theorem t_27_15 : tb_in 27 15 = some (.iaload, 0, 0, 0, []) := by decide +kernel
theorem t_27_16 : tb_in 27 16 = some (.istore_n 3, 0, 0, 0, []) := by decide +kernel
theorem t_27_17 : tb_in 27 17 = some (.aload_n 0, 0, 0, 0, []) := by decide +kernel
theorem t_27_18 : tb_in 27 18 = some (.getfield 40, 6, 5, 0, []) := by decide +kernel
theorem t_27_21 : tb_in 27 21 = some (.iload_n 3, 0, 0, 0, []) := by decide +kernel
theorem t_27_22 : tb_in 27 22 = some (.aaload, 0, 0, 0, []) := by decide +kernel
theorem t_27_23 : tb_in 27 23 = some (.astore 4, 0, 0, 0, []) := by decide +kernel
theorem t_27_25 : tb_in 27 25 = some (.aload 4, 0, 0, 0, []) := by decide +kernel
theorem t_27_27 : tb_in 27 27 = some (.aload_n 0, 0, 0, 0, []) := by decide +kernel
theorem t_27_28 : tb_in 27 28 = some (.getfield 20, 6, 2, 0, []) := by decide +kernel
theorem t_27_31 : tb_in 27 31 = some (.iload_n 3, 0, 0, 0, []) := by decide +kernel
theorem t_27_32 : tb_in 27 32 = some (.bipush 16, 0, 0, 16, []) := by decide +kernel
theorem t_27_34 : tb_in 27 34 = some (.idiv, 0, 0, 0, []) := by decide +kernel
theorem t_27_35 : tb_in 27 35 = some (.iaload, 0, 0, 0, []) := by decide +kernel
theorem t_27_36 : tb_in 27 36 = some (.putfield 165, 0, 0, 0, []) := by decide +kernel
theorem t_27_39 : tb_in 27 39 = some (.aload 4, 0, 0, 0, []) := by decide +kernel
theorem t_27_41 : tb_in 27 41 = some (.iconst 0, 0, 0, 0, []) := by decide +kernel
theorem t_27_42 : tb_in 27 42 = some (.putfield 191, 0, 2, 0, []) := by decide +kernel
theorem t_27_45 : tb_in 27 45 = some (.aload 4, 0, 0, 0, []) := by decide +kernel
theorem t_27_47 : tb_in 27 47 = some (.aload_n 0, 0, 0, 0, []) := by decide +kernel
theorem t_27_48 : tb_in 27 48 = some (.getfield 34, 6, 4, 0, []) := by decide +kernel
theorem t_27_51 : tb_in 27 51 = some (.getfield 129, 1, 0, 0, []) := by decide +kernel
theorem t_27_54 : tb_in 27 54 = some (.putfield 179, 0, 3, 0, []) := by decide +kernel
theorem t_27_57 : tb_in 27 57 = some (.aload 4, 0, 0, 0, []) := by decide +kernel
theorem t_27_59 : tb_in 27 59 = some (.aload_n 0, 0, 0, 0, []) := by decide +kernel
theorem t_27_60 : tb_in 27 60 = some (.getfield 34, 6, 4, 0, []) := by decide +kernel
theorem t_27_63 : tb_in 27 63 = some (.getfield 129, 1, 0, 0, []) := by decide +kernel
theorem t_27_66 : tb_in 27 66 = some (.putfield 182, 0, 4, 0, []) := by decide +kernel
theorem t_27_69 : tb_in 27 69 = some (.aload 4, 0, 0, 0, []) := by decide +kernel
theorem t_27_71 : tb_in 27 71 = some (.iconst 0, 0, 0, 0, []) := by decide +kernel
theorem t_27_72 : tb_in 27 72 = some (.putfield 184, 0, 5, 0, []) := by decide +kernel
theorem t_27_75 : tb_in 27 75 = some (.aload 4, 0, 0, 0, []) := by decide +kernel
theorem t_27_77 : tb_in 27 77 = some (.iconst 1, 0, 0, 1, []) := by decide +kernel
theorem t_27_78 : tb_in 27 78 = some (.putfield 187, 0, 6, 0, []) := by decide +kernel
theorem t_27_81 : tb_in 27 81 = some (.aload_n 0, 0, 0, 0, []) := by decide +kernel
theorem t_27_82 : tb_in 27 82 = some (.getfield 47, 6, 6, 0, []) := by decide +kernel
theorem t_27_85 : tb_in 27 85 = some (.iload_n 3, 0, 0, 0, []) := by decide +kernel
theorem t_27_86 : tb_in 27 86 = some (.invokevirtual 159, 82, 2, 0, []) := by decide +kernel
theorem t_27_89 : tb_in 27 89 = some (.aload_n 0, 0, 0, 0, []) := by decide +kernel
theorem t_27_90 : tb_in 27 90 = some (.dup, 0, 0, 0, []) := by decide +kernel
theorem t_27_91 : tb_in 27 91 = some (.getfield 76, 6, 14, 0, []) := by decide +kernel
theorem t_27_94 : tb_in 27 94 = some (.iconst 1, 0, 0, 1, []) := by decide +kernel
theorem t_27_95 : tb_in 27 95 = some (.iadd, 0, 0, 0, []) := by decide +kernel
theorem t_27_96 : tb_in 27 96 = some (.putfield 76, 6, 14, 0, []) := by decide +kernel
theorem t_27_99 : tb_in 27 99 = some (.iinc 2 1, 0, 0, 1, []) := by decide +kernel
theorem t_27_102 : tb_in 27 102 = some (.goto (-100), 2, 0, 0, []) := by decide +kernel
theorem t_27_105 : tb_in 27 105 = some (.return_, 0, 0, 0, []) := by decide +kernel
theorem t_28_0 : tb_in 28 0 = some (.aload_n 0, 0, 0, 0, []) := by decide +kernel
theorem t_28_1 : tb_in 28 1 = some (.getfield 47, 6, 6, 0, []) := by decide +kernel
theorem t_28_4 : tb_in 28 4 = some (.iload_n 1, 0, 0, 0, []) := by decide +kernel
theorem t_28_5 : tb_in 28 5 = some (.invokevirtual 171, 81, 2, 0, []) := by decide +kernel
theorem t_28_8 : tb_in 28 8 = some (.ifCond .eq 26, 34, 0, 0, []) := by decide +kernel
theorem t_28_11 : tb_in 28 11 = some (.aload_n 0, 0, 0, 0, []) := by decide +kernel
theorem t_28_12 : tb_in 28 12 = some (.getfield 40, 6, 5, 0, []) := by decide +kernel
theorem t_28_15 : tb_in 28 15 = some (.iload_n 1, 0, 0, 0, []) := by decide +kernel
theorem t_28_16 : tb_in 28 16 = some (.aaload, 0, 0, 0, []) := by decide +kernel
theorem t_28_17 : tb_in 28 17 = some (.getfield 179, 0, 3, 0, []) := by decide +kernel
theorem t_28_20 : tb_in 28 20 = some (.aload_n 0, 0, 0, 0, []) := by decide +kernel
theorem t_28_21 : tb_in 28 21 = some (.getfield 34, 6, 4, 0, []) := by decide +kernel
theorem t_28_24 : tb_in 28 24 = some (.getfield 129, 1, 0, 0, []) := by decide +kernel
theorem t_28_27 : tb_in 28 27 = some (.if_icmp .ne 7, 34, 0, 0, []) := by decide +kernel
theorem t_28_30 : tb_in 28 30 = some (.iconst 1, 0, 0, 1, []) := by decide +kernel
theorem t_28_31 : tb_in 28 31 = some (.goto 4, 35, 0, 0, []) := by decide +kernel
theorem t_28_34 : tb_in 28 34 = some (.iconst 0, 0, 0, 0, []) := by decide +kernel
theorem t_28_35 : tb_in 28 35 = some (.ireturn, 0, 0, 0, []) := by decide +kernel
theorem t_29_0 : tb_in 29 0 = some (.aload_n 0, 0, 0, 0, []) := by decide +kernel
theorem t_29_1 : tb_in 29 1 = some (.getfield 40, 6, 5, 0, []) := by decide +kernel
theorem t_29_4 : tb_in 29 4 = some (.iload_n 1, 0, 0, 0, []) := by decide +kernel
theorem t_29_5 : tb_in 29 5 = some (.aaload, 0, 0, 0, []) := by decide +kernel
theorem t_29_6 : tb_in 29 6 = some (.astore_n 2, 0, 0, 0, []) := by decide +kernel
theorem t_29_7 : tb_in 29 7 = some (.aload_n 0, 0, 0, 0, []) := by decide +kernel
theorem t_29_8 : tb_in 29 8 = some (.getfield 47, 6, 6, 0, []) := by decide +kernel
theorem t_29_11 : tb_in 29 11 = some (.iload_n 1, 0, 0, 0, []) := by decide +kernel
theorem t_29_12 : tb_in 29 12 = some (.invokevirtual 171, 81, 2, 0, []) := by decide +kernel
theorem t_29_15 : tb_in 29 15 = some (.ifCond .eq 21, 36, 0, 0, []) := by decide +kernel
theorem t_29_18 : tb_in 29 18 = some (.aload_n 0, 0, 0, 0, []) := by decide +kernel
theorem t_29_19 : tb_in 29 19 = some (.getfield 34, 6, 4, 0, []) := by decide +kernel
theorem t_29_22 : tb_in 29 22 = some (.aload_n 2, 0, 0, 0, []) := by decide +kernel
theorem t_29_23 : tb_in 29 23 = some (.getfield 184, 0, 5, 0, []) := by decide +kernel
theorem t_29_26 : tb_in 29 26 = some (.aload_n 2, 0, 0, 0, []) := by decide +kernel
theorem t_29_27 : tb_in 29 27 = some (.getfield 179, 0, 3, 0, []) := by decide +kernel
theorem t_29_30 : tb_in 29 30 = some (.invokevirtual 252, 78, 3, 0, []) := by decide +kernel
theorem t_29_33 : tb_in 29 33 = some (.ifCond .eq 5, 38, 0, 0, []) := by decide +kernel
theorem t_29_36 : tb_in 29 36 = some (.iconst 0, 0, 0, 0, []) := by decide +kernel
theorem t_29_37 : tb_in 29 37 = some (.ireturn, 0, 0, 0, []) := by decide +kernel
theorem t_29_38 : tb_in 29 38 = some (.aload_n 2, 0, 0, 0, []) := by decide +kernel
theorem t_29_39 : tb_in 29 39 = some (.aload_n 0, 0, 0, 0, []) := by decide +kernel
theorem t_29_40 : tb_in 29 40 = some (.getfield 34, 6, 4, 0, []) := by decide +kernel
theorem t_29_43 : tb_in 29 43 = some (.getfield 129, 1, 0, 0, []) := by decide +kernel
theorem t_29_46 : tb_in 29 46 = some (.putfield 179, 0, 3, 0, []) := by decide +kernel
theorem t_29_49 : tb_in 29 49 = some (.aload_n 0, 0, 0, 0, []) := by decide +kernel
theorem t_29_50 : tb_in 29 50 = some (.dup, 0, 0, 0, []) := by decide +kernel
theorem t_29_51 : tb_in 29 51 = some (.getfield 73, 6, 13, 0, []) := by decide +kernel
theorem t_29_54 : tb_in 29 54 = some (.iconst 1, 0, 0, 1, []) := by decide +kernel
theorem t_29_55 : tb_in 29 55 = some (.iadd, 0, 0, 0, []) := by decide +kernel
theorem t_29_56 : tb_in 29 56 = some (.putfield 73, 6, 13, 0, []) := by decide +kernel
theorem t_29_59 : tb_in 29 59 = some (.aload_n 0, 0, 0, 0, []) := by decide +kernel
theorem t_29_60 : tb_in 29 60 = some (.getfield 47, 6, 6, 0, []) := by decide +kernel
theorem t_29_63 : tb_in 29 63 = some (.iload_n 1, 0, 0, 0, []) := by decide +kernel
theorem t_29_64 : tb_in 29 64 = some (.invokevirtual 159, 82, 2, 0, []) := by decide +kernel
theorem t_29_67 : tb_in 29 67 = some (.iconst 1, 0, 0, 1, []) := by decide +kernel
theorem t_29_68 : tb_in 29 68 = some (.ireturn, 0, 0, 0, []) := by decide +kernel
theorem t_30_0 : tb_in 30 0 = some (.aload_n 0, 0, 0, 0, []) := by decide +kernel
theorem t_30_1 : tb_in 30 1 = some (.getfield 47, 6, 6, 0, []) := by decide +kernel
theorem t_30_4 : tb_in 30 4 = some (.iload_n 1, 0, 0, 0, []) := by decide +kernel
theorem t_30_5 : tb_in 30 5 = some (.invokevirtual 171, 81, 2, 0, []) := by decide +kernel
theorem t_30_8 : tb_in 30 8 = some (.ifCond .ne 7, 15, 0, 0, []) := by decide +kernel
theorem t_30_11 : tb_in 30 11 = some (.getstatic 245, 2, 0, 0, []) := by decide +kernel
theorem t_30_14 : tb_in 30 14 = some (.areturn, 0, 0, 0, []) := by decide +kernel
theorem t_30_15 : tb_in 30 15 = some (.aload_n 0, 0, 0, 0, []) := by decide +kernel
theorem t_30_16 : tb_in 30 16 = some (.getfield 40, 6, 5, 0, []) := by decide +kernel
theorem t_30_19 : tb_in 30 19 = some (.iload_n 1, 0, 0, 0, []) := by decide +kernel
theorem t_30_20 : tb_in 30 20 = some (.aaload, 0, 0, 0, []) := by decide +kernel
theorem t_30_21 : tb_in 30 21 = some (.astore_n 2, 0, 0, 0, []) := by decide +kernel
theorem t_30_22 : tb_in 30 22 = some (.iconst 0, 0, 0, 0, []) := by decide +kernel
theorem t_30_23 : tb_in 30 23 = some (.istore_n 3, 0, 0, 0, []) := by decide +kernel
theorem t_30_24 : tb_in 30 24 = some (.iload_n 3, 0, 0, 0, []) := by decide +kernel
theorem t_30_25 : tb_in 30 25 = some (.aload_n 2, 0, 0, 0, []) := by decide +kernel
theorem t_30_26 : tb_in 30 26 = some (.getfield 191, 0, 2, 0, []) := by decide +kernel
theorem t_30_29 : tb_in 30 29 = some (.if_icmp .ge 53, 82, 0, 0, []) := by decide +kernel
theorem t_30_32 : tb_in 30 32 = some (.aload_n 2, 0, 0, 0, []) := by decide +kernel
theorem t_30_33 : tb_in 30 33 = some (.getfield 194, 0, 1, 0, []) := by decide +kernel
theorem t_30_36 : tb_in 30 36 = some (.iload_n 3, 0, 0, 0, []) := by decide +kernel
theorem t_30_37 : tb_in 30 37 = some (.iaload, 0, 0, 0, []) := by decide +kernel
theorem t_30_38 : tb_in 30 38 = some (.istore 4, 0, 0, 0, []) := by decide +kernel
theorem t_30_40 : tb_in 30 40 = some (.aload_n 0, 0, 0, 0, []) := by decide +kernel
theorem t_30_41 : tb_in 30 41 = some (.iload 4, 0, 0, 0, []) := by decide +kernel
theorem t_30_43 : tb_in 30 43 = some (.invokevirtual 256, 33, 2, 0, []) := by decide +kernel
theorem t_30_46 : tb_in 30 46 = some (.astore 5, 0, 0, 0, []) := by decide +kernel
theorem t_30_48 : tb_in 30 48 = some (.aload 5, 0, 0, 0, []) := by decide +kernel
theorem t_30_50 : tb_in 30 50 = some (.getstatic 149, 1, 0, 0, []) := by decide +kernel
theorem t_30_53 : tb_in 30 53 = some (.if_acmp .eq 6, 59, 0, 0, []) := by decide +kernel
theorem t_30_56 : tb_in 30 56 = some (.aload 5, 0, 0, 0, []) := by decide +kernel
theorem t_30_58 : tb_in 30 58 = some (.areturn, 0, 0, 0, []) := by decide +kernel
theorem t_30_59 : tb_in 30 59 = some (.aload_n 0, 0, 0, 0, []) := by decide +kernel
theorem t_30_60 : tb_in 30 60 = some (.iload 4, 0, 0, 0, []) := by decide +kernel
theorem t_30_62 : tb_in 30 62 = some (.invokevirtual 259, 36, 2, 0, []) := by decide +kernel
theorem t_30_65 : tb_in 30 65 = some (.aload_n 2, 0, 0, 0, []) := by decide +kernel
theorem t_30_66 : tb_in 30 66 = some (.getfield 179, 0, 3, 0, []) := by decide +kernel
theorem t_30_69 : tb_in 30 69 = some (.if_icmp .le 7, 76, 0, 0, []) := by decide +kernel
theorem t_30_72 : tb_in 30 72 = some (.getstatic 245, 2, 0, 0, []) := by decide +kernel
theorem t_30_75 : tb_in 30 75 = some (.areturn, 0, 0, 0, []) := by decide +kernel
theorem t_30_76 : tb_in 30 76 = some (.iinc 3 1, 0, 0, 1, []) := by decide +kernel
theorem t_30_79 : tb_in 30 79 = some (.goto (-55), 24, 0, 0, []) := by decide +kernel
theorem t_30_82 : tb_in 30 82 = some (.aload_n 2, 0, 0, 0, []) := by decide +kernel
theorem t_30_83 : tb_in 30 83 = some (.aload_n 0, 0, 0, 0, []) := by decide +kernel
theorem t_30_84 : tb_in 30 84 = some (.getfield 34, 6, 4, 0, []) := by decide +kernel
theorem t_30_87 : tb_in 30 87 = some (.getfield 129, 1, 0, 0, []) := by decide +kernel
theorem t_30_90 : tb_in 30 90 = some (.putfield 179, 0, 3, 0, []) := by decide +kernel
theorem t_30_93 : tb_in 30 93 = some (.aload_n 2, 0, 0, 0, []) := by decide +kernel
theorem t_30_94 : tb_in 30 94 = some (.aload_n 0, 0, 0, 0, []) := by decide +kernel
theorem t_30_95 : tb_in 30 95 = some (.aload_n 2, 0, 0, 0, []) := by decide +kernel
theorem t_30_96 : tb_in 30 96 = some (.invokevirtual 262, 38, 2, 0, []) := by decide +kernel
theorem t_30_99 : tb_in 30 99 = some (.putfield 184, 0, 5, 0, []) := by decide +kernel
theorem t_30_102 : tb_in 30 102 = some (.aload_n 0, 0, 0, 0, []) := by decide +kernel
theorem t_30_103 : tb_in 30 103 = some (.dup, 0, 0, 0, []) := by decide +kernel
theorem t_30_104 : tb_in 30 104 = some (.getfield 70, 6, 12, 0, []) := by decide +kernel
theorem t_30_107 : tb_in 30 107 = some (.iconst 1, 0, 0, 1, []) := by decide +kernel
theorem t_30_108 : tb_in 30 108 = some (.iadd, 0, 0, 0, []) := by decide +kernel
theorem t_30_109 : tb_in 30 109 = some (.putfield 70, 6, 12, 0, []) := by decide +kernel
theorem t_30_112 : tb_in 30 112 = some (.getstatic 149, 1, 0, 0, []) := by decide +kernel
theorem t_30_115 : tb_in 30 115 = some (.areturn, 0, 0, 0, []) := by decide +kernel
theorem t_31_0 : tb_in 31 0 = some (.aload_n 2, 0, 0, 0, []) := by decide +kernel
theorem t_31_1 : tb_in 31 1 = some (.aload_n 0, 0, 0, 0, []) := by decide +kernel
theorem t_31_2 : tb_in 31 2 = some (.getfield 16, 6, 1, 0, []) := by decide +kernel
theorem t_31_5 : tb_in 31 5 = some (.iload_n 1, 0, 0, 0, []) := by decide +kernel
theorem t_31_6 : tb_in 31 6 = some (.bipush 16, 0, 0, 16, []) := by decide +kernel
theorem t_31_8 : tb_in 31 8 = some (.idiv, 0, 0, 0, []) := by decide +kernel
theorem t_31_9 : tb_in 31 9 = some (.aaload, 0, 0, 0, []) := by decide +kernel
theorem t_31_10 : tb_in 31 10 = some (.iload_n 1, 0, 0, 0, []) := by decide +kernel
theorem t_31_11 : tb_in 31 11 = some (.bipush 16, 0, 0, 16, []) := by decide +kernel
theorem t_31_13 : tb_in 31 13 = some (.irem, 0, 0, 0, []) := by decide +kernel
theorem t_31_14 : tb_in 31 14 = some (.invokevirtual 266, 94, 3, 0, []) := by decide +kernel
theorem t_31_17 : tb_in 31 17 = some (.aload_n 2, 0, 0, 0, []) := by decide +kernel
theorem t_31_18 : tb_in 31 18 = some (.invokevirtual 270, 95, 1, 0, []) := by decide +kernel
theorem t_31_21 : tb_in 31 21 = some (.iconst 0, 0, 0, 0, []) := by decide +kernel
theorem t_31_22 : tb_in 31 22 = some (.istore_n 3, 0, 0, 0, []) := by decide +kernel
theorem t_31_23 : tb_in 31 23 = some (.iload_n 3, 0, 0, 0, []) := by decide +kernel
theorem t_31_24 : tb_in 31 24 = some (.bipush 24, 0, 0, 24, []) := by decide +kernel
theorem t_31_26 : tb_in 31 26 = some (.if_icmp .ge 54, 80, 0, 0, []) := by decide +kernel
theorem t_31_29 : tb_in 31 29 = some (.aload_n 2, 0, 0, 0, []) := by decide +kernel
theorem t_31_30 : tb_in 31 30 = some (.getfield 273, 5, 0, 0, []) := by decide +kernel
theorem t_31_33 : tb_in 31 33 = some (.iconst (-1), 0, 0, (-1), []) := by decide +kernel
theorem t_31_34 : tb_in 31 34 = some (.if_icmp .eq 46, 80, 0, 0, []) := by decide +kernel
theorem t_31_37 : tb_in 31 37 = some (.aload_n 0, 0, 0, 0, []) := by decide +kernel
theorem t_31_38 : tb_in 31 38 = some (.aload_n 2, 0, 0, 0, []) := by decide +kernel
theorem t_31_39 : tb_in 31 39 = some (.getfield 273, 5, 0, 0, []) := by decide +kernel
theorem t_31_42 : tb_in 31 42 = some (.invokevirtual 256, 33, 2, 0, []) := by decide +kernel
theorem t_31_45 : tb_in 31 45 = some (.astore 4, 0, 0, 0, []) := by decide +kernel
theorem t_31_47 : tb_in 31 47 = some (.aload 4, 0, 0, 0, []) := by decide +kernel
theorem t_31_49 : tb_in 31 49 = some (.getstatic 149, 1, 0, 0, []) := by decide +kernel
theorem t_31_52 : tb_in 31 52 = some (.if_acmp .eq 6, 58, 0, 0, []) := by decide +kernel
theorem t_31_55 : tb_in 31 55 = some (.aload 4, 0, 0, 0, []) := by decide +kernel
theorem t_31_57 : tb_in 31 57 = some (.areturn, 0, 0, 0, []) := by decide +kernel
theorem t_31_58 : tb_in 31 58 = some (.aload_n 2, 0, 0, 0, []) := by decide +kernel
theorem t_31_59 : tb_in 31 59 = some (.aload_n 0, 0, 0, 0, []) := by decide +kernel
theorem t_31_60 : tb_in 31 60 = some (.aload_n 2, 0, 0, 0, []) := by decide +kernel
theorem t_31_61 : tb_in 31 61 = some (.getfield 273, 5, 0, 0, []) := by decide +kernel
theorem t_31_64 : tb_in 31 64 = some (.invokevirtual 276, 35, 2, 0, []) := by decide +kernel
theorem t_31_67 : tb_in 31 67 = some (.invokevirtual 279, 96, 2, 0, []) := by decide +kernel
theorem t_31_70 : tb_in 31 70 = some (.aload_n 2, 0, 0, 0, []) := by decide +kernel
theorem t_31_71 : tb_in 31 71 = some (.invokevirtual 270, 95, 1, 0, []) := by decide +kernel
theorem t_31_74 : tb_in 31 74 = some (.iinc 3 1, 0, 0, 1, []) := by decide +kernel
theorem t_31_77 : tb_in 31 77 = some (.goto (-54), 23, 0, 0, []) := by decide +kernel
theorem t_31_80 : tb_in 31 80 = some (.aload_n 0, 0, 0, 0, []) := by decide +kernel
theorem t_31_81 : tb_in 31 81 = some (.iload_n 1, 0, 0, 0, []) := by decide +kernel
theorem t_31_82 : tb_in 31 82 = some (.aload_n 2, 0, 0, 0, []) := by decide +kernel
theorem t_31_83 : tb_in 31 83 = some (.invokevirtual 282, 32, 3, 0, []) := by decide +kernel
theorem t_31_86 : tb_in 31 86 = some (.aload_n 0, 0, 0, 0, []) := by decide +kernel
theorem t_31_87 : tb_in 31 87 = some (.dup, 0, 0, 0, []) := by decide +kernel
theorem t_31_88 : tb_in 31 88 = some (.getfield 67, 6, 11, 0, []) := by decide +kernel
theorem t_31_91 : tb_in 31 91 = some (.iconst 1, 0, 0, 1, []) := by decide +kernel
theorem t_31_92 : tb_in 31 92 = some (.iadd, 0, 0, 0, []) := by decide +kernel
theorem t_31_93 : tb_in 31 93 = some (.putfield 67, 6, 11, 0, []) := by decide +kernel
theorem t_31_96 : tb_in 31 96 = some (.getstatic 149, 1, 0, 0, []) := by decide +kernel
theorem t_31_99 : tb_in 31 99 = some (.areturn, 0, 0, 0, []) := by decide +kernel
theorem t_32_0 : tb_in 32 0 = some (.aload_n 0, 0, 0, 0, []) := by decide +kernel
theorem t_32_1 : tb_in 32 1 = some (.getfield 40, 6, 5, 0, []) := by decide +kernel
theorem t_32_4 : tb_in 32 4 = some (.iload_n 1, 0, 0, 0, []) := by decide +kernel
theorem t_32_5 : tb_in 32 5 = some (.aaload, 0, 0, 0, []) := by decide +kernel
theorem t_32_6 : tb_in 32 6 = some (.astore_n 3, 0, 0, 0, []) := by decide +kernel
theorem t_32_7 : tb_in 32 7 = some (.aload_n 0, 0, 0, 0, []) := by decide +kernel
theorem t_32_8 : tb_in 32 8 = some (.getfield 47, 6, 6, 0, []) := by decide +kernel
theorem t_32_11 : tb_in 32 11 = some (.iload_n 1, 0, 0, 0, []) := by decide +kernel
theorem t_32_12 : tb_in 32 12 = some (.invokevirtual 171, 81, 2, 0, []) := by decide +kernel
theorem t_32_15 : tb_in 32 15 = some (.ifCond .eq 14, 29, 0, 0, []) := by decide +kernel
theorem t_32_18 : tb_in 32 18 = some (.aload_n 3, 0, 0, 0, []) := by decide +kernel
theorem t_32_19 : tb_in 32 19 = some (.getfield 165, 0, 0, 0, []) := by decide +kernel
theorem t_32_22 : tb_in 32 22 = some (.aload_n 2, 0, 0, 0, []) := by decide +kernel
theorem t_32_23 : tb_in 32 23 = some (.getfield 286, 5, 1, 0, []) := by decide +kernel
theorem t_32_26 : tb_in 32 26 = some (.if_icmp .eq 14, 40, 0, 0, []) := by decide +kernel
theorem t_32_29 : tb_in 32 29 = some (.aload_n 3, 0, 0, 0, []) := by decide +kernel
theorem t_32_30 : tb_in 32 30 = some (.aload_n 0, 0, 0, 0, []) := by decide +kernel
theorem t_32_31 : tb_in 32 31 = some (.getfield 34, 6, 4, 0, []) := by decide +kernel
theorem t_32_34 : tb_in 32 34 = some (.getfield 129, 1, 0, 0, []) := by decide +kernel
theorem t_32_37 : tb_in 32 37 = some (.putfield 182, 0, 4, 0, []) := by decide +kernel
theorem t_32_40 : tb_in 32 40 = some (.aload_n 3, 0, 0, 0, []) := by decide +kernel
theorem t_32_41 : tb_in 32 41 = some (.aload_n 2, 0, 0, 0, []) := by decide +kernel
theorem t_32_42 : tb_in 32 42 = some (.getfield 286, 5, 1, 0, []) := by decide +kernel
theorem t_32_45 : tb_in 32 45 = some (.putfield 165, 0, 0, 0, []) := by decide +kernel
theorem t_32_48 : tb_in 32 48 = some (.aload_n 3, 0, 0, 0, []) := by decide +kernel
theorem t_32_49 : tb_in 32 49 = some (.aload_n 2, 0, 0, 0, []) := by decide +kernel
theorem t_32_50 : tb_in 32 50 = some (.getfield 287, 5, 3, 0, []) := by decide +kernel
theorem t_32_53 : tb_in 32 53 = some (.putfield 191, 0, 2, 0, []) := by decide +kernel
theorem t_32_56 : tb_in 32 56 = some (.aload_n 2, 0, 0, 0, []) := by decide +kernel
theorem t_32_57 : tb_in 32 57 = some (.getfield 288, 5, 2, 0, []) := by decide +kernel
theorem t_32_60 : tb_in 32 60 = some (.iconst 0, 0, 0, 0, []) := by decide +kernel
theorem t_32_61 : tb_in 32 61 = some (.aload_n 3, 0, 0, 0, []) := by decide +kernel
theorem t_32_62 : tb_in 32 62 = some (.getfield 194, 0, 1, 0, []) := by decide +kernel
theorem t_32_65 : tb_in 32 65 = some (.iconst 0, 0, 0, 0, []) := by decide +kernel
theorem t_32_66 : tb_in 32 66 = some (.aload_n 2, 0, 0, 0, []) := by decide +kernel
theorem t_32_67 : tb_in 32 67 = some (.getfield 287, 5, 3, 0, []) := by decide +kernel
theorem t_32_70 : tb_in 32 70 = some (.invokestatic 289, 1003, 0, 0, []) := by decide +kernel
theorem t_32_73 : tb_in 32 73 = some (.aload_n 3, 0, 0, 0, []) := by decide +kernel
theorem t_32_74 : tb_in 32 74 = some (.aload_n 0, 0, 0, 0, []) := by decide +kernel
theorem t_32_75 : tb_in 32 75 = some (.getfield 34, 6, 4, 0, []) := by decide +kernel
theorem t_32_78 : tb_in 32 78 = some (.getfield 129, 1, 0, 0, []) := by decide +kernel
theorem t_32_81 : tb_in 32 81 = some (.putfield 179, 0, 3, 0, []) := by decide +kernel
theorem t_32_84 : tb_in 32 84 = some (.aload_n 3, 0, 0, 0, []) := by decide +kernel
theorem t_32_85 : tb_in 32 85 = some (.aload_n 0, 0, 0, 0, []) := by decide +kernel
theorem t_32_86 : tb_in 32 86 = some (.aload_n 3, 0, 0, 0, []) := by decide +kernel
theorem t_32_87 : tb_in 32 87 = some (.invokevirtual 262, 38, 2, 0, []) := by decide +kernel
theorem t_32_90 : tb_in 32 90 = some (.putfield 184, 0, 5, 0, []) := by decide +kernel
theorem t_32_93 : tb_in 32 93 = some (.aload_n 3, 0, 0, 0, []) := by decide +kernel
theorem t_32_94 : tb_in 32 94 = some (.iconst 0, 0, 0, 0, []) := by decide +kernel
theorem t_32_95 : tb_in 32 95 = some (.putfield 187, 0, 6, 0, []) := by decide +kernel
theorem t_32_98 : tb_in 32 98 = some (.return_, 0, 0, 0, []) := by decide +kernel
theorem t_33_0 : tb_in 33 0 = some (.iload_n 1, 0, 0, 0, []) := by decide +kernel
theorem t_33_1 : tb_in 33 1 = some (.invokestatic 295, 34, 1, 0, []) := by decide +kernel
theorem t_33_4 : tb_in 33 4 = some (.ifCond .eq 14, 18, 0, 0, []) := by decide +kernel
theorem t_33_7 : tb_in 33 7 = some (.aload_n 0, 0, 0, 0, []) := by decide +kernel
theorem t_33_8 : tb_in 33 8 = some (.iload_n 1, 0, 0, 0, []) := by decide +kernel
theorem t_33_9 : tb_in 33 9 = some (.bipush 100, 0, 0, 100, []) := by decide +kernel
theorem t_33_11 : tb_in 33 11 = some (.isub, 0, 0, 0, []) := by decide +kernel
theorem t_33_12 : tb_in 33 12 = some (.invokevirtual 145, 25, 2, 0, []) := by decide +kernel
theorem t_33_15 : tb_in 33 15 = some (.goto 6, 21, 0, 0, []) := by decide +kernel
theorem t_33_18 : tb_in 33 18 = some (.getstatic 149, 1, 0, 0, []) := by decide +kernel
theorem t_33_21 : tb_in 33 21 = some (.areturn, 0, 0, 0, []) := by decide +kernel
theorem t_34_0 : tb_in 34 0 = some (.iload_n 0, 0, 0, 0, []) := by decide +kernel
theorem t_34_1 : tb_in 34 1 = some (.bipush 100, 0, 0, 100, []) := by decide +kernel
theorem t_34_3 : tb_in 34 3 = some (.if_icmp .lt 7, 10, 0, 0, []) := by decide +kernel
theorem t_34_6 : tb_in 34 6 = some (.iconst 1, 0, 0, 1, []) := by decide +kernel
theorem t_34_7 : tb_in 34 7 = some (.goto 4, 11, 0, 0, []) := by decide +kernel
theorem t_34_10 : tb_in 34 10 = some (.iconst 0, 0, 0, 0, []) := by decide +kernel
theorem t_34_11 : tb_in 34 11 = some (.ireturn, 0, 0, 0, []) := by decide +kernel
theorem t_35_0 : tb_in 35 0 = some (.iload_n 1, 0, 0, 0, []) := by decide +kernel
theorem t_35_1 : tb_in 35 1 = some (.invokestatic 295, 34, 1, 0, []) := by decide +kernel
theorem t_35_4 : tb_in 35 4 = some (.ifCond .eq 18, 22, 0, 0, []) := by decide +kernel
theorem t_35_7 : tb_in 35 7 = some (.aload_n 0, 0, 0, 0, []) := by decide +kernel
theorem t_35_8 : tb_in 35 8 = some (.getfield 40, 6, 5, 0, []) := by decide +kernel
theorem t_35_11 : tb_in 35 11 = some (.iload_n 1, 0, 0, 0, []) := by decide +kernel
theorem t_35_12 : tb_in 35 12 = some (.bipush 100, 0, 0, 100, []) := by decide +kernel
theorem t_35_14 : tb_in 35 14 = some (.isub, 0, 0, 0, []) := by decide +kernel
theorem t_35_15 : tb_in 35 15 = some (.aaload, 0, 0, 0, []) := by decide +kernel
theorem t_35_16 : tb_in 35 16 = some (.getfield 165, 0, 0, 0, []) := by decide +kernel
theorem t_35_19 : tb_in 35 19 = some (.goto 12, 31, 0, 0, []) := by decide +kernel
theorem t_35_22 : tb_in 35 22 = some (.aload_n 0, 0, 0, 0, []) := by decide +kernel
theorem t_35_23 : tb_in 35 23 = some (.getfield 27, 6, 3, 0, []) := by decide +kernel
theorem t_35_26 : tb_in 35 26 = some (.getfield 117, 2, 0, 0, []) := by decide +kernel
theorem t_35_29 : tb_in 35 29 = some (.iload_n 1, 0, 0, 0, []) := by decide +kernel
theorem t_35_30 : tb_in 35 30 = some (.iaload, 0, 0, 0, []) := by decide +kernel
theorem t_35_31 : tb_in 35 31 = some (.ireturn, 0, 0, 0, []) := by decide +kernel
theorem t_36_0 : tb_in 36 0 = some (.iload_n 1, 0, 0, 0, []) := by decide +kernel
theorem t_36_1 : tb_in 36 1 = some (.invokestatic 295, 34, 1, 0, []) := by decide +kernel
theorem t_36_4 : tb_in 36 4 = some (.ifCond .eq 18, 22, 0, 0, []) := by decide +kernel
theorem t_36_7 : tb_in 36 7 = some (.aload_n 0, 0, 0, 0, []) := by decide +kernel
theorem t_36_8 : tb_in 36 8 = some (.getfield 40, 6, 5, 0, []) := by decide +kernel
theorem t_36_11 : tb_in 36 11 = some (.iload_n 1, 0, 0, 0, []) := by decide +kernel
theorem t_36_12 : tb_in 36 12 = some (.bipush 100, 0, 0, 100, []) := by decide +kernel
theorem t_36_14 : tb_in 36 14 = some (.isub, 0, 0, 0, []) := by decide +kernel
theorem t_36_15 : tb_in 36 15 = some (.aaload, 0, 0, 0, []) := by decide +kernel
theorem t_36_16 : tb_in 36 16 = some (.getfield 182, 0, 4, 0, []) := by decide +kernel
theorem t_36_19 : tb_in 36 19 = some (.goto 12, 31, 0, 0, []) := by decide +kernel
theorem t_36_22 : tb_in 36 22 = some (.aload_n 0, 0, 0, 0, []) := by decide +kernel
theorem t_36_23 : tb_in 36 23 = some (.getfield 27, 6, 3, 0, []) := by decide +kernel
theorem t_36_26 : tb_in 36 26 = some (.getfield 126, 2, 1, 0, []) := by decide +kernel
theorem t_36_29 : tb_in 36 29 = some (.iload_n 1, 0, 0, 0, []) := by decide +kernel
theorem t_36_30 : tb_in 36 30 = some (.iaload, 0, 0, 0, []) := by decide +kernel
theorem t_36_31 : tb_in 36 31 = some (.ireturn, 0, 0, 0, []) := by decide +kernel
theorem t_37_0 : tb_in 37 0 = some (.iload_n 1, 0, 0, 0, []) := by decide +kernel
theorem t_37_1 : tb_in 37 1 = some (.invokestatic 295, 34, 1, 0, []) := by decide +kernel
theorem t_37_4 : tb_in 37 4 = some (.ifCond .eq 18, 22, 0, 0, []) := by decide +kernel
theorem t_37_7 : tb_in 37 7 = some (.aload_n 0, 0, 0, 0, []) := by decide +kernel
theorem t_37_8 : tb_in 37 8 = some (.getfield 40, 6, 5, 0, []) := by decide +kernel
theorem t_37_11 : tb_in 37 11 = some (.iload_n 1, 0, 0, 0, []) := by decide +kernel
theorem t_37_12 : tb_in 37 12 = some (.bipush 100, 0, 0, 100, []) := by decide +kernel
theorem t_37_14 : tb_in 37 14 = some (.isub, 0, 0, 0, []) := by decide +kernel
theorem t_37_15 : tb_in 37 15 = some (.aaload, 0, 0, 0, []) := by decide +kernel
theorem t_37_16 : tb_in 37 16 = some (.getfield 184, 0, 5, 0, []) := by decide +kernel
theorem t_37_19 : tb_in 37 19 = some (.goto 15, 34, 0, 0, []) := by decide +kernel
theorem t_37_22 : tb_in 37 22 = some (.aload_n 0, 0, 0, 0, []) := by decide +kernel
theorem t_37_23 : tb_in 37 23 = some (.getfield 27, 6, 3, 0, []) := by decide +kernel
theorem t_37_26 : tb_in 37 26 = some (.getfield 120, 2, 2, 0, []) := by decide +kernel
theorem t_37_29 : tb_in 37 29 = some (.iload_n 1, 0, 0, 0, []) := by decide +kernel
theorem t_37_30 : tb_in 37 30 = some (.bipush 16, 0, 0, 16, []) := by decide +kernel
theorem t_37_32 : tb_in 37 32 = some (.idiv, 0, 0, 0, []) := by decide +kernel
theorem t_37_33 : tb_in 37 33 = some (.iaload, 0, 0, 0, []) := by decide +kernel
theorem t_37_34 : tb_in 37 34 = some (.ireturn, 0, 0, 0, []) := by decide +kernel
theorem t_38_0 : tb_in 38 0 = some (.iconst 2, 0, 0, 2, []) := by decide +kernel
theorem t_38_1 : tb_in 38 1 = some (.istore_n 2, 0, 0, 0, []) := by decide +kernel
theorem t_38_2 : tb_in 38 2 = some (.iconst 0, 0, 0, 0, []) := by decide +kernel
theorem t_38_3 : tb_in 38 3 = some (.istore_n 3, 0, 0, 0, []) := by decide +kernel
theorem t_38_4 : tb_in 38 4 = some (.iload_n 3, 0, 0, 0, []) := by decide +kernel
theorem t_38_5 : tb_in 38 5 = some (.aload_n 1, 0, 0, 0, []) := by decide +kernel
theorem t_38_6 : tb_in 38 6 = some (.getfield 191, 0, 2, 0, []) := by decide +kernel
theorem t_38_9 : tb_in 38 9 = some (.if_icmp .ge 24, 33, 0, 0, []) := by decide +kernel
theorem t_38_12 : tb_in 38 12 = some (.iload_n 2, 0, 0, 0, []) := by decide +kernel
theorem t_38_13 : tb_in 38 13 = some (.aload_n 0, 0, 0, 0, []) := by decide +kernel
theorem t_38_14 : tb_in 38 14 = some (.aload_n 1, 0, 0, 0, []) := by decide +kernel
theorem t_38_15 : tb_in 38 15 = some (.getfield 194, 0, 1, 0, []) := by decide +kernel
theorem t_38_18 : tb_in 38 18 = some (.iload_n 3, 0, 0, 0, []) := by decide +kernel
theorem t_38_19 : tb_in 38 19 = some (.iaload, 0, 0, 0, []) := by decide +kernel
theorem t_38_20 : tb_in 38 20 = some (.invokevirtual 298, 37, 2, 0, []) := by decide +kernel
theorem t_38_23 : tb_in 38 23 = some (.invokestatic 301, 1002, 0, 0, []) := by decide +kernel
theorem t_38_26 : tb_in 38 26 = some (.istore_n 2, 0, 0, 0, []) := by decide +kernel
theorem t_38_27 : tb_in 38 27 = some (.iinc 3 1, 0, 0, 1, []) := by decide +kernel
theorem t_38_30 : tb_in 38 30 = some (.goto (-26), 4, 0, 0, []) := by decide +kernel
theorem t_38_33 : tb_in 38 33 = some (.iload_n 2, 0, 0, 0, []) := by decide +kernel
theorem t_38_34 : tb_in 38 34 = some (.ireturn, 0, 0, 0, []) := by decide +kernel
theorem t_39_0 : tb_in 39 0 = some (.aload_n 0, 0, 0, 0, []) := by decide +kernel
theorem t_39_1 : tb_in 39 1 = some (.invokespecial 1, 1000, 0, 0, []) := by decide +kernel
theorem t_39_4 : tb_in 39 4 = some (.aload_n 0, 0, 0, 0, []) := by decide +kernel
theorem t_39_5 : tb_in 39 5 = some (.bipush 24, 0, 0, 24, []) := by decide +kernel
theorem t_39_7 : tb_in 39 7 = some (.newarray .int, 0, 0, 0, []) := by decide +kernel
theorem t_39_9 : tb_in 39 9 = some (.putfield 7, 7, 1, 0, []) := by decide +kernel
theorem t_39_12 : tb_in 39 12 = some (.aload_n 0, 0, 0, 0, []) := by decide +kernel
theorem t_39_13 : tb_in 39 13 = some (.sipush 144, 0, 0, 144, []) := by decide +kernel
theorem t_39_16 : tb_in 39 16 = some (.newarray .int, 0, 0, 0, []) := by decide +kernel
theorem t_39_18 : tb_in 39 18 = some (.putfield 13, 7, 3, 0, []) := by decide +kernel
theorem t_39_21 : tb_in 39 21 = some (.aload_n 0, 0, 0, 0, []) := by decide +kernel
theorem t_39_22 : tb_in 39 22 = some (.bipush 6, 0, 0, 6, []) := by decide +kernel
theorem t_39_24 : tb_in 39 24 = some (.newarray .int, 0, 0, 0, []) := by decide +kernel
theorem t_39_26 : tb_in 39 26 = some (.dup, 0, 0, 0, []) := by decide +kernel
theorem t_39_27 : tb_in 39 27 = some (.iconst 0, 0, 0, 0, []) := by decide +kernel
theorem t_39_28 : tb_in 39 28 = some (.iconst 1, 0, 0, 1, []) := by decide +kernel
theorem t_39_29 : tb_in 39 29 = some (.iastore, 0, 0, 0, []) := by decide +kernel
theorem t_39_30 : tb_in 39 30 = some (.dup, 0, 0, 0, []) := by decide +kernel
theorem t_39_31 : tb_in 39 31 = some (.iconst 1, 0, 0, 1, []) := by decide +kernel
theorem t_39_32 : tb_in 39 32 = some (.iconst 1, 0, 0, 1, []) := by decide +kernel
theorem t_39_33 : tb_in 39 33 = some (.iastore, 0, 0, 0, []) := by decide +kernel
theorem t_39_34 : tb_in 39 34 = some (.dup, 0, 0, 0, []) := by decide +kernel
theorem t_39_35 : tb_in 39 35 = some (.iconst 2, 0, 0, 2, []) := by decide +kernel
theorem t_39_36 : tb_in 39 36 = some (.iconst 1, 0, 0, 1, []) := by decide +kernel
theorem t_39_37 : tb_in 39 37 = some (.iastore, 0, 0, 0, []) := by decide +kernel
theorem t_39_38 : tb_in 39 38 = some (.dup, 0, 0, 0, []) := by decide +kernel
theorem t_39_39 : tb_in 39 39 = some (.iconst 3, 0, 0, 3, []) := by decide +kernel
theorem t_39_40 : tb_in 39 40 = some (.iconst 1, 0, 0, 1, []) := by decide +kernel
theorem t_39_41 : tb_in 39 41 = some (.iastore, 0, 0, 0, []) := by decide +kernel
theorem t_39_42 : tb_in 39 42 = some (.dup, 0, 0, 0, []) := by decide +kernel
theorem t_39_43 : tb_in 39 43 = some (.iconst 4, 0, 0, 4, []) := by decide +kernel
theorem t_39_44 : tb_in 39 44 = some (.iconst 1, 0, 0, 1, []) := by decide +kernel
theorem t_39_45 : tb_in 39 45 = some (.iastore, 0, 0, 0, []) := by decide +kernel
theorem t_39_46 : tb_in 39 46 = some (.dup, 0, 0, 0, []) := by decide +kernel
theorem t_39_47 : tb_in 39 47 = some (.iconst 5, 0, 0, 5, []) := by decide +kernel
theorem t_39_48 : tb_in 39 48 = some (.iconst 1, 0, 0, 1, []) := by decide +kernel
theorem t_39_49 : tb_in 39 49 = some (.iastore, 0, 0, 0, []) := by decide +kernel
theorem t_39_50 : tb_in 39 50 = some (.putfield 16, 7, 4, 0, []) := by decide +kernel
theorem t_39_53 : tb_in 39 53 = some (.aload_n 0, 0, 0, 0, []) := by decide +kernel
theorem t_39_54 : tb_in 39 54 = some (.bipush 48, 0, 0, 48, []) := by decide +kernel
theorem t_39_56 : tb_in 39 56 = some (.newarray .int, 0, 0, 0, []) := by decide +kernel
theorem t_39_58 : tb_in 39 58 = some (.putfield 19, 7, 6, 0, []) := by decide +kernel
theorem t_39_61 : tb_in 39 61 = some (.aload_n 0, 0, 0, 0, []) := by decide +kernel
theorem t_39_62 : tb_in 39 62 = some (.bipush 48, 0, 0, 48, []) := by decide +kernel
theorem t_39_64 : tb_in 39 64 = some (.newarray .int, 0, 0, 0, []) := by decide +kernel
theorem t_39_66 : tb_in 39 66 = some (.putfield 22, 7, 7, 0, []) := by decide +kernel
theorem t_39_69 : tb_in 39 69 = some (.aload_n 0, 0, 0, 0, []) := by decide +kernel
theorem t_39_70 : tb_in 39 70 = some (.iconst 3, 0, 0, 3, []) := by decide +kernel
theorem t_39_71 : tb_in 39 71 = some (.newarray .int, 0, 0, 0, []) := by decide +kernel
theorem t_39_73 : tb_in 39 73 = some (.putfield 25, 7, 8, 0, []) := by decide +kernel
theorem t_39_76 : tb_in 39 76 = some (.aload_n 0, 0, 0, 0, []) := by decide +kernel
theorem t_39_77 : tb_in 39 77 = some (.bipush 6, 0, 0, 6, []) := by decide +kernel
theorem t_39_79 : tb_in 39 79 = some (.newarray .int, 0, 0, 0, []) := by decide +kernel
theorem t_39_81 : tb_in 39 81 = some (.putfield 28, 7, 9, 0, []) := by decide +kernel
theorem t_39_84 : tb_in 39 84 = some (.aload_n 0, 0, 0, 0, []) := by decide +kernel
theorem t_39_85 : tb_in 39 85 = some (.iconst 3, 0, 0, 3, []) := by decide +kernel
theorem t_39_86 : tb_in 39 86 = some (.newarray .int, 0, 0, 0, []) := by decide +kernel
theorem t_39_88 : tb_in 39 88 = some (.putfield 31, 7, 10, 0, []) := by decide +kernel
theorem t_39_91 : tb_in 39 91 = some (.aload_n 0, 0, 0, 0, []) := by decide +kernel
theorem t_39_92 : tb_in 39 92 = some (.bipush 96, 0, 0, 96, []) := by decide +kernel
theorem t_39_94 : tb_in 39 94 = some (.newarray .boolean, 0, 0, 0, []) := by decide +kernel
theorem t_39_96 : tb_in 39 96 = some (.putfield 34, 7, 11, 0, []) := by decide +kernel
theorem t_39_99 : tb_in 39 99 = some (.aload_n 0, 0, 0, 0, []) := by decide +kernel
theorem t_39_100 : tb_in 39 100 = some (.bipush 96, 0, 0, 96, []) := by decide +kernel
theorem t_39_102 : tb_in 39 102 = some (.newarray .int, 0, 0, 0, []) := by decide +kernel
theorem t_39_104 : tb_in 39 104 = some (.putfield 38, 7, 12, 0, []) := by decide +kernel
theorem t_39_107 : tb_in 39 107 = some (.aload_n 0, 0, 0, 0, []) := by decide +kernel
theorem t_39_108 : tb_in 39 108 = some (.bipush 96, 0, 0, 96, []) := by decide +kernel
theorem t_39_110 : tb_in 39 110 = some (.newarray .int, 0, 0, 0, []) := by decide +kernel
theorem t_39_112 : tb_in 39 112 = some (.putfield 41, 7, 13, 0, []) := by decide +kernel
theorem t_39_115 : tb_in 39 115 = some (.aload_n 0, 0, 0, 0, []) := by decide +kernel
theorem t_39_116 : tb_in 39 116 = some (.bipush 96, 0, 0, 96, []) := by decide +kernel
theorem t_39_118 : tb_in 39 118 = some (.newarray .int, 0, 0, 0, []) := by decide +kernel
theorem t_39_120 : tb_in 39 120 = some (.putfield 44, 7, 14, 0, []) := by decide +kernel
theorem t_39_123 : tb_in 39 123 = some (.aload_n 0, 0, 0, 0, []) := by decide +kernel
theorem t_39_124 : tb_in 39 124 = some (.bipush 96, 0, 0, 96, []) := by decide +kernel
theorem t_39_126 : tb_in 39 126 = some (.newarray .int, 0, 0, 0, []) := by decide +kernel
theorem t_39_128 : tb_in 39 128 = some (.putfield 47, 7, 15, 0, []) := by decide +kernel
theorem t_39_131 : tb_in 39 131 = some (.aload_n 0, 0, 0, 0, []) := by decide +kernel
theorem t_39_132 : tb_in 39 132 = some (.bipush 96, 0, 0, 96, []) := by decide +kernel
theorem t_39_134 : tb_in 39 134 = some (.newarray .boolean, 0, 0, 0, []) := by decide +kernel
theorem t_39_136 : tb_in 39 136 = some (.putfield 50, 7, 16, 0, []) := by decide +kernel
theorem t_39_139 : tb_in 39 139 = some (.aload_n 0, 0, 0, 0, []) := by decide +kernel
theorem t_39_140 : tb_in 39 140 = some (.sipush 2304, 0, 0, 2304, []) := by decide +kernel
theorem t_39_143 : tb_in 39 143 = some (.newarray .int, 0, 0, 0, []) := by decide +kernel
theorem t_39_145 : tb_in 39 145 = some (.putfield 53, 7, 17, 0, []) := by decide +kernel
theorem t_39_148 : tb_in 39 148 = some (.aload_n 0, 0, 0, 0, []) := by decide +kernel
theorem t_39_149 : tb_in 39 149 = some (.bipush 96, 0, 0, 96, []) := by decide +kernel
theorem t_39_151 : tb_in 39 151 = some (.newarray .int, 0, 0, 0, []) := by decide +kernel
theorem t_39_153 : tb_in 39 153 = some (.putfield 56, 7, 18, 0, []) := by decide +kernel
theorem t_39_156 : tb_in 39 156 = some (.aload_n 0, 0, 0, 0, []) := by decide +kernel
theorem t_39_157 : tb_in 39 157 = some (.bipush 96, 0, 0, 96, []) := by decide +kernel
theorem t_39_159 : tb_in 39 159 = some (.newarray .int, 0, 0, 0, []) := by decide +kernel
theorem t_39_161 : tb_in 39 161 = some (.putfield 59, 7, 19, 0, []) := by decide +kernel
theorem t_39_164 : tb_in 39 164 = some (.aload_n 0, 0, 0, 0, []) := by decide +kernel
theorem t_39_165 : tb_in 39 165 = some (.bipush 96, 0, 0, 96, []) := by decide +kernel
theorem t_39_167 : tb_in 39 167 = some (.putfield 62, 7, 21, 0, []) := by decide +kernel
theorem t_39_170 : tb_in 39 170 = some (.aload_n 0, 0, 0, 0, []) := by decide +kernel
theorem t_39_171 : tb_in 39 171 = some (.bipush 20, 0, 0, 20, []) := by decide +kernel
theorem t_39_173 : tb_in 39 173 = some (.newarray .int, 0, 0, 0, []) := by decide +kernel
theorem t_39_175 : tb_in 39 175 = some (.putfield 66, 7, 27, 0, []) := by decide +kernel
theorem t_39_178 : tb_in 39 178 = some (.aload_n 0, 0, 0, 0, []) := by decide +kernel
theorem t_39_179 : tb_in 39 179 = some (.bipush 20, 0, 0, 20, []) := by decide +kernel
theorem t_39_181 : tb_in 39 181 = some (.newarray .boolean, 0, 0, 0, []) := by decide +kernel
theorem t_39_183 : tb_in 39 183 = some (.putfield 69, 7, 28, 0, []) := by decide +kernel
theorem t_39_186 : tb_in 39 186 = some (.aload_n 0, 0, 0, 0, []) := by decide +kernel
theorem t_39_187 : tb_in 39 187 = some (.bipush 24, 0, 0, 24, []) := by decide +kernel
theorem t_39_189 : tb_in 39 189 = some (.newarray .int, 0, 0, 0, []) := by decide +kernel
theorem t_39_191 : tb_in 39 191 = some (.putfield 72, 7, 31, 0, []) := by decide +kernel
theorem t_39_194 : tb_in 39 194 = some (.aload_n 0, 0, 0, 0, []) := by decide +kernel
theorem t_39_195 : tb_in 39 195 = some (.bipush 24, 0, 0, 24, []) := by decide +kernel
theorem t_39_197 : tb_in 39 197 = some (.newarray .int, 0, 0, 0, []) := by decide +kernel
theorem t_39_199 : tb_in 39 199 = some (.putfield 75, 7, 32, 0, []) := by decide +kernel
theorem t_39_202 : tb_in 39 202 = some (.aload_n 0, 0, 0, 0, []) := by decide +kernel
theorem t_39_203 : tb_in 39 203 = some (.bipush 24, 0, 0, 24, []) := by decide +kernel
theorem t_39_205 : tb_in 39 205 = some (.newarray .int, 0, 0, 0, []) := by decide +kernel
theorem t_39_207 : tb_in 39 207 = some (.putfield 78, 7, 33, 0, []) := by decide +kernel
theorem t_39_210 : tb_in 39 210 = some (.aload_n 0, 0, 0, 0, []) := by decide +kernel
theorem t_39_211 : tb_in 39 211 = some (.bipush 24, 0, 0, 24, []) := by decide +kernel
theorem t_39_213 : tb_in 39 213 = some (.newarray .int, 0, 0, 0, []) := by decide +kernel
theorem t_39_215 : tb_in 39 215 = some (.putfield 81, 7, 35, 0, []) := by decide +kernel
theorem t_39_218 : tb_in 39 218 = some (.iconst 0, 0, 0, 0, []) := by decide +kernel
theorem t_39_219 : tb_in 39 219 = some (.istore_n 1, 0, 0, 0, []) := by decide +kernel
theorem t_39_220 : tb_in 39 220 = some (.iload_n 1, 0, 0, 0, []) := by decide +kernel
theorem t_39_221 : tb_in 39 221 = some (.bipush 6, 0, 0, 6, []) := by decide +kernel
theorem t_39_223 : tb_in 39 223 = some (.if_icmp .ge 20, 243, 0, 0, []) := by decide +kernel
theorem t_39_226 : tb_in 39 226 = some (.aload_n 0, 0, 0, 0, []) := by decide +kernel
theorem t_39_227 : tb_in 39 227 = some (.getfield 13, 7, 3, 0, []) := by decide +kernel
theorem t_39_230 : tb_in 39 230 = some (.bipush 24, 0, 0, 24, []) := by decide +kernel
theorem t_39_232 : tb_in 39 232 = some (.iload_n 1, 0, 0, 0, []) := by decide +kernel
theorem t_39_233 : tb_in 39 233 = some (.imul, 0, 0, 0, []) := by decide +kernel
theorem t_39_234 : tb_in 39 234 = some (.bipush 48, 0, 0, 48, []) := by decide +kernel
theorem t_39_236 : tb_in 39 236 = some (.iastore, 0, 0, 0, []) := by decide +kernel
theorem t_39_237 : tb_in 39 237 = some (.iinc 1 1, 0, 0, 1, []) := by decide +kernel
theorem t_39_240 : tb_in 39 240 = some (.goto (-20), 220, 0, 0, []) := by decide +kernel
theorem t_39_243 : tb_in 39 243 = some (.return_, 0, 0, 0, []) := by decide +kernel
theorem t_40_0 : tb_in 40 0 = some (.aload_n 0, 0, 0, 0, []) := by decide +kernel
theorem t_40_1 : tb_in 40 1 = some (.getfield 84, 7, 0, 0, []) := by decide +kernel
theorem t_40_4 : tb_in 40 4 = some (.ireturn, 0, 0, 0, []) := by decide +kernel
theorem t_41_0 : tb_in 41 0 = some (.aload_n 0, 0, 0, 0, []) := by decide +kernel
theorem t_41_1 : tb_in 41 1 = some (.iconst 0, 0, 0, 0, []) := by decide +kernel
theorem t_41_2 : tb_in 41 2 = some (.putfield 84, 7, 0, 0, []) := by decide +kernel
theorem t_41_5 : tb_in 41 5 = some (.iconst 0, 0, 0, 0, []) := by decide +kernel
theorem t_41_6 : tb_in 41 6 = some (.istore_n 3, 0, 0, 0, []) := by decide +kernel
theorem t_41_7 : tb_in 41 7 = some (.iconst 0, 0, 0, 0, []) := by decide +kernel
theorem t_41_8 : tb_in 41 8 = some (.istore 4, 0, 0, 0, []) := by decide +kernel
theorem t_41_10 : tb_in 41 10 = some (.iload 4, 0, 0, 0, []) := by decide +kernel
theorem t_41_12 : tb_in 41 12 = some (.bipush 64, 0, 0, 64, []) := by decide +kernel
theorem t_41_14 : tb_in 41 14 = some (.if_icmp .ge 30, 44, 0, 0, []) := by decide +kernel
theorem t_41_17 : tb_in 41 17 = some (.lload_n 1, 0, 0, 0, []) := by decide +kernel
theorem t_41_18 : tb_in 41 18 = some (.iload 4, 0, 0, 0, []) := by decide +kernel
theorem t_41_20 : tb_in 41 20 = some (.lshr, 0, 0, 0, []) := by decide +kernel
theorem t_41_21 : tb_in 41 21 = some (.ldc2_w 87, 255, 0, 0, []) := by decide +kernel
theorem t_41_24 : tb_in 41 24 = some (.land, 0, 0, 0, []) := by decide +kernel
theorem t_41_25 : tb_in 41 25 = some (.lconst 0, 0, 0, 0, []) := by decide +kernel
theorem t_41_26 : tb_in 41 26 = some (.lcmp, 0, 0, 0, []) := by decide +kernel
theorem t_41_27 : tb_in 41 27 = some (.ifCond .eq 9, 36, 0, 0, []) := by decide +kernel
theorem t_41_30 : tb_in 41 30 = some (.iload_n 3, 0, 0, 0, []) := by decide +kernel
theorem t_41_31 : tb_in 41 31 = some (.iconst 1, 0, 0, 1, []) := by decide +kernel
theorem t_41_32 : tb_in 41 32 = some (.iadd, 0, 0, 0, []) := by decide +kernel
theorem t_41_33 : tb_in 41 33 = some (.goto 4, 37, 0, 0, []) := by decide +kernel
theorem t_41_36 : tb_in 41 36 = some (.iload_n 3, 0, 0, 0, []) := by decide +kernel
theorem t_41_37 : tb_in 41 37 = some (.istore_n 3, 0, 0, 0, []) := by decide +kernel
theorem t_41_38 : tb_in 41 38 = some (.iinc 4 8, 0, 0, 8, []) := by decide +kernel
theorem t_41_41 : tb_in 41 41 = some (.goto (-31), 10, 0, 0, []) := by decide +kernel
theorem t_41_44 : tb_in 41 44 = some (.aload_n 0, 0, 0, 0, []) := by decide +kernel
theorem t_41_45 : tb_in 41 45 = some (.getfield 89, 7, 2, 0, []) := by decide +kernel
theorem t_41_48 : tb_in 41 48 = some (.iload_n 3, 0, 0, 0, []) := by decide +kernel
theorem t_41_49 : tb_in 41 49 = some (.iadd, 0, 0, 0, []) := by decide +kernel
theorem t_41_50 : tb_in 41 50 = some (.bipush 24, 0, 0, 24, []) := by decide +kernel
theorem t_41_52 : tb_in 41 52 = some (.if_icmp .le 5, 57, 0, 0, []) := by decide +kernel
theorem t_41_55 : tb_in 41 55 = some (.iconst (-1), 0, 0, (-1), []) := by decide +kernel
theorem t_41_56 : tb_in 41 56 = some (.ireturn, 0, 0, 0, []) := by decide +kernel
theorem t_41_57 : tb_in 41 57 = some (.iconst 0, 0, 0, 0, []) := by decide +kernel
theorem t_41_58 : tb_in 41 58 = some (.istore 4, 0, 0, 0, []) := by decide +kernel
theorem t_41_60 : tb_in 41 60 = some (.iload 4, 0, 0, 0, []) := by decide +kernel
theorem t_41_62 : tb_in 41 62 = some (.bipush 64, 0, 0, 64, []) := by decide +kernel
theorem t_41_64 : tb_in 41 64 = some (.if_icmp .ge 46, 110, 0, 0, []) := by decide +kernel
theorem t_41_67 : tb_in 41 67 = some (.lload_n 1, 0, 0, 0, []) := by decide +kernel
theorem t_41_68 : tb_in 41 68 = some (.iload 4, 0, 0, 0, []) := by decide +kernel
theorem t_41_70 : tb_in 41 70 = some (.lshr, 0, 0, 0, []) := by decide +kernel
theorem t_41_71 : tb_in 41 71 = some (.ldc2_w 87, 255, 0, 0, []) := by decide +kernel
theorem t_41_74 : tb_in 41 74 = some (.land, 0, 0, 0, []) := by decide +kernel
theorem t_41_75 : tb_in 41 75 = some (.l2i, 0, 0, 0, []) := by decide +kernel
theorem t_41_76 : tb_in 41 76 = some (.istore 5, 0, 0, 0, []) := by decide +kernel
theorem t_41_78 : tb_in 41 78 = some (.iload 5, 0, 0, 0, []) := by decide +kernel
theorem t_41_80 : tb_in 41 80 = some (.ifCond .eq 24, 104, 0, 0, []) := by decide +kernel
theorem t_41_83 : tb_in 41 83 = some (.aload_n 0, 0, 0, 0, []) := by decide +kernel
theorem t_41_84 : tb_in 41 84 = some (.getfield 7, 7, 1, 0, []) := by decide +kernel
theorem t_41_87 : tb_in 41 87 = some (.aload_n 0, 0, 0, 0, []) := by decide +kernel
theorem t_41_88 : tb_in 41 88 = some (.getfield 89, 7, 2, 0, []) := by decide +kernel
theorem t_41_91 : tb_in 41 91 = some (.iload 5, 0, 0, 0, []) := by decide +kernel
theorem t_41_93 : tb_in 41 93 = some (.iastore, 0, 0, 0, []) := by decide +kernel
theorem t_41_94 : tb_in 41 94 = some (.aload_n 0, 0, 0, 0, []) := by decide +kernel
theorem t_41_95 : tb_in 41 95 = some (.dup, 0, 0, 0, []) := by decide +kernel
theorem t_41_96 : tb_in 41 96 = some (.getfield 89, 7, 2, 0, []) := by decide +kernel
theorem t_41_99 : tb_in 41 99 = some (.iconst 1, 0, 0, 1, []) := by decide +kernel
theorem t_41_100 : tb_in 41 100 = some (.iadd, 0, 0, 0, []) := by decide +kernel
theorem t_41_101 : tb_in 41 101 = some (.putfield 89, 7, 2, 0, []) := by decide +kernel
theorem t_41_104 : tb_in 41 104 = some (.iinc 4 8, 0, 0, 8, []) := by decide +kernel
theorem t_41_107 : tb_in 41 107 = some (.goto (-47), 60, 0, 0, []) := by decide +kernel
theorem t_41_110 : tb_in 41 110 = some (.aload_n 0, 0, 0, 0, []) := by decide +kernel
theorem t_41_111 : tb_in 41 111 = some (.getfield 89, 7, 2, 0, []) := by decide +kernel
theorem t_41_114 : tb_in 41 114 = some (.ireturn, 0, 0, 0, []) := by decide +kernel
theorem t_42_0 : tb_in 42 0 = some (.aload_n 0, 0, 0, 0, []) := by decide +kernel
theorem t_42_1 : tb_in 42 1 = some (.iconst 0, 0, 0, 0, []) := by decide +kernel
theorem t_42_2 : tb_in 42 2 = some (.putfield 84, 7, 0, 0, []) := by decide +kernel
theorem t_42_5 : tb_in 42 5 = some (.aload_n 0, 0, 0, 0, []) := by decide +kernel
theorem t_42_6 : tb_in 42 6 = some (.getfield 89, 7, 2, 0, []) := by decide +kernel
theorem t_42_9 : tb_in 42 9 = some (.istore_n 1, 0, 0, 0, []) := by decide +kernel
theorem t_42_10 : tb_in 42 10 = some (.aload_n 0, 0, 0, 0, []) := by decide +kernel
theorem t_42_11 : tb_in 42 11 = some (.iconst 0, 0, 0, 0, []) := by decide +kernel
theorem t_42_12 : tb_in 42 12 = some (.putfield 89, 7, 2, 0, []) := by decide +kernel
theorem t_42_15 : tb_in 42 15 = some (.iload_n 1, 0, 0, 0, []) := by decide +kernel
theorem t_42_16 : tb_in 42 16 = some (.ireturn, 0, 0, 0, []) := by decide +kernel
theorem t_43_0 : tb_in 43 0 = some (.iload_n 0, 0, 0, 0, []) := by decide +kernel
theorem t_43_1 : tb_in 43 1 = some (.bipush 48, 0, 0, 48, []) := by decide +kernel
theorem t_43_3 : tb_in 43 3 = some (.if_icmp .lt 9, 12, 0, 0, []) := by decide +kernel
theorem t_43_6 : tb_in 43 6 = some (.iload_n 0, 0, 0, 0, []) := by decide +kernel
theorem t_43_7 : tb_in 43 7 = some (.bipush 57, 0, 0, 57, []) := by decide +kernel
theorem t_43_9 : tb_in 43 9 = some (.if_icmp .le 9, 18, 0, 0, []) := by decide +kernel
theorem t_43_12 : tb_in 43 12 = some (.iload_n 0, 0, 0, 0, []) := by decide +kernel
theorem t_43_13 : tb_in 43 13 = some (.bipush 107, 0, 0, 107, []) := by decide +kernel
theorem t_43_15 : tb_in 43 15 = some (.if_icmp .ne 5, 20, 0, 0, []) := by decide +kernel
theorem t_43_18 : tb_in 43 18 = some (.iconst 0, 0, 0, 0, []) := by decide +kernel
theorem t_43_19 : tb_in 43 19 = some (.ireturn, 0, 0, 0, []) := by decide +kernel
theorem t_43_20 : tb_in 43 20 = some (.iload_n 0, 0, 0, 0, []) := by decide +kernel
theorem t_43_21 : tb_in 43 21 = some (.bipush 43, 0, 0, 43, []) := by decide +kernel
theorem t_43_23 : tb_in 43 23 = some (.if_icmp .eq 15, 38, 0, 0, []) := by decide +kernel
theorem t_43_26 : tb_in 43 26 = some (.iload_n 0, 0, 0, 0, []) := by decide +kernel
theorem t_43_27 : tb_in 43 27 = some (.bipush 45, 0, 0, 45, []) := by decide +kernel
theorem t_43_29 : tb_in 43 29 = some (.if_icmp .eq 9, 38, 0, 0, []) := by decide +kernel
theorem t_43_32 : tb_in 43 32 = some (.iload_n 0, 0, 0, 0, []) := by decide +kernel
theorem t_43_33 : tb_in 43 33 = some (.bipush 42, 0, 0, 42, []) := by decide +kernel
theorem t_43_35 : tb_in 43 35 = some (.if_icmp .ne 5, 40, 0, 0, []) := by decide +kernel
theorem t_43_38 : tb_in 43 38 = some (.iconst 2, 0, 0, 2, []) := by decide +kernel
theorem t_43_39 : tb_in 43 39 = some (.ireturn, 0, 0, 0, []) := by decide +kernel
theorem t_43_40 : tb_in 43 40 = some (.iload_n 0, 0, 0, 0, []) := by decide +kernel
theorem t_43_41 : tb_in 43 41 = some (.bipush 63, 0, 0, 63, []) := by decide +kernel
theorem t_43_43 : tb_in 43 43 = some (.if_icmp .ne 7, 50, 0, 0, []) := by decide +kernel
theorem t_43_46 : tb_in 43 46 = some (.iconst 3, 0, 0, 3, []) := by decide +kernel
theorem t_43_47 : tb_in 43 47 = some (.goto 32, 79, 0, 0, []) := by decide +kernel
theorem t_43_50 : tb_in 43 50 = some (.iload_n 0, 0, 0, 0, []) := by decide +kernel
theorem t_43_51 : tb_in 43 51 = some (.bipush 103, 0, 0, 103, []) := by decide +kernel
theorem t_43_53 : tb_in 43 53 = some (.if_icmp .lt 9, 62, 0, 0, []) := by decide +kernel
theorem t_43_56 : tb_in 43 56 = some (.iload_n 0, 0, 0, 0, []) := by decide +kernel
theorem t_43_57 : tb_in 43 57 = some (.bipush 105, 0, 0, 105, []) := by decide +kernel
theorem t_43_59 : tb_in 43 59 = some (.if_icmp .le 15, 74, 0, 0, []) := by decide +kernel
theorem t_43_62 : tb_in 43 62 = some (.iload_n 0, 0, 0, 0, []) := by decide +kernel
theorem t_43_63 : tb_in 43 63 = some (.bipush 65, 0, 0, 65, []) := by decide +kernel
theorem t_43_65 : tb_in 43 65 = some (.if_icmp .lt 13, 78, 0, 0, []) := by decide +kernel
theorem t_43_68 : tb_in 43 68 = some (.iload_n 0, 0, 0, 0, []) := by decide +kernel
theorem t_43_69 : tb_in 43 69 = some (.bipush 70, 0, 0, 70, []) := by decide +kernel
theorem t_43_71 : tb_in 43 71 = some (.if_icmp .gt 7, 78, 0, 0, []) := by decide +kernel
theorem t_43_74 : tb_in 43 74 = some (.iconst 1, 0, 0, 1, []) := by decide +kernel
theorem t_43_75 : tb_in 43 75 = some (.goto 4, 79, 0, 0, []) := by decide +kernel
theorem t_43_78 : tb_in 43 78 = some (.iconst (-1), 0, 0, (-1), []) := by decide +kernel
theorem t_43_79 : tb_in 43 79 = some (.ireturn, 0, 0, 0, []) := by decide +kernel
theorem t_44_0 : tb_in 44 0 = some (.iconst 0, 0, 0, 0, []) := by decide +kernel
theorem t_44_1 : tb_in 44 1 = some (.istore_n 1, 0, 0, 0, []) := by decide +kernel
theorem t_44_2 : tb_in 44 2 = some (.iload_n 1, 0, 0, 0, []) := by decide +kernel
theorem t_44_3 : tb_in 44 3 = some (.bipush 96, 0, 0, 96, []) := by decide +kernel
theorem t_44_5 : tb_in 44 5 = some (.if_icmp .ge 16, 21, 0, 0, []) := by decide +kernel
theorem t_44_8 : tb_in 44 8 = some (.aload_n 0, 0, 0, 0, []) := by decide +kernel
theorem t_44_9 : tb_in 44 9 = some (.getfield 34, 7, 11, 0, []) := by decide +kernel
theorem t_44_12 : tb_in 44 12 = some (.iload_n 1, 0, 0, 0, []) := by decide +kernel
theorem t_44_13 : tb_in 44 13 = some (.iconst 0, 0, 0, 0, []) := by decide +kernel
theorem t_44_14 : tb_in 44 14 = some (.bastore, 0, 0, 0, []) := by decide +kernel
theorem t_44_15 : tb_in 44 15 = some (.iinc 1 1, 0, 0, 1, []) := by decide +kernel
theorem t_44_18 : tb_in 44 18 = some (.goto (-16), 2, 0, 0, []) := by decide +kernel
theorem t_44_21 : tb_in 44 21 = some (.return_, 0, 0, 0, []) := by decide +kernel
theorem t_45_0 : tb_in 45 0 = some (.aload_n 0, 0, 0, 0, []) := by decide +kernel
theorem t_45_1 : tb_in 45 1 = some (.iload_n 1, 0, 0, 0, []) := by decide +kernel
theorem t_45_2 : tb_in 45 2 = some (.ifCond .lt 8, 10, 0, 0, []) := by decide +kernel
theorem t_45_5 : tb_in 45 5 = some (.iload_n 1, 0, 0, 0, []) := by decide +kernel
theorem t_45_6 : tb_in 45 6 = some (.iconst 5, 0, 0, 5, []) := by decide +kernel
theorem t_45_7 : tb_in 45 7 = some (.if_icmp .le 7, 14, 0, 0, []) := by decide +kernel
theorem t_45_10 : tb_in 45 10 = some (.iconst 1, 0, 0, 1, []) := by decide +kernel
theorem t_45_11 : tb_in 45 11 = some (.goto 4, 15, 0, 0, []) := by decide +kernel
theorem t_45_14 : tb_in 45 14 = some (.iconst 0, 0, 0, 0, []) := by decide +kernel
theorem t_45_15 : tb_in 45 15 = some (.putfield 84, 7, 0, 0, []) := by decide +kernel
theorem t_45_18 : tb_in 45 18 = some (.aload_n 0, 0, 0, 0, []) := by decide +kernel
theorem t_45_19 : tb_in 45 19 = some (.getfield 84, 7, 0, 0, []) := by decide +kernel
theorem t_45_22 : tb_in 45 22 = some (.ifCond .le 5, 27, 0, 0, []) := by decide +kernel
theorem t_45_25 : tb_in 45 25 = some (.iconst 0, 0, 0, 0, []) := by decide +kernel
theorem t_45_26 : tb_in 45 26 = some (.ireturn, 0, 0, 0, []) := by decide +kernel
theorem t_45_27 : tb_in 45 27 = some (.iconst 1, 0, 0, 1, []) := by decide +kernel
theorem t_45_28 : tb_in 45 28 = some (.istore_n 2, 0, 0, 0, []) := by decide +kernel
theorem t_45_29 : tb_in 45 29 = some (.iconst 0, 0, 0, 0, []) := by decide +kernel
theorem t_45_30 : tb_in 45 30 = some (.istore_n 3, 0, 0, 0, []) := by decide +kernel
theorem t_45_31 : tb_in 45 31 = some (.iload_n 3, 0, 0, 0, []) := by decide +kernel
theorem t_45_32 : tb_in 45 32 = some (.aload_n 0, 0, 0, 0, []) := by decide +kernel
theorem t_45_33 : tb_in 45 33 = some (.getfield 89, 7, 2, 0, []) := by decide +kernel
theorem t_45_36 : tb_in 45 36 = some (.if_icmp .ge 41, 77, 0, 0, []) := by decide +kernel
theorem t_45_39 : tb_in 45 39 = some (.iload_n 2, 0, 0, 0, []) := by decide +kernel
theorem t_45_40 : tb_in 45 40 = some (.ifCond .eq 15, 55, 0, 0, []) := by decide +kernel
theorem t_45_43 : tb_in 45 43 = some (.aload_n 0, 0, 0, 0, []) := by decide +kernel
theorem t_45_44 : tb_in 45 44 = some (.getfield 7, 7, 1, 0, []) := by decide +kernel
theorem t_45_47 : tb_in 45 47 = some (.iload_n 3, 0, 0, 0, []) := by decide +kernel
theorem t_45_48 : tb_in 45 48 = some (.iaload, 0, 0, 0, []) := by decide +kernel
theorem t_45_49 : tb_in 45 49 = some (.invokestatic 92, 43, 1, 0, []) := by decide +kernel
theorem t_45_52 : tb_in 45 52 = some (.ifCond .ge 5, 57, 0, 0, []) := by decide +kernel
theorem t_45_55 : tb_in 45 55 = some (.iload_n 3, 0, 0, 0, []) := by decide +kernel
theorem t_45_56 : tb_in 45 56 = some (.ireturn, 0, 0, 0, []) := by decide +kernel
theorem t_45_57 : tb_in 45 57 = some (.iload_n 2, 0, 0, 0, []) := by decide +kernel
theorem t_45_58 : tb_in 45 58 = some (.aload_n 0, 0, 0, 0, []) := by decide +kernel
theorem t_45_59 : tb_in 45 59 = some (.getfield 7, 7, 1, 0, []) := by decide +kernel
theorem t_45_62 : tb_in 45 62 = some (.iload_n 3, 0, 0, 0, []) := by decide +kernel
theorem t_45_63 : tb_in 45 63 = some (.iaload, 0, 0, 0, []) := by decide +kernel
theorem t_45_64 : tb_in 45 64 = some (.invokestatic 92, 43, 1, 0, []) := by decide +kernel
theorem t_45_67 : tb_in 45 67 = some (.iadd, 0, 0, 0, []) := by decide +kernel
theorem t_45_68 : tb_in 45 68 = some (.iconst 1, 0, 0, 1, []) := by decide +kernel
theorem t_45_69 : tb_in 45 69 = some (.isub, 0, 0, 0, []) := by decide +kernel
theorem t_45_70 : tb_in 45 70 = some (.istore_n 2, 0, 0, 0, []) := by decide +kernel
theorem t_45_71 : tb_in 45 71 = some (.iinc 3 1, 0, 0, 1, []) := by decide +kernel
theorem t_45_74 : tb_in 45 74 = some (.goto (-43), 31, 0, 0, []) := by decide +kernel
theorem t_45_77 : tb_in 45 77 = some (.iload_n 2, 0, 0, 0, []) := by decide +kernel
theorem t_45_78 : tb_in 45 78 = some (.ifCond .le 8, 86, 0, 0, []) := by decide +kernel
theorem t_45_81 : tb_in 45 81 = some (.aload_n 0, 0, 0, 0, []) := by decide +kernel
theorem t_45_82 : tb_in 45 82 = some (.getfield 89, 7, 2, 0, []) := by decide +kernel
theorem t_45_85 : tb_in 45 85 = some (.ireturn, 0, 0, 0, []) := by decide +kernel
theorem t_45_86 : tb_in 45 86 = some (.iconst 0, 0, 0, 0, []) := by decide +kernel
theorem t_45_87 : tb_in 45 87 = some (.istore_n 3, 0, 0, 0, []) := by decide +kernel
theorem t_45_88 : tb_in 45 88 = some (.iload_n 3, 0, 0, 0, []) := by decide +kernel
theorem t_45_89 : tb_in 45 89 = some (.aload_n 0, 0, 0, 0, []) := by decide +kernel
theorem t_45_90 : tb_in 45 90 = some (.getfield 89, 7, 2, 0, []) := by decide +kernel
theorem t_45_93 : tb_in 45 93 = some (.if_icmp .ge 26, 119, 0, 0, []) := by decide +kernel
theorem t_45_96 : tb_in 45 96 = some (.aload_n 0, 0, 0, 0, []) := by decide +kernel
theorem t_45_97 : tb_in 45 97 = some (.getfield 13, 7, 3, 0, []) := by decide +kernel
theorem t_45_100 : tb_in 45 100 = some (.bipush 24, 0, 0, 24, []) := by decide +kernel
theorem t_45_102 : tb_in 45 102 = some (.iload_n 1, 0, 0, 0, []) := by decide +kernel
theorem t_45_103 : tb_in 45 103 = some (.imul, 0, 0, 0, []) := by decide +kernel
theorem t_45_104 : tb_in 45 104 = some (.iload_n 3, 0, 0, 0, []) := by decide +kernel
theorem t_45_105 : tb_in 45 105 = some (.iadd, 0, 0, 0, []) := by decide +kernel
theorem t_45_106 : tb_in 45 106 = some (.aload_n 0, 0, 0, 0, []) := by decide +kernel
theorem t_45_107 : tb_in 45 107 = some (.getfield 7, 7, 1, 0, []) := by decide +kernel
theorem t_45_110 : tb_in 45 110 = some (.iload_n 3, 0, 0, 0, []) := by decide +kernel
theorem t_45_111 : tb_in 45 111 = some (.iaload, 0, 0, 0, []) := by decide +kernel
theorem t_45_112 : tb_in 45 112 = some (.iastore, 0, 0, 0, []) := by decide +kernel
theorem t_45_113 : tb_in 45 113 = some (.iinc 3 1, 0, 0, 1, []) := by decide +kernel
theorem t_45_116 : tb_in 45 116 = some (.goto (-28), 88, 0, 0, []) := by decide +kernel
theorem t_45_119 : tb_in 45 119 = some (.aload_n 0, 0, 0, 0, []) := by decide +kernel
theorem t_45_120 : tb_in 45 120 = some (.getfield 16, 7, 4, 0, []) := by decide +kernel
theorem t_45_123 : tb_in 45 123 = some (.iload_n 1, 0, 0, 0, []) := by decide +kernel
theorem t_45_124 : tb_in 45 124 = some (.aload_n 0, 0, 0, 0, []) := by decide +kernel
theorem t_45_125 : tb_in 45 125 = some (.getfield 89, 7, 2, 0, []) := by decide +kernel
theorem t_45_128 : tb_in 45 128 = some (.iastore, 0, 0, 0, []) := by decide +kernel
theorem t_45_129 : tb_in 45 129 = some (.aload_n 0, 0, 0, 0, []) := by decide +kernel
theorem t_45_130 : tb_in 45 130 = some (.iconst 0, 0, 0, 0, []) := by decide +kernel
theorem t_45_131 : tb_in 45 131 = some (.putfield 89, 7, 2, 0, []) := by decide +kernel
theorem t_45_134 : tb_in 45 134 = some (.aload_n 0, 0, 0, 0, []) := by decide +kernel
theorem t_45_135 : tb_in 45 135 = some (.invokevirtual 96, 44, 1, 0, []) := by decide +kernel
theorem t_45_138 : tb_in 45 138 = some (.iconst (-1), 0, 0, (-1), []) := by decide +kernel
theorem t_45_139 : tb_in 45 139 = some (.ireturn, 0, 0, 0, []) := by decide +kernel
theorem t_46_0 : tb_in 46 0 = some (.aload_n 0, 0, 0, 0, []) := by decide +kernel
theorem t_46_1 : tb_in 46 1 = some (.dup, 0, 0, 0, []) := by decide +kernel
theorem t_46_2 : tb_in 46 2 = some (.getfield 99, 7, 5, 0, []) := by decide +kernel
theorem t_46_5 : tb_in 46 5 = some (.iconst 1, 0, 0, 1, []) := by decide +kernel
theorem t_46_6 : tb_in 46 6 = some (.iadd, 0, 0, 0, []) := by decide +kernel
theorem t_46_7 : tb_in 46 7 = some (.putfield 99, 7, 5, 0, []) := by decide +kernel
theorem t_46_10 : tb_in 46 10 = some (.aload_n 0, 0, 0, 0, []) := by decide +kernel
theorem t_46_11 : tb_in 46 11 = some (.getfield 31, 7, 10, 0, []) := by decide +kernel
theorem t_46_14 : tb_in 46 14 = some (.iload_n 1, 0, 0, 0, []) := by decide +kernel
theorem t_46_15 : tb_in 46 15 = some (.aload_n 0, 0, 0, 0, []) := by decide +kernel
theorem t_46_16 : tb_in 46 16 = some (.getfield 99, 7, 5, 0, []) := by decide +kernel
theorem t_46_19 : tb_in 46 19 = some (.iastore, 0, 0, 0, []) := by decide +kernel
theorem t_46_20 : tb_in 46 20 = some (.iconst 0, 0, 0, 0, []) := by decide +kernel
theorem t_46_21 : tb_in 46 21 = some (.istore_n 2, 0, 0, 0, []) := by decide +kernel
theorem t_46_22 : tb_in 46 22 = some (.iload_n 2, 0, 0, 0, []) := by decide +kernel
theorem t_46_23 : tb_in 46 23 = some (.bipush 96, 0, 0, 96, []) := by decide +kernel
theorem t_46_25 : tb_in 46 25 = some (.if_icmp .ge 38, 63, 0, 0, []) := by decide +kernel
theorem t_46_28 : tb_in 46 28 = some (.aload_n 0, 0, 0, 0, []) := by decide +kernel
theorem t_46_29 : tb_in 46 29 = some (.getfield 34, 7, 11, 0, []) := by decide +kernel
theorem t_46_32 : tb_in 46 32 = some (.iload_n 2, 0, 0, 0, []) := by decide +kernel
theorem t_46_33 : tb_in 46 33 = some (.aload_n 0, 0, 0, 0, []) := by decide +kernel
theorem t_46_34 : tb_in 46 34 = some (.getfield 34, 7, 11, 0, []) := by decide +kernel
theorem t_46_37 : tb_in 46 37 = some (.iload_n 2, 0, 0, 0, []) := by decide +kernel
theorem t_46_38 : tb_in 46 38 = some (.baload, 0, 0, 0, []) := by decide +kernel
theorem t_46_39 : tb_in 46 39 = some (.ifCond .eq 16, 55, 0, 0, []) := by decide +kernel
theorem t_46_42 : tb_in 46 42 = some (.aload_n 0, 0, 0, 0, []) := by decide +kernel
theorem t_46_43 : tb_in 46 43 = some (.getfield 50, 7, 16, 0, []) := by decide +kernel
theorem t_46_46 : tb_in 46 46 = some (.iload_n 2, 0, 0, 0, []) := by decide +kernel
theorem t_46_47 : tb_in 46 47 = some (.baload, 0, 0, 0, []) := by decide +kernel
theorem t_46_48 : tb_in 46 48 = some (.ifCond .ne 7, 55, 0, 0, []) := by decide +kernel
theorem t_46_51 : tb_in 46 51 = some (.iconst 1, 0, 0, 1, []) := by decide +kernel
theorem t_46_52 : tb_in 46 52 = some (.goto 4, 56, 0, 0, []) := by decide +kernel
theorem t_46_55 : tb_in 46 55 = some (.iconst 0, 0, 0, 0, []) := by decide +kernel
theorem t_46_56 : tb_in 46 56 = some (.bastore, 0, 0, 0, []) := by decide +kernel
theorem t_46_57 : tb_in 46 57 = some (.iinc 2 1, 0, 0, 1, []) := by decide +kernel
theorem t_46_60 : tb_in 46 60 = some (.goto (-38), 22, 0, 0, []) := by decide +kernel
theorem t_46_63 : tb_in 46 63 = some (.return_, 0, 0, 0, []) := by decide +kernel
theorem t_47_0 : tb_in 47 0 = some (.iload_n 0, 0, 0, 0, []) := by decide +kernel
theorem t_47_1 : tb_in 47 1 = some (.ifCond .lt 9, 10, 0, 0, []) := by decide +kernel
theorem t_47_4 : tb_in 47 4 = some (.iload_n 0, 0, 0, 0, []) := by decide +kernel
theorem t_47_5 : tb_in 47 5 = some (.bipush 15, 0, 0, 15, []) := by decide +kernel
theorem t_47_7 : tb_in 47 7 = some (.if_icmp .le 7, 14, 0, 0, []) := by decide +kernel
theorem t_47_10 : tb_in 47 10 = some (.iconst 1, 0, 0, 1, []) := by decide +kernel
theorem t_47_11 : tb_in 47 11 = some (.goto 4, 15, 0, 0, []) := by decide +kernel
theorem t_47_14 : tb_in 47 14 = some (.iconst 0, 0, 0, 0, []) := by decide +kernel
theorem t_47_15 : tb_in 47 15 = some (.ireturn, 0, 0, 0, []) := by decide +kernel
theorem t_48_0 : tb_in 48 0 = some (.aload_n 0, 0, 0, 0, []) := by decide +kernel
theorem t_48_1 : tb_in 48 1 = some (.iload_n 1, 0, 0, 0, []) := by decide +kernel
theorem t_48_2 : tb_in 48 2 = some (.ifCond .lt 15, 17, 0, 0, []) := by decide +kernel
theorem t_48_5 : tb_in 48 5 = some (.iload_n 1, 0, 0, 0, []) := by decide +kernel
theorem t_48_6 : tb_in 48 6 = some (.iconst 2, 0, 0, 2, []) := by decide +kernel
theorem t_48_7 : tb_in 48 7 = some (.if_icmp .gt 10, 17, 0, 0, []) := by decide +kernel
theorem t_48_10 : tb_in 48 10 = some (.iload_n 2, 0, 0, 0, []) := by decide +kernel
theorem t_48_11 : tb_in 48 11 = some (.invokestatic 102, 47, 1, 0, []) := by decide +kernel
theorem t_48_14 : tb_in 48 14 = some (.ifCond .eq 7, 21, 0, 0, []) := by decide +kernel
theorem t_48_17 : tb_in 48 17 = some (.iconst 1, 0, 0, 1, []) := by decide +kernel
theorem t_48_18 : tb_in 48 18 = some (.goto 4, 22, 0, 0, []) := by decide +kernel
theorem t_48_21 : tb_in 48 21 = some (.iconst 0, 0, 0, 0, []) := by decide +kernel
theorem t_48_22 : tb_in 48 22 = some (.putfield 84, 7, 0, 0, []) := by decide +kernel
theorem t_48_25 : tb_in 48 25 = some (.aload_n 0, 0, 0, 0, []) := by decide +kernel
theorem t_48_26 : tb_in 48 26 = some (.getfield 84, 7, 0, 0, []) := by decide +kernel
theorem t_48_29 : tb_in 48 29 = some (.ifCond .gt 18, 47, 0, 0, []) := by decide +kernel
theorem t_48_32 : tb_in 48 32 = some (.aload_n 0, 0, 0, 0, []) := by decide +kernel
theorem t_48_33 : tb_in 48 33 = some (.getfield 19, 7, 6, 0, []) := by decide +kernel
theorem t_48_36 : tb_in 48 36 = some (.bipush 16, 0, 0, 16, []) := by decide +kernel
theorem t_48_38 : tb_in 48 38 = some (.iload_n 1, 0, 0, 0, []) := by decide +kernel
theorem t_48_39 : tb_in 48 39 = some (.imul, 0, 0, 0, []) := by decide +kernel
theorem t_48_40 : tb_in 48 40 = some (.iload_n 2, 0, 0, 0, []) := by decide +kernel
theorem t_48_41 : tb_in 48 41 = some (.iadd, 0, 0, 0, []) := by decide +kernel
theorem t_48_42 : tb_in 48 42 = some (.iaload, 0, 0, 0, []) := by decide +kernel
theorem t_48_43 : tb_in 48 43 = some (.iload_n 3, 0, 0, 0, []) := by decide +kernel
theorem t_48_44 : tb_in 48 44 = some (.if_icmp .ne 5, 49, 0, 0, []) := by decide +kernel
theorem t_48_47 : tb_in 48 47 = some (.iconst 0, 0, 0, 0, []) := by decide +kernel
theorem t_48_48 : tb_in 48 48 = some (.ireturn, 0, 0, 0, []) := by decide +kernel
theorem t_48_49 : tb_in 48 49 = some (.aload_n 0, 0, 0, 0, []) := by decide +kernel
theorem t_48_50 : tb_in 48 50 = some (.aload_n 0, 0, 0, 0, []) := by decide +kernel
theorem t_48_51 : tb_in 48 51 = some (.getfield 25, 7, 8, 0, []) := by decide +kernel
theorem t_48_54 : tb_in 48 54 = some (.iload_n 1, 0, 0, 0, []) := by decide +kernel
theorem t_48_55 : tb_in 48 55 = some (.iaload, 0, 0, 0, []) := by decide +kernel
theorem t_48_56 : tb_in 48 56 = some (.invokevirtual 106, 46, 2, 0, []) := by decide +kernel
theorem t_48_59 : tb_in 48 59 = some (.aload_n 0, 0, 0, 0, []) := by decide +kernel
theorem t_48_60 : tb_in 48 60 = some (.getfield 19, 7, 6, 0, []) := by decide +kernel
theorem t_48_63 : tb_in 48 63 = some (.bipush 16, 0, 0, 16, []) := by decide +kernel
theorem t_48_65 : tb_in 48 65 = some (.iload_n 1, 0, 0, 0, []) := by decide +kernel
theorem t_48_66 : tb_in 48 66 = some (.imul, 0, 0, 0, []) := by decide +kernel
theorem t_48_67 : tb_in 48 67 = some (.iload_n 2, 0, 0, 0, []) := by decide +kernel
theorem t_48_68 : tb_in 48 68 = some (.iadd, 0, 0, 0, []) := by decide +kernel
theorem t_48_69 : tb_in 48 69 = some (.iload_n 3, 0, 0, 0, []) := by decide +kernel
theorem t_48_70 : tb_in 48 70 = some (.iastore, 0, 0, 0, []) := by decide +kernel
theorem t_48_71 : tb_in 48 71 = some (.aload_n 0, 0, 0, 0, []) := by decide +kernel
theorem t_48_72 : tb_in 48 72 = some (.getfield 22, 7, 7, 0, []) := by decide +kernel
theorem t_48_75 : tb_in 48 75 = some (.bipush 16, 0, 0, 16, []) := by decide +kernel
theorem t_48_77 : tb_in 48 77 = some (.iload_n 1, 0, 0, 0, []) := by decide +kernel
theorem t_48_78 : tb_in 48 78 = some (.imul, 0, 0, 0, []) := by decide +kernel
theorem t_48_79 : tb_in 48 79 = some (.iload_n 2, 0, 0, 0, []) := by decide +kernel
theorem t_48_80 : tb_in 48 80 = some (.iadd, 0, 0, 0, []) := by decide +kernel
theorem t_48_81 : tb_in 48 81 = some (.aload_n 0, 0, 0, 0, []) := by decide +kernel
theorem t_48_82 : tb_in 48 82 = some (.getfield 99, 7, 5, 0, []) := by decide +kernel
theorem t_48_85 : tb_in 48 85 = some (.iastore, 0, 0, 0, []) := by decide +kernel
theorem t_48_86 : tb_in 48 86 = some (.iconst 1, 0, 0, 1, []) := by decide +kernel
theorem t_48_87 : tb_in 48 87 = some (.ireturn, 0, 0, 0, []) := by decide +kernel
theorem t_49_0 : tb_in 49 0 = some (.aload_n 0, 0, 0, 0, []) := by decide +kernel
theorem t_49_1 : tb_in 49 1 = some (.iload_n 1, 0, 0, 0, []) := by decide +kernel
theorem t_49_2 : tb_in 49 2 = some (.ifCond .lt 8, 10, 0, 0, []) := by decide +kernel
theorem t_49_5 : tb_in 49 5 = some (.iload_n 1, 0, 0, 0, []) := by decide +kernel
theorem t_49_6 : tb_in 49 6 = some (.iconst 5, 0, 0, 5, []) := by decide +kernel
theorem t_49_7 : tb_in 49 7 = some (.if_icmp .le 7, 14, 0, 0, []) := by decide +kernel
theorem t_49_10 : tb_in 49 10 = some (.iconst 1, 0, 0, 1, []) := by decide +kernel
theorem t_49_11 : tb_in 49 11 = some (.goto 4, 15, 0, 0, []) := by decide +kernel
theorem t_49_14 : tb_in 49 14 = some (.iconst 0, 0, 0, 0, []) := by decide +kernel
theorem t_49_15 : tb_in 49 15 = some (.putfield 84, 7, 0, 0, []) := by decide +kernel
theorem t_49_18 : tb_in 49 18 = some (.aload_n 0, 0, 0, 0, []) := by decide +kernel
theorem t_49_19 : tb_in 49 19 = some (.getfield 84, 7, 0, 0, []) := by decide +kernel
theorem t_49_22 : tb_in 49 22 = some (.ifCond .gt 13, 35, 0, 0, []) := by decide +kernel
theorem t_49_25 : tb_in 49 25 = some (.aload_n 0, 0, 0, 0, []) := by decide +kernel
theorem t_49_26 : tb_in 49 26 = some (.getfield 28, 7, 9, 0, []) := by decide +kernel
theorem t_49_29 : tb_in 49 29 = some (.iload_n 1, 0, 0, 0, []) := by decide +kernel
theorem t_49_30 : tb_in 49 30 = some (.iaload, 0, 0, 0, []) := by decide +kernel
theorem t_49_31 : tb_in 49 31 = some (.iload_n 2, 0, 0, 0, []) := by decide +kernel
theorem t_49_32 : tb_in 49 32 = some (.if_icmp .ne 5, 37, 0, 0, []) := by decide +kernel
theorem t_49_35 : tb_in 49 35 = some (.iconst 0, 0, 0, 0, []) := by decide +kernel
theorem t_49_36 : tb_in 49 36 = some (.ireturn, 0, 0, 0, []) := by decide +kernel
theorem t_49_37 : tb_in 49 37 = some (.aload_n 0, 0, 0, 0, []) := by decide +kernel
theorem t_49_38 : tb_in 49 38 = some (.iconst 0, 0, 0, 0, []) := by decide +kernel
theorem t_49_39 : tb_in 49 39 = some (.invokevirtual 106, 46, 2, 0, []) := by decide +kernel
theorem t_49_42 : tb_in 49 42 = some (.aload_n 0, 0, 0, 0, []) := by decide +kernel
theorem t_49_43 : tb_in 49 43 = some (.getfield 28, 7, 9, 0, []) := by decide +kernel
theorem t_49_46 : tb_in 49 46 = some (.iload_n 1, 0, 0, 0, []) := by decide +kernel
theorem t_49_47 : tb_in 49 47 = some (.iload_n 2, 0, 0, 0, []) := by decide +kernel
theorem t_49_48 : tb_in 49 48 = some (.iastore, 0, 0, 0, []) := by decide +kernel
theorem t_49_49 : tb_in 49 49 = some (.iconst 1, 0, 0, 1, []) := by decide +kernel
theorem t_49_50 : tb_in 49 50 = some (.ireturn, 0, 0, 0, []) := by decide +kernel
theorem t_50_0 : tb_in 50 0 = some (.aload_n 0, 0, 0, 0, []) := by decide +kernel
theorem t_50_1 : tb_in 50 1 = some (.iload_n 1, 0, 0, 0, []) := by decide +kernel
theorem t_50_2 : tb_in 50 2 = some (.ifCond .lt 17, 19, 0, 0, []) := by decide +kernel
theorem t_50_5 : tb_in 50 5 = some (.iload_n 1, 0, 0, 0, []) := by decide +kernel
theorem t_50_6 : tb_in 50 6 = some (.iconst 2, 0, 0, 2, []) := by decide +kernel
theorem t_50_7 : tb_in 50 7 = some (.if_icmp .gt 12, 19, 0, 0, []) := by decide +kernel
theorem t_50_10 : tb_in 50 10 = some (.iload_n 2, 0, 0, 0, []) := by decide +kernel
theorem t_50_11 : tb_in 50 11 = some (.ifCond .lt 8, 19, 0, 0, []) := by decide +kernel
theorem t_50_14 : tb_in 50 14 = some (.iload_n 2, 0, 0, 0, []) := by decide +kernel
theorem t_50_15 : tb_in 50 15 = some (.iconst 2, 0, 0, 2, []) := by decide +kernel
theorem t_50_16 : tb_in 50 16 = some (.if_icmp .le 7, 23, 0, 0, []) := by decide +kernel
theorem t_50_19 : tb_in 50 19 = some (.iconst 1, 0, 0, 1, []) := by decide +kernel
theorem t_50_20 : tb_in 50 20 = some (.goto 4, 24, 0, 0, []) := by decide +kernel
theorem t_50_23 : tb_in 50 23 = some (.iconst 0, 0, 0, 0, []) := by decide +kernel
theorem t_50_24 : tb_in 50 24 = some (.putfield 84, 7, 0, 0, []) := by decide +kernel
theorem t_50_27 : tb_in 50 27 = some (.aload_n 0, 0, 0, 0, []) := by decide +kernel
theorem t_50_28 : tb_in 50 28 = some (.getfield 84, 7, 0, 0, []) := by decide +kernel
theorem t_50_31 : tb_in 50 31 = some (.ifCond .ne 14, 45, 0, 0, []) := by decide +kernel
theorem t_50_34 : tb_in 50 34 = some (.aload_n 0, 0, 0, 0, []) := by decide +kernel
theorem t_50_35 : tb_in 50 35 = some (.getfield 25, 7, 8, 0, []) := by decide +kernel
theorem t_50_38 : tb_in 50 38 = some (.iload_n 1, 0, 0, 0, []) := by decide +kernel
theorem t_50_39 : tb_in 50 39 = some (.iload_n 2, 0, 0, 0, []) := by decide +kernel
theorem t_50_40 : tb_in 50 40 = some (.iastore, 0, 0, 0, []) := by decide +kernel
theorem t_50_41 : tb_in 50 41 = some (.aload_n 0, 0, 0, 0, []) := by decide +kernel
theorem t_50_42 : tb_in 50 42 = some (.invokevirtual 96, 44, 1, 0, []) := by decide +kernel
theorem t_50_45 : tb_in 50 45 = some (.return_, 0, 0, 0, []) := by decide +kernel
theorem t_51_0 : tb_in 51 0 = some (.aload_n 0, 0, 0, 0, []) := by decide +kernel
theorem t_51_1 : tb_in 51 1 = some (.dup, 0, 0, 0, []) := by decide +kernel
theorem t_51_2 : tb_in 51 2 = some (.getfield 110, 7, 20, 0, []) := by decide +kernel
theorem t_51_5 : tb_in 51 5 = some (.iconst 1, 0, 0, 1, []) := by decide +kernel
theorem t_51_6 : tb_in 51 6 = some (.iadd, 0, 0, 0, []) := by decide +kernel
theorem t_51_7 : tb_in 51 7 = some (.putfield 110, 7, 20, 0, []) := by decide +kernel
theorem t_51_10 : tb_in 51 10 = some (.aload_n 0, 0, 0, 0, []) := by decide +kernel
theorem t_51_11 : tb_in 51 11 = some (.getfield 59, 7, 19, 0, []) := by decide +kernel
theorem t_51_14 : tb_in 51 14 = some (.iload_n 1, 0, 0, 0, []) := by decide +kernel
theorem t_51_15 : tb_in 51 15 = some (.aload_n 0, 0, 0, 0, []) := by decide +kernel
theorem t_51_16 : tb_in 51 16 = some (.getfield 110, 7, 20, 0, []) := by decide +kernel
theorem t_51_19 : tb_in 51 19 = some (.iastore, 0, 0, 0, []) := by decide +kernel
theorem t_51_20 : tb_in 51 20 = some (.return_, 0, 0, 0, []) := by decide +kernel
theorem t_52_0 : tb_in 52 0 = some (.iconst 0, 0, 0, 0, []) := by decide +kernel
theorem t_52_1 : tb_in 52 1 = some (.istore_n 2, 0, 0, 0, []) := by decide +kernel
theorem t_52_2 : tb_in 52 2 = some (.iconst 0, 0, 0, 0, []) := by decide +kernel
theorem t_52_3 : tb_in 52 3 = some (.istore_n 3, 0, 0, 0, []) := by decide +kernel
theorem t_52_4 : tb_in 52 4 = some (.iload_n 3, 0, 0, 0, []) := by decide +kernel
theorem t_52_5 : tb_in 52 5 = some (.aload_n 0, 0, 0, 0, []) := by decide +kernel
theorem t_52_6 : tb_in 52 6 = some (.getfield 113, 7, 26, 0, []) := by decide +kernel
theorem t_52_9 : tb_in 52 9 = some (.if_icmp .ge 29, 38, 0, 0, []) := by decide +kernel
theorem t_52_12 : tb_in 52 12 = some (.iload_n 2, 0, 0, 0, []) := by decide +kernel
theorem t_52_13 : tb_in 52 13 = some (.ifCond .ne 13, 26, 0, 0, []) := by decide +kernel
theorem t_52_16 : tb_in 52 16 = some (.aload_n 0, 0, 0, 0, []) := by decide +kernel
theorem t_52_17 : tb_in 52 17 = some (.getfield 66, 7, 27, 0, []) := by decide +kernel
theorem t_52_20 : tb_in 52 20 = some (.iload_n 3, 0, 0, 0, []) := by decide +kernel
theorem t_52_21 : tb_in 52 21 = some (.iaload, 0, 0, 0, []) := by decide +kernel
theorem t_52_22 : tb_in 52 22 = some (.iload_n 1, 0, 0, 0, []) := by decide +kernel
theorem t_52_23 : tb_in 52 23 = some (.if_icmp .ne 7, 30, 0, 0, []) := by decide +kernel
theorem t_52_26 : tb_in 52 26 = some (.iconst 1, 0, 0, 1, []) := by decide +kernel
theorem t_52_27 : tb_in 52 27 = some (.goto 4, 31, 0, 0, []) := by decide +kernel
theorem t_52_30 : tb_in 52 30 = some (.iconst 0, 0, 0, 0, []) := by decide +kernel
theorem t_52_31 : tb_in 52 31 = some (.istore_n 2, 0, 0, 0, []) := by decide +kernel
theorem t_52_32 : tb_in 52 32 = some (.iinc 3 1, 0, 0, 1, []) := by decide +kernel
theorem t_52_35 : tb_in 52 35 = some (.goto (-31), 4, 0, 0, []) := by decide +kernel
theorem t_52_38 : tb_in 52 38 = some (.iload_n 2, 0, 0, 0, []) := by decide +kernel
theorem t_52_39 : tb_in 52 39 = some (.ireturn, 0, 0, 0, []) := by decide +kernel
theorem t_53_0 : tb_in 53 0 = some (.iconst 1, 0, 0, 1, []) := by decide +kernel
theorem t_53_1 : tb_in 53 1 = some (.istore_n 2, 0, 0, 0, []) := by decide +kernel
theorem t_53_2 : tb_in 53 2 = some (.aload_n 0, 0, 0, 0, []) := by decide +kernel
theorem t_53_3 : tb_in 53 3 = some (.getfield 47, 7, 15, 0, []) := by decide +kernel
theorem t_53_6 : tb_in 53 6 = some (.iload_n 1, 0, 0, 0, []) := by decide +kernel
theorem t_53_7 : tb_in 53 7 = some (.iaload, 0, 0, 0, []) := by decide +kernel
theorem t_53_8 : tb_in 53 8 = some (.istore_n 3, 0, 0, 0, []) := by decide +kernel
theorem t_53_9 : tb_in 53 9 = some (.iload_n 3, 0, 0, 0, []) := by decide +kernel
theorem t_53_10 : tb_in 53 10 = some (.iconst 3, 0, 0, 3, []) := by decide +kernel
theorem t_53_11 : tb_in 53 11 = some (.if_icmp .ge 34, 45, 0, 0, []) := by decide +kernel
theorem t_53_14 : tb_in 53 14 = some (.iload_n 2, 0, 0, 0, []) := by decide +kernel
theorem t_53_15 : tb_in 53 15 = some (.ifCond .eq 22, 37, 0, 0, []) := by decide +kernel
theorem t_53_18 : tb_in 53 18 = some (.aload_n 0, 0, 0, 0, []) := by decide +kernel
theorem t_53_19 : tb_in 53 19 = some (.getfield 31, 7, 10, 0, []) := by decide +kernel
theorem t_53_22 : tb_in 53 22 = some (.iload_n 3, 0, 0, 0, []) := by decide +kernel
theorem t_53_23 : tb_in 53 23 = some (.iaload, 0, 0, 0, []) := by decide +kernel
theorem t_53_24 : tb_in 53 24 = some (.aload_n 0, 0, 0, 0, []) := by decide +kernel
theorem t_53_25 : tb_in 53 25 = some (.getfield 41, 7, 13, 0, []) := by decide +kernel
theorem t_53_28 : tb_in 53 28 = some (.iload_n 1, 0, 0, 0, []) := by decide +kernel
theorem t_53_29 : tb_in 53 29 = some (.iaload, 0, 0, 0, []) := by decide +kernel
theorem t_53_30 : tb_in 53 30 = some (.if_icmp .gt 7, 37, 0, 0, []) := by decide +kernel
theorem t_53_33 : tb_in 53 33 = some (.iconst 1, 0, 0, 1, []) := by decide +kernel
theorem t_53_34 : tb_in 53 34 = some (.goto 4, 38, 0, 0, []) := by decide +kernel
theorem t_53_37 : tb_in 53 37 = some (.iconst 0, 0, 0, 0, []) := by decide +kernel
theorem t_53_38 : tb_in 53 38 = some (.istore_n 2, 0, 0, 0, []) := by decide +kernel
theorem t_53_39 : tb_in 53 39 = some (.iinc 3 1, 0, 0, 1, []) := by decide +kernel
theorem t_53_42 : tb_in 53 42 = some (.goto (-33), 9, 0, 0, []) := by decide +kernel
theorem t_53_45 : tb_in 53 45 = some (.iload_n 2, 0, 0, 0, []) := by decide +kernel
theorem t_53_46 : tb_in 53 46 = some (.ireturn, 0, 0, 0, []) := by decide +kernel
theorem t_54_0 : tb_in 54 0 = some (.iconst 0, 0, 0, 0, []) := by decide +kernel
theorem t_54_1 : tb_in 54 1 = some (.istore_n 2, 0, 0, 0, []) := by decide +kernel
theorem t_54_2 : tb_in 54 2 = some (.iconst 0, 0, 0, 0, []) := by decide +kernel
theorem t_54_3 : tb_in 54 3 = some (.istore_n 3, 0, 0, 0, []) := by decide +kernel
theorem t_54_4 : tb_in 54 4 = some (.iload_n 3, 0, 0, 0, []) := by decide +kernel
theorem t_54_5 : tb_in 54 5 = some (.aload_n 0, 0, 0, 0, []) := by decide +kernel
theorem t_54_6 : tb_in 54 6 = some (.getfield 113, 7, 26, 0, []) := by decide +kernel
theorem t_54_9 : tb_in 54 9 = some (.if_icmp .ge 124, 133, 0, 0, []) := by decide +kernel
theorem t_54_12 : tb_in 54 12 = some (.aload_n 0, 0, 0, 0, []) := by decide +kernel
theorem t_54_13 : tb_in 54 13 = some (.getfield 66, 7, 27, 0, []) := by decide +kernel
theorem t_54_16 : tb_in 54 16 = some (.iload_n 3, 0, 0, 0, []) := by decide +kernel
theorem t_54_17 : tb_in 54 17 = some (.iaload, 0, 0, 0, []) := by decide +kernel
theorem t_54_18 : tb_in 54 18 = some (.istore 4, 0, 0, 0, []) := by decide +kernel
theorem t_54_20 : tb_in 54 20 = some (.iload_n 2, 0, 0, 0, []) := by decide +kernel
theorem t_54_21 : tb_in 54 21 = some (.ifCond .ne 9, 30, 0, 0, []) := by decide +kernel
theorem t_54_24 : tb_in 54 24 = some (.iload 4, 0, 0, 0, []) := by decide +kernel
theorem t_54_26 : tb_in 54 26 = some (.iload_n 1, 0, 0, 0, []) := by decide +kernel
theorem t_54_27 : tb_in 54 27 = some (.if_icmp .ne 7, 34, 0, 0, []) := by decide +kernel
theorem t_54_30 : tb_in 54 30 = some (.iconst 1, 0, 0, 1, []) := by decide +kernel
theorem t_54_31 : tb_in 54 31 = some (.goto 4, 35, 0, 0, []) := by decide +kernel
theorem t_54_34 : tb_in 54 34 = some (.iconst 0, 0, 0, 0, []) := by decide +kernel
theorem t_54_35 : tb_in 54 35 = some (.istore_n 2, 0, 0, 0, []) := by decide +kernel
theorem t_54_36 : tb_in 54 36 = some (.iload_n 2, 0, 0, 0, []) := by decide +kernel
theorem t_54_37 : tb_in 54 37 = some (.ifCond .eq 90, 127, 0, 0, []) := by decide +kernel
theorem t_54_40 : tb_in 54 40 = some (.aload_n 0, 0, 0, 0, []) := by decide +kernel
theorem t_54_41 : tb_in 54 41 = some (.getfield 34, 7, 11, 0, []) := by decide +kernel
theorem t_54_44 : tb_in 54 44 = some (.iload 4, 0, 0, 0, []) := by decide +kernel
theorem t_54_46 : tb_in 54 46 = some (.iconst 1, 0, 0, 1, []) := by decide +kernel
theorem t_54_47 : tb_in 54 47 = some (.bastore, 0, 0, 0, []) := by decide +kernel
theorem t_54_48 : tb_in 54 48 = some (.aload_n 0, 0, 0, 0, []) := by decide +kernel
theorem t_54_49 : tb_in 54 49 = some (.getfield 38, 7, 12, 0, []) := by decide +kernel
theorem t_54_52 : tb_in 54 52 = some (.iload 4, 0, 0, 0, []) := by decide +kernel
theorem t_54_54 : tb_in 54 54 = some (.aload_n 0, 0, 0, 0, []) := by decide +kernel
theorem t_54_55 : tb_in 54 55 = some (.getfield 28, 7, 9, 0, []) := by decide +kernel
theorem t_54_58 : tb_in 54 58 = some (.iload 4, 0, 0, 0, []) := by decide +kernel
theorem t_54_60 : tb_in 54 60 = some (.bipush 16, 0, 0, 16, []) := by decide +kernel
theorem t_54_62 : tb_in 54 62 = some (.idiv, 0, 0, 0, []) := by decide +kernel
theorem t_54_63 : tb_in 54 63 = some (.iaload, 0, 0, 0, []) := by decide +kernel
theorem t_54_64 : tb_in 54 64 = some (.iastore, 0, 0, 0, []) := by decide +kernel
theorem t_54_65 : tb_in 54 65 = some (.aload_n 0, 0, 0, 0, []) := by decide +kernel
theorem t_54_66 : tb_in 54 66 = some (.getfield 41, 7, 13, 0, []) := by decide +kernel
theorem t_54_69 : tb_in 54 69 = some (.iload 4, 0, 0, 0, []) := by decide +kernel
theorem t_54_71 : tb_in 54 71 = some (.aload_n 0, 0, 0, 0, []) := by decide +kernel
theorem t_54_72 : tb_in 54 72 = some (.getfield 99, 7, 5, 0, []) := by decide +kernel
theorem t_54_75 : tb_in 54 75 = some (.iastore, 0, 0, 0, []) := by decide +kernel
theorem t_54_76 : tb_in 54 76 = some (.aload_n 0, 0, 0, 0, []) := by decide +kernel
theorem t_54_77 : tb_in 54 77 = some (.getfield 44, 7, 14, 0, []) := by decide +kernel
theorem t_54_80 : tb_in 54 80 = some (.iload 4, 0, 0, 0, []) := by decide +kernel
theorem t_54_82 : tb_in 54 82 = some (.aload_n 0, 0, 0, 0, []) := by decide +kernel
theorem t_54_83 : tb_in 54 83 = some (.getfield 99, 7, 5, 0, []) := by decide +kernel
theorem t_54_86 : tb_in 54 86 = some (.iastore, 0, 0, 0, []) := by decide +kernel
theorem t_54_87 : tb_in 54 87 = some (.aload_n 0, 0, 0, 0, []) := by decide +kernel
theorem t_54_88 : tb_in 54 88 = some (.getfield 47, 7, 15, 0, []) := by decide +kernel
theorem t_54_91 : tb_in 54 91 = some (.iload 4, 0, 0, 0, []) := by decide +kernel
theorem t_54_93 : tb_in 54 93 = some (.iconst 0, 0, 0, 0, []) := by decide +kernel
theorem t_54_94 : tb_in 54 94 = some (.iastore, 0, 0, 0, []) := by decide +kernel
theorem t_54_95 : tb_in 54 95 = some (.aload_n 0, 0, 0, 0, []) := by decide +kernel
theorem t_54_96 : tb_in 54 96 = some (.getfield 50, 7, 16, 0, []) := by decide +kernel
theorem t_54_99 : tb_in 54 99 = some (.iload 4, 0, 0, 0, []) := by decide +kernel
theorem t_54_101 : tb_in 54 101 = some (.iconst 1, 0, 0, 1, []) := by decide +kernel
theorem t_54_102 : tb_in 54 102 = some (.bastore, 0, 0, 0, []) := by decide +kernel
theorem t_54_103 : tb_in 54 103 = some (.aload_n 0, 0, 0, 0, []) := by decide +kernel
theorem t_54_104 : tb_in 54 104 = some (.getfield 56, 7, 18, 0, []) := by decide +kernel
theorem t_54_107 : tb_in 54 107 = some (.iload 4, 0, 0, 0, []) := by decide +kernel
theorem t_54_109 : tb_in 54 109 = some (.iconst 0, 0, 0, 0, []) := by decide +kernel
theorem t_54_110 : tb_in 54 110 = some (.iastore, 0, 0, 0, []) := by decide +kernel
theorem t_54_111 : tb_in 54 111 = some (.aload_n 0, 0, 0, 0, []) := by decide +kernel
theorem t_54_112 : tb_in 54 112 = some (.dup, 0, 0, 0, []) := by decide +kernel
theorem t_54_113 : tb_in 54 113 = some (.getfield 116, 7, 25, 0, []) := by decide +kernel
theorem t_54_116 : tb_in 54 116 = some (.iconst 1, 0, 0, 1, []) := by decide +kernel
theorem t_54_117 : tb_in 54 117 = some (.iadd, 0, 0, 0, []) := by decide +kernel
theorem t_54_118 : tb_in 54 118 = some (.putfield 116, 7, 25, 0, []) := by decide +kernel
theorem t_54_121 : tb_in 54 121 = some (.aload_n 0, 0, 0, 0, []) := by decide +kernel
theorem t_54_122 : tb_in 54 122 = some (.iload 4, 0, 0, 0, []) := by decide +kernel
theorem t_54_124 : tb_in 54 124 = some (.invokevirtual 119, 51, 2, 0, []) := by decide +kernel
theorem t_54_127 : tb_in 54 127 = some (.iinc 3 1, 0, 0, 1, []) := by decide +kernel
theorem t_54_130 : tb_in 54 130 = some (.goto (-126), 4, 0, 0, []) := by decide +kernel
theorem t_54_133 : tb_in 54 133 = some (.aload_n 0, 0, 0, 0, []) := by decide +kernel
theorem t_54_134 : tb_in 54 134 = some (.iconst 0, 0, 0, 0, []) := by decide +kernel
theorem t_54_135 : tb_in 54 135 = some (.putfield 113, 7, 26, 0, []) := by decide +kernel
theorem t_54_138 : tb_in 54 138 = some (.return_, 0, 0, 0, []) := by decide +kernel
theorem t_55_0 : tb_in 55 0 = some (.aload_n 0, 0, 0, 0, []) := by decide +kernel
theorem t_55_1 : tb_in 55 1 = some (.iload_n 1, 0, 0, 0, []) := by decide +kernel
theorem t_55_2 : tb_in 55 2 = some (.invokevirtual 122, 52, 2, 0, []) := by decide +kernel
theorem t_55_5 : tb_in 55 5 = some (.ifCond .eq 10, 15, 0, 0, []) := by decide +kernel
theorem t_55_8 : tb_in 55 8 = some (.aload_n 0, 0, 0, 0, []) := by decide +kernel
theorem t_55_9 : tb_in 55 9 = some (.iload_n 1, 0, 0, 0, []) := by decide +kernel
theorem t_55_10 : tb_in 55 10 = some (.invokevirtual 125, 54, 2, 0, []) := by decide +kernel
theorem t_55_13 : tb_in 55 13 = some (.iconst 0, 0, 0, 0, []) := by decide +kernel
theorem t_55_14 : tb_in 55 14 = some (.ireturn, 0, 0, 0, []) := by decide +kernel
theorem t_55_15 : tb_in 55 15 = some (.aload_n 0, 0, 0, 0, []) := by decide +kernel
theorem t_55_16 : tb_in 55 16 = some (.getfield 34, 7, 11, 0, []) := by decide +kernel
theorem t_55_19 : tb_in 55 19 = some (.iload_n 1, 0, 0, 0, []) := by decide +kernel
theorem t_55_20 : tb_in 55 20 = some (.baload, 0, 0, 0, []) := by decide +kernel
theorem t_55_21 : tb_in 55 21 = some (.ifCond .eq 18, 39, 0, 0, []) := by decide +kernel
theorem t_55_24 : tb_in 55 24 = some (.aload_n 0, 0, 0, 0, []) := by decide +kernel
theorem t_55_25 : tb_in 55 25 = some (.getfield 41, 7, 13, 0, []) := by decide +kernel
theorem t_55_28 : tb_in 55 28 = some (.iload_n 1, 0, 0, 0, []) := by decide +kernel
theorem t_55_29 : tb_in 55 29 = some (.iaload, 0, 0, 0, []) := by decide +kernel
theorem t_55_30 : tb_in 55 30 = some (.aload_n 0, 0, 0, 0, []) := by decide +kernel
theorem t_55_31 : tb_in 55 31 = some (.getfield 99, 7, 5, 0, []) := by decide +kernel
theorem t_55_34 : tb_in 55 34 = some (.if_icmp .ne 5, 39, 0, 0, []) := by decide +kernel
theorem t_55_37 : tb_in 55 37 = some (.iconst 1, 0, 0, 1, []) := by decide +kernel
theorem t_55_38 : tb_in 55 38 = some (.ireturn, 0, 0, 0, []) := by decide +kernel
theorem t_55_39 : tb_in 55 39 = some (.aload_n 0, 0, 0, 0, []) := by decide +kernel
theorem t_55_40 : tb_in 55 40 = some (.getfield 34, 7, 11, 0, []) := by decide +kernel
theorem t_55_43 : tb_in 55 43 = some (.iload_n 1, 0, 0, 0, []) := by decide +kernel
theorem t_55_44 : tb_in 55 44 = some (.baload, 0, 0, 0, []) := by decide +kernel
theorem t_55_45 : tb_in 55 45 = some (.ifCond .eq 38, 83, 0, 0, []) := by decide +kernel
theorem t_55_48 : tb_in 55 48 = some (.aload_n 0, 0, 0, 0, []) := by decide +kernel
theorem t_55_49 : tb_in 55 49 = some (.iload_n 1, 0, 0, 0, []) := by decide +kernel
theorem t_55_50 : tb_in 55 50 = some (.invokevirtual 128, 53, 2, 0, []) := by decide +kernel
theorem t_55_53 : tb_in 55 53 = some (.ifCond .eq 30, 83, 0, 0, []) := by decide +kernel
theorem t_55_56 : tb_in 55 56 = some (.aload_n 0, 0, 0, 0, []) := by decide +kernel
theorem t_55_57 : tb_in 55 57 = some (.getfield 41, 7, 13, 0, []) := by decide +kernel
theorem t_55_60 : tb_in 55 60 = some (.iload_n 1, 0, 0, 0, []) := by decide +kernel
theorem t_55_61 : tb_in 55 61 = some (.aload_n 0, 0, 0, 0, []) := by decide +kernel
theorem t_55_62 : tb_in 55 62 = some (.getfield 99, 7, 5, 0, []) := by decide +kernel
theorem t_55_65 : tb_in 55 65 = some (.iastore, 0, 0, 0, []) := by decide +kernel
theorem t_55_66 : tb_in 55 66 = some (.aload_n 0, 0, 0, 0, []) := by decide +kernel
theorem t_55_67 : tb_in 55 67 = some (.dup, 0, 0, 0, []) := by decide +kernel
theorem t_55_68 : tb_in 55 68 = some (.getfield 131, 7, 24, 0, []) := by decide +kernel
theorem t_55_71 : tb_in 55 71 = some (.iconst 1, 0, 0, 1, []) := by decide +kernel
theorem t_55_72 : tb_in 55 72 = some (.iadd, 0, 0, 0, []) := by decide +kernel
theorem t_55_73 : tb_in 55 73 = some (.putfield 131, 7, 24, 0, []) := by decide +kernel
theorem t_55_76 : tb_in 55 76 = some (.aload_n 0, 0, 0, 0, []) := by decide +kernel
theorem t_55_77 : tb_in 55 77 = some (.iload_n 1, 0, 0, 0, []) := by decide +kernel
theorem t_55_78 : tb_in 55 78 = some (.invokevirtual 119, 51, 2, 0, []) := by decide +kernel
theorem t_55_81 : tb_in 55 81 = some (.iconst 1, 0, 0, 1, []) := by decide +kernel
theorem t_55_82 : tb_in 55 82 = some (.ireturn, 0, 0, 0, []) := by decide +kernel
theorem t_55_83 : tb_in 55 83 = some (.aload_n 0, 0, 0, 0, []) := by decide +kernel
theorem t_55_84 : tb_in 55 84 = some (.getfield 113, 7, 26, 0, []) := by decide +kernel
theorem t_55_87 : tb_in 55 87 = some (.bipush 20, 0, 0, 20, []) := by decide +kernel
theorem t_55_89 : tb_in 55 89 = some (.if_icmp .ne 10, 99, 0, 0, []) := by decide +kernel
theorem t_55_92 : tb_in 55 92 = some (.aload_n 0, 0, 0, 0, []) := by decide +kernel
theorem t_55_93 : tb_in 55 93 = some (.iconst 1, 0, 0, 1, []) := by decide +kernel
theorem t_55_94 : tb_in 55 94 = some (.putfield 134, 7, 29, 0, []) := by decide +kernel
theorem t_55_97 : tb_in 55 97 = some (.iconst 0, 0, 0, 0, []) := by decide +kernel
theorem t_55_98 : tb_in 55 98 = some (.ireturn, 0, 0, 0, []) := by decide +kernel
theorem t_55_99 : tb_in 55 99 = some (.aload_n 0, 0, 0, 0, []) := by decide +kernel
theorem t_55_100 : tb_in 55 100 = some (.getfield 66, 7, 27, 0, []) := by decide +kernel
theorem t_55_103 : tb_in 55 103 = some (.aload_n 0, 0, 0, 0, []) := by decide +kernel
theorem t_55_104 : tb_in 55 104 = some (.getfield 113, 7, 26, 0, []) := by decide +kernel
theorem t_55_107 : tb_in 55 107 = some (.iload_n 1, 0, 0, 0, []) := by decide +kernel
theorem t_55_108 : tb_in 55 108 = some (.iastore, 0, 0, 0, []) := by decide +kernel
theorem t_55_109 : tb_in 55 109 = some (.aload_n 0, 0, 0, 0, []) := by decide +kernel
theorem t_55_110 : tb_in 55 110 = some (.getfield 69, 7, 28, 0, []) := by decide +kernel
theorem t_55_113 : tb_in 55 113 = some (.aload_n 0, 0, 0, 0, []) := by decide +kernel
theorem t_55_114 : tb_in 55 114 = some (.getfield 113, 7, 26, 0, []) := by decide +kernel
theorem t_55_117 : tb_in 55 117 = some (.aload_n 0, 0, 0, 0, []) := by decide +kernel
theorem t_55_118 : tb_in 55 118 = some (.getfield 34, 7, 11, 0, []) := by decide +kernel
theorem t_55_121 : tb_in 55 121 = some (.iload_n 1, 0, 0, 0, []) := by decide +kernel
theorem t_55_122 : tb_in 55 122 = some (.baload, 0, 0, 0, []) := by decide +kernel
theorem t_55_123 : tb_in 55 123 = some (.ifCond .ne 7, 130, 0, 0, []) := by decide +kernel
theorem t_55_126 : tb_in 55 126 = some (.iconst 1, 0, 0, 1, []) := by decide +kernel
theorem t_55_127 : tb_in 55 127 = some (.goto 4, 131, 0, 0, []) := by decide +kernel
theorem t_55_130 : tb_in 55 130 = some (.iconst 0, 0, 0, 0, []) := by decide +kernel
theorem t_55_131 : tb_in 55 131 = some (.bastore, 0, 0, 0, []) := by decide +kernel
theorem t_55_132 : tb_in 55 132 = some (.aload_n 0, 0, 0, 0, []) := by decide +kernel
theorem t_55_133 : tb_in 55 133 = some (.dup, 0, 0, 0, []) := by decide +kernel
theorem t_55_134 : tb_in 55 134 = some (.getfield 113, 7, 26, 0, []) := by decide +kernel
theorem t_55_137 : tb_in 55 137 = some (.iconst 1, 0, 0, 1, []) := by decide +kernel
theorem t_55_138 : tb_in 55 138 = some (.iadd, 0, 0, 0, []) := by decide +kernel
theorem t_55_139 : tb_in 55 139 = some (.putfield 113, 7, 26, 0, []) := by decide +kernel
theorem t_55_142 : tb_in 55 142 = some (.iconst 0, 0, 0, 0, []) := by decide +kernel
theorem t_55_143 : tb_in 55 143 = some (.ireturn, 0, 0, 0, []) := by decide +kernel
theorem t_56_0 : tb_in 56 0 = some (.iload_n 1, 0, 0, 0, []) := by decide +kernel
theorem t_56_1 : tb_in 56 1 = some (.bipush 100, 0, 0, 100, []) := by decide +kernel
theorem t_56_3 : tb_in 56 3 = some (.if_icmp .ge 15, 18, 0, 0, []) := by decide +kernel
theorem t_56_6 : tb_in 56 6 = some (.aload_n 0, 0, 0, 0, []) := by decide +kernel
theorem t_56_7 : tb_in 56 7 = some (.getfield 25, 7, 8, 0, []) := by decide +kernel
theorem t_56_10 : tb_in 56 10 = some (.iload_n 1, 0, 0, 0, []) := by decide +kernel
theorem t_56_11 : tb_in 56 11 = some (.bipush 16, 0, 0, 16, []) := by decide +kernel
theorem t_56_13 : tb_in 56 13 = some (.idiv, 0, 0, 0, []) := by decide +kernel
theorem t_56_14 : tb_in 56 14 = some (.iaload, 0, 0, 0, []) := by decide +kernel
theorem t_56_15 : tb_in 56 15 = some (.goto 12, 27, 0, 0, []) := by decide +kernel
theorem t_56_18 : tb_in 56 18 = some (.aload_n 0, 0, 0, 0, []) := by decide +kernel
theorem t_56_19 : tb_in 56 19 = some (.getfield 47, 7, 15, 0, []) := by decide +kernel
theorem t_56_22 : tb_in 56 22 = some (.iload_n 1, 0, 0, 0, []) := by decide +kernel
theorem t_56_23 : tb_in 56 23 = some (.bipush 100, 0, 0, 100, []) := by decide +kernel
theorem t_56_25 : tb_in 56 25 = some (.isub, 0, 0, 0, []) := by decide +kernel
theorem t_56_26 : tb_in 56 26 = some (.iaload, 0, 0, 0, []) := by decide +kernel
theorem t_56_27 : tb_in 56 27 = some (.ireturn, 0, 0, 0, []) := by decide +kernel
theorem t_57_0 : tb_in 57 0 = some (.aload_n 0, 0, 0, 0, []) := by decide +kernel
theorem t_57_1 : tb_in 57 1 = some (.getfield 113, 7, 26, 0, []) := by decide +kernel
theorem t_57_4 : tb_in 57 4 = some (.iconst 1, 0, 0, 1, []) := by decide +kernel
theorem t_57_5 : tb_in 57 5 = some (.isub, 0, 0, 0, []) := by decide +kernel
theorem t_57_6 : tb_in 57 6 = some (.istore_n 1, 0, 0, 0, []) := by decide +kernel
theorem t_57_7 : tb_in 57 7 = some (.aload_n 0, 0, 0, 0, []) := by decide +kernel
theorem t_57_8 : tb_in 57 8 = some (.getfield 66, 7, 27, 0, []) := by decide +kernel
theorem t_57_11 : tb_in 57 11 = some (.iload_n 1, 0, 0, 0, []) := by decide +kernel
theorem t_57_12 : tb_in 57 12 = some (.iaload, 0, 0, 0, []) := by decide +kernel
theorem t_57_13 : tb_in 57 13 = some (.istore_n 2, 0, 0, 0, []) := by decide +kernel
theorem t_57_14 : tb_in 57 14 = some (.iconst 2, 0, 0, 2, []) := by decide +kernel
theorem t_57_15 : tb_in 57 15 = some (.istore_n 3, 0, 0, 0, []) := by decide +kernel
theorem t_57_16 : tb_in 57 16 = some (.iconst 0, 0, 0, 0, []) := by decide +kernel
theorem t_57_17 : tb_in 57 17 = some (.istore 4, 0, 0, 0, []) := by decide +kernel
theorem t_57_19 : tb_in 57 19 = some (.iload 4, 0, 0, 0, []) := by decide +kernel
theorem t_57_21 : tb_in 57 21 = some (.aload_n 0, 0, 0, 0, []) := by decide +kernel
theorem t_57_22 : tb_in 57 22 = some (.getfield 56, 7, 18, 0, []) := by decide +kernel
theorem t_57_25 : tb_in 57 25 = some (.iload_n 2, 0, 0, 0, []) := by decide +kernel
theorem t_57_26 : tb_in 57 26 = some (.iaload, 0, 0, 0, []) := by decide +kernel
theorem t_57_27 : tb_in 57 27 = some (.if_icmp .ge 108, 135, 0, 0, []) := by decide +kernel
theorem t_57_30 : tb_in 57 30 = some (.aload_n 0, 0, 0, 0, []) := by decide +kernel
theorem t_57_31 : tb_in 57 31 = some (.getfield 53, 7, 17, 0, []) := by decide +kernel
theorem t_57_34 : tb_in 57 34 = some (.bipush 24, 0, 0, 24, []) := by decide +kernel
theorem t_57_36 : tb_in 57 36 = some (.iload_n 2, 0, 0, 0, []) := by decide +kernel
theorem t_57_37 : tb_in 57 37 = some (.imul, 0, 0, 0, []) := by decide +kernel
theorem t_57_38 : tb_in 57 38 = some (.iload 4, 0, 0, 0, []) := by decide +kernel
theorem t_57_40 : tb_in 57 40 = some (.iadd, 0, 0, 0, []) := by decide +kernel
theorem t_57_41 : tb_in 57 41 = some (.iaload, 0, 0, 0, []) := by decide +kernel
theorem t_57_42 : tb_in 57 42 = some (.istore 5, 0, 0, 0, []) := by decide +kernel
theorem t_57_44 : tb_in 57 44 = some (.iload 5, 0, 0, 0, []) := by decide +kernel
theorem t_57_46 : tb_in 57 46 = some (.bipush 100, 0, 0, 100, []) := by decide +kernel
theorem t_57_48 : tb_in 57 48 = some (.if_icmp .lt 16, 64, 0, 0, []) := by decide +kernel
theorem t_57_51 : tb_in 57 51 = some (.aload_n 0, 0, 0, 0, []) := by decide +kernel
theorem t_57_52 : tb_in 57 52 = some (.iload 5, 0, 0, 0, []) := by decide +kernel
theorem t_57_54 : tb_in 57 54 = some (.bipush 100, 0, 0, 100, []) := by decide +kernel
theorem t_57_56 : tb_in 57 56 = some (.isub, 0, 0, 0, []) := by decide +kernel
theorem t_57_57 : tb_in 57 57 = some (.invokevirtual 138, 55, 2, 0, []) := by decide +kernel
theorem t_57_60 : tb_in 57 60 = some (.ifCond .ne 4, 64, 0, 0, []) := by decide +kernel
theorem t_57_63 : tb_in 57 63 = some (.return_, 0, 0, 0, []) := by decide +kernel
theorem t_57_64 : tb_in 57 64 = some (.iload 5, 0, 0, 0, []) := by decide +kernel
theorem t_57_66 : tb_in 57 66 = some (.bipush 100, 0, 0, 100, []) := by decide +kernel
theorem t_57_68 : tb_in 57 68 = some (.if_icmp .ge 13, 81, 0, 0, []) := by decide +kernel
theorem t_57_71 : tb_in 57 71 = some (.aload_n 0, 0, 0, 0, []) := by decide +kernel
theorem t_57_72 : tb_in 57 72 = some (.getfield 22, 7, 7, 0, []) := by decide +kernel
theorem t_57_75 : tb_in 57 75 = some (.iload 5, 0, 0, 0, []) := by decide +kernel
theorem t_57_77 : tb_in 57 77 = some (.iaload, 0, 0, 0, []) := by decide +kernel
theorem t_57_78 : tb_in 57 78 = some (.goto 13, 91, 0, 0, []) := by decide +kernel
theorem t_57_81 : tb_in 57 81 = some (.aload_n 0, 0, 0, 0, []) := by decide +kernel
theorem t_57_82 : tb_in 57 82 = some (.getfield 44, 7, 14, 0, []) := by decide +kernel
theorem t_57_85 : tb_in 57 85 = some (.iload 5, 0, 0, 0, []) := by decide +kernel
theorem t_57_87 : tb_in 57 87 = some (.bipush 100, 0, 0, 100, []) := by decide +kernel
theorem t_57_89 : tb_in 57 89 = some (.isub, 0, 0, 0, []) := by decide +kernel
theorem t_57_90 : tb_in 57 90 = some (.iaload, 0, 0, 0, []) := by decide +kernel
theorem t_57_91 : tb_in 57 91 = some (.aload_n 0, 0, 0, 0, []) := by decide +kernel
theorem t_57_92 : tb_in 57 92 = some (.getfield 41, 7, 13, 0, []) := by decide +kernel
theorem t_57_95 : tb_in 57 95 = some (.iload_n 2, 0, 0, 0, []) := by decide +kernel
theorem t_57_96 : tb_in 57 96 = some (.iaload, 0, 0, 0, []) := by decide +kernel
theorem t_57_97 : tb_in 57 97 = some (.if_icmp .le 11, 108, 0, 0, []) := by decide +kernel
theorem t_57_100 : tb_in 57 100 = some (.aload_n 0, 0, 0, 0, []) := by decide +kernel
theorem t_57_101 : tb_in 57 101 = some (.getfield 69, 7, 28, 0, []) := by decide +kernel
theorem t_57_104 : tb_in 57 104 = some (.iload_n 1, 0, 0, 0, []) := by decide +kernel
theorem t_57_105 : tb_in 57 105 = some (.iconst 1, 0, 0, 1, []) := by decide +kernel
theorem t_57_106 : tb_in 57 106 = some (.bastore, 0, 0, 0, []) := by decide +kernel
theorem t_57_107 : tb_in 57 107 = some (.return_, 0, 0, 0, []) := by decide +kernel
theorem t_57_108 : tb_in 57 108 = some (.aload_n 0, 0, 0, 0, []) := by decide +kernel
theorem t_57_109 : tb_in 57 109 = some (.iload 5, 0, 0, 0, []) := by decide +kernel
theorem t_57_111 : tb_in 57 111 = some (.invokevirtual 141, 56, 2, 0, []) := by decide +kernel
theorem t_57_114 : tb_in 57 114 = some (.iload_n 3, 0, 0, 0, []) := by decide +kernel
theorem t_57_115 : tb_in 57 115 = some (.if_icmp .ge 12, 127, 0, 0, []) := by decide +kernel
theorem t_57_118 : tb_in 57 118 = some (.aload_n 0, 0, 0, 0, []) := by decide +kernel
theorem t_57_119 : tb_in 57 119 = some (.iload 5, 0, 0, 0, []) := by decide +kernel
theorem t_57_121 : tb_in 57 121 = some (.invokevirtual 141, 56, 2, 0, []) := by decide +kernel
theorem t_57_124 : tb_in 57 124 = some (.goto 4, 128, 0, 0, []) := by decide +kernel
theorem t_57_127 : tb_in 57 127 = some (.iload_n 3, 0, 0, 0, []) := by decide +kernel
theorem t_57_128 : tb_in 57 128 = some (.istore_n 3, 0, 0, 0, []) := by decide +kernel
theorem t_57_129 : tb_in 57 129 = some (.iinc 4 1, 0, 0, 1, []) := by decide +kernel
theorem t_57_132 : tb_in 57 132 = some (.goto (-113), 19, 0, 0, []) := by decide +kernel
theorem t_57_135 : tb_in 57 135 = some (.aload_n 0, 0, 0, 0, []) := by decide +kernel
theorem t_57_136 : tb_in 57 136 = some (.getfield 41, 7, 13, 0, []) := by decide +kernel
theorem t_57_139 : tb_in 57 139 = some (.iload_n 2, 0, 0, 0, []) := by decide +kernel
theorem t_57_140 : tb_in 57 140 = some (.aload_n 0, 0, 0, 0, []) := by decide +kernel
theorem t_57_141 : tb_in 57 141 = some (.getfield 99, 7, 5, 0, []) := by decide +kernel
theorem t_57_144 : tb_in 57 144 = some (.iastore, 0, 0, 0, []) := by decide +kernel
theorem t_57_145 : tb_in 57 145 = some (.aload_n 0, 0, 0, 0, []) := by decide +kernel
theorem t_57_146 : tb_in 57 146 = some (.getfield 47, 7, 15, 0, []) := by decide +kernel
theorem t_57_149 : tb_in 57 149 = some (.iload_n 2, 0, 0, 0, []) := by decide +kernel
theorem t_57_150 : tb_in 57 150 = some (.iload_n 3, 0, 0, 0, []) := by decide +kernel
theorem t_57_151 : tb_in 57 151 = some (.iastore, 0, 0, 0, []) := by decide +kernel
theorem t_57_152 : tb_in 57 152 = some (.aload_n 0, 0, 0, 0, []) := by decide +kernel
theorem t_57_153 : tb_in 57 153 = some (.dup, 0, 0, 0, []) := by decide +kernel
theorem t_57_154 : tb_in 57 154 = some (.getfield 144, 7, 23, 0, []) := by decide +kernel
theorem t_57_157 : tb_in 57 157 = some (.iconst 1, 0, 0, 1, []) := by decide +kernel
theorem t_57_158 : tb_in 57 158 = some (.iadd, 0, 0, 0, []) := by decide +kernel
theorem t_57_159 : tb_in 57 159 = some (.putfield 144, 7, 23, 0, []) := by decide +kernel
theorem t_57_162 : tb_in 57 162 = some (.aload_n 0, 0, 0, 0, []) := by decide +kernel
theorem t_57_163 : tb_in 57 163 = some (.iload_n 2, 0, 0, 0, []) := by decide +kernel
theorem t_57_164 : tb_in 57 164 = some (.invokevirtual 119, 51, 2, 0, []) := by decide +kernel
theorem t_57_167 : tb_in 57 167 = some (.aload_n 0, 0, 0, 0, []) := by decide +kernel
theorem t_57_168 : tb_in 57 168 = some (.dup, 0, 0, 0, []) := by decide +kernel
theorem t_57_169 : tb_in 57 169 = some (.getfield 113, 7, 26, 0, []) := by decide +kernel
theorem t_57_172 : tb_in 57 172 = some (.iconst 1, 0, 0, 1, []) := by decide +kernel
theorem t_57_173 : tb_in 57 173 = some (.isub, 0, 0, 0, []) := by decide +kernel
theorem t_57_174 : tb_in 57 174 = some (.putfield 113, 7, 26, 0, []) := by decide +kernel
theorem t_57_177 : tb_in 57 177 = some (.return_, 0, 0, 0, []) := by decide +kernel
theorem t_58_0 : tb_in 58 0 = some (.iconst 0, 0, 0, 0, []) := by decide +kernel
theorem t_58_1 : tb_in 58 1 = some (.istore_n 2, 0, 0, 0, []) := by decide +kernel
theorem t_58_2 : tb_in 58 2 = some (.iload_n 2, 0, 0, 0, []) := by decide +kernel
theorem t_58_3 : tb_in 58 3 = some (.aload_n 0, 0, 0, 0, []) := by decide +kernel
theorem t_58_4 : tb_in 58 4 = some (.getfield 147, 7, 34, 0, []) := by decide +kernel
theorem t_58_7 : tb_in 58 7 = some (.if_icmp .ge 20, 27, 0, 0, []) := by decide +kernel
theorem t_58_10 : tb_in 58 10 = some (.aload_n 0, 0, 0, 0, []) := by decide +kernel
theorem t_58_11 : tb_in 58 11 = some (.getfield 81, 7, 35, 0, []) := by decide +kernel
theorem t_58_14 : tb_in 58 14 = some (.iload_n 2, 0, 0, 0, []) := by decide +kernel
theorem t_58_15 : tb_in 58 15 = some (.iaload, 0, 0, 0, []) := by decide +kernel
theorem t_58_16 : tb_in 58 16 = some (.iload_n 1, 0, 0, 0, []) := by decide +kernel
theorem t_58_17 : tb_in 58 17 = some (.if_icmp .ne 4, 21, 0, 0, []) := by decide +kernel
theorem t_58_20 : tb_in 58 20 = some (.return_, 0, 0, 0, []) := by decide +kernel
theorem t_58_21 : tb_in 58 21 = some (.iinc 2 1, 0, 0, 1, []) := by decide +kernel
theorem t_58_24 : tb_in 58 24 = some (.goto (-22), 2, 0, 0, []) := by decide +kernel
theorem t_58_27 : tb_in 58 27 = some (.aload_n 0, 0, 0, 0, []) := by decide +kernel
theorem t_58_28 : tb_in 58 28 = some (.getfield 81, 7, 35, 0, []) := by decide +kernel
theorem t_58_31 : tb_in 58 31 = some (.aload_n 0, 0, 0, 0, []) := by decide +kernel
theorem t_58_32 : tb_in 58 32 = some (.getfield 147, 7, 34, 0, []) := by decide +kernel
theorem t_58_35 : tb_in 58 35 = some (.iload_n 1, 0, 0, 0, []) := by decide +kernel
theorem t_58_36 : tb_in 58 36 = some (.iastore, 0, 0, 0, []) := by decide +kernel
theorem t_58_37 : tb_in 58 37 = some (.aload_n 0, 0, 0, 0, []) := by decide +kernel
theorem t_58_38 : tb_in 58 38 = some (.dup, 0, 0, 0, []) := by decide +kernel
theorem t_58_39 : tb_in 58 39 = some (.getfield 147, 7, 34, 0, []) := by decide +kernel
theorem t_58_42 : tb_in 58 42 = some (.iconst 1, 0, 0, 1, []) := by decide +kernel
theorem t_58_43 : tb_in 58 43 = some (.iadd, 0, 0, 0, []) := by decide +kernel
theorem t_58_44 : tb_in 58 44 = some (.putfield 147, 7, 34, 0, []) := by decide +kernel
theorem t_58_47 : tb_in 58 47 = some (.return_, 0, 0, 0, []) := by decide +kernel
theorem t_59_0 : tb_in 59 0 = some (.iconst 1, 0, 0, 1, []) := by decide +kernel
theorem t_59_1 : tb_in 59 1 = some (.istore_n 3, 0, 0, 0, []) := by decide +kernel
theorem t_59_2 : tb_in 59 2 = some (.iload_n 2, 0, 0, 0, []) := by decide +kernel
theorem t_59_3 : tb_in 59 3 = some (.istore 4, 0, 0, 0, []) := by decide +kernel
theorem t_59_5 : tb_in 59 5 = some (.iload_n 3, 0, 0, 0, []) := by decide +kernel
theorem t_59_6 : tb_in 59 6 = some (.ifCond .le 29, 35, 0, 0, []) := by decide +kernel
theorem t_59_9 : tb_in 59 9 = some (.iload_n 3, 0, 0, 0, []) := by decide +kernel
theorem t_59_10 : tb_in 59 10 = some (.aload_n 0, 0, 0, 0, []) := by decide +kernel
theorem t_59_11 : tb_in 59 11 = some (.getfield 13, 7, 3, 0, []) := by decide +kernel
theorem t_59_14 : tb_in 59 14 = some (.bipush 24, 0, 0, 24, []) := by decide +kernel
theorem t_59_16 : tb_in 59 16 = some (.iload_n 1, 0, 0, 0, []) := by decide +kernel
theorem t_59_17 : tb_in 59 17 = some (.imul, 0, 0, 0, []) := by decide +kernel
theorem t_59_18 : tb_in 59 18 = some (.iload 4, 0, 0, 0, []) := by decide +kernel
theorem t_59_20 : tb_in 59 20 = some (.iadd, 0, 0, 0, []) := by decide +kernel
theorem t_59_21 : tb_in 59 21 = some (.iaload, 0, 0, 0, []) := by decide +kernel
theorem t_59_22 : tb_in 59 22 = some (.invokestatic 92, 43, 1, 0, []) := by decide +kernel
theorem t_59_25 : tb_in 59 25 = some (.iadd, 0, 0, 0, []) := by decide +kernel
theorem t_59_26 : tb_in 59 26 = some (.iconst 1, 0, 0, 1, []) := by decide +kernel
theorem t_59_27 : tb_in 59 27 = some (.isub, 0, 0, 0, []) := by decide +kernel
theorem t_59_28 : tb_in 59 28 = some (.istore_n 3, 0, 0, 0, []) := by decide +kernel
theorem t_59_29 : tb_in 59 29 = some (.iinc 4 1, 0, 0, 1, []) := by decide +kernel
theorem t_59_32 : tb_in 59 32 = some (.goto (-27), 5, 0, 0, []) := by decide +kernel
theorem t_59_35 : tb_in 59 35 = some (.iload 4, 0, 0, 0, []) := by decide +kernel
theorem t_59_37 : tb_in 59 37 = some (.ireturn, 0, 0, 0, []) := by decide +kernel
theorem t_60_0 : tb_in 60 0 = some (.aload_n 0, 0, 0, 0, []) := by decide +kernel
theorem t_60_1 : tb_in 60 1 = some (.getfield 150, 7, 30, 0, []) := by decide +kernel
theorem t_60_4 : tb_in 60 4 = some (.iconst 1, 0, 0, 1, []) := by decide +kernel
theorem t_60_5 : tb_in 60 5 = some (.isub, 0, 0, 0, []) := by decide +kernel
theorem t_60_6 : tb_in 60 6 = some (.istore_n 3, 0, 0, 0, []) := by decide +kernel
theorem t_60_7 : tb_in 60 7 = some (.aload_n 0, 0, 0, 0, []) := by decide +kernel
theorem t_60_8 : tb_in 60 8 = some (.getfield 72, 7, 31, 0, []) := by decide +kernel
theorem t_60_11 : tb_in 60 11 = some (.iload_n 3, 0, 0, 0, []) := by decide +kernel
theorem t_60_12 : tb_in 60 12 = some (.iaload, 0, 0, 0, []) := by decide +kernel
theorem t_60_13 : tb_in 60 13 = some (.istore 4, 0, 0, 0, []) := by decide +kernel
theorem t_60_15 : tb_in 60 15 = some (.iload 4, 0, 0, 0, []) := by decide +kernel
theorem t_60_17 : tb_in 60 17 = some (.bipush 103, 0, 0, 103, []) := by decide +kernel
theorem t_60_19 : tb_in 60 19 = some (.if_icmp .lt 10, 29, 0, 0, []) := by decide +kernel
theorem t_60_22 : tb_in 60 22 = some (.iload 4, 0, 0, 0, []) := by decide +kernel
theorem t_60_24 : tb_in 60 24 = some (.bipush 105, 0, 0, 105, []) := by decide +kernel
theorem t_60_26 : tb_in 60 26 = some (.if_icmp .le 17, 43, 0, 0, []) := by decide +kernel
theorem t_60_29 : tb_in 60 29 = some (.iload 4, 0, 0, 0, []) := by decide +kernel
theorem t_60_31 : tb_in 60 31 = some (.bipush 65, 0, 0, 65, []) := by decide +kernel
theorem t_60_33 : tb_in 60 33 = some (.if_icmp .lt 139, 172, 0, 0, []) := by decide +kernel
theorem t_60_36 : tb_in 60 36 = some (.iload 4, 0, 0, 0, []) := by decide +kernel
theorem t_60_38 : tb_in 60 38 = some (.bipush 70, 0, 0, 70, []) := by decide +kernel
theorem t_60_40 : tb_in 60 40 = some (.if_icmp .gt 132, 172, 0, 0, []) := by decide +kernel
theorem t_60_43 : tb_in 60 43 = some (.iload 4, 0, 0, 0, []) := by decide +kernel
theorem t_60_45 : tb_in 60 45 = some (.bipush 70, 0, 0, 70, []) := by decide +kernel
theorem t_60_47 : tb_in 60 47 = some (.if_icmp .gt 7, 54, 0, 0, []) := by decide +kernel
theorem t_60_50 : tb_in 60 50 = some (.iconst 1, 0, 0, 1, []) := by decide +kernel
theorem t_60_51 : tb_in 60 51 = some (.goto 4, 55, 0, 0, []) := by decide +kernel
theorem t_60_54 : tb_in 60 54 = some (.iconst 0, 0, 0, 0, []) := by decide +kernel
theorem t_60_55 : tb_in 60 55 = some (.istore 5, 0, 0, 0, []) := by decide +kernel
theorem t_60_57 : tb_in 60 57 = some (.iload 5, 0, 0, 0, []) := by decide +kernel
theorem t_60_59 : tb_in 60 59 = some (.ifCond .eq 22, 81, 0, 0, []) := by decide +kernel
theorem t_60_62 : tb_in 60 62 = some (.bipush 16, 0, 0, 16, []) := by decide +kernel
theorem t_60_64 : tb_in 60 64 = some (.iload 4, 0, 0, 0, []) := by decide +kernel
theorem t_60_66 : tb_in 60 66 = some (.bipush 65, 0, 0, 65, []) := by decide +kernel
theorem t_60_68 : tb_in 60 68 = some (.isub, 0, 0, 0, []) := by decide +kernel
theorem t_60_69 : tb_in 60 69 = some (.imul, 0, 0, 0, []) := by decide +kernel
theorem t_60_70 : tb_in 60 70 = some (.aload_n 0, 0, 0, 0, []) := by decide +kernel
theorem t_60_71 : tb_in 60 71 = some (.getfield 153, 7, 36, 0, []) := by decide +kernel
theorem t_60_74 : tb_in 60 74 = some (.bipush 15, 0, 0, 15, []) := by decide +kernel
theorem t_60_76 : tb_in 60 76 = some (.iand, 0, 0, 0, []) := by decide +kernel
theorem t_60_77 : tb_in 60 77 = some (.iadd, 0, 0, 0, []) := by decide +kernel
theorem t_60_78 : tb_in 60 78 = some (.goto 19, 97, 0, 0, []) := by decide +kernel
theorem t_60_81 : tb_in 60 81 = some (.bipush 16, 0, 0, 16, []) := by decide +kernel
theorem t_60_83 : tb_in 60 83 = some (.iload 4, 0, 0, 0, []) := by decide +kernel
theorem t_60_85 : tb_in 60 85 = some (.bipush 103, 0, 0, 103, []) := by decide +kernel
theorem t_60_87 : tb_in 60 87 = some (.isub, 0, 0, 0, []) := by decide +kernel
theorem t_60_88 : tb_in 60 88 = some (.imul, 0, 0, 0, []) := by decide +kernel
theorem t_60_89 : tb_in 60 89 = some (.aload_n 0, 0, 0, 0, []) := by decide +kernel
theorem t_60_90 : tb_in 60 90 = some (.getfield 153, 7, 36, 0, []) := by decide +kernel
theorem t_60_93 : tb_in 60 93 = some (.bipush 15, 0, 0, 15, []) := by decide +kernel
theorem t_60_95 : tb_in 60 95 = some (.iand, 0, 0, 0, []) := by decide +kernel
theorem t_60_96 : tb_in 60 96 = some (.iadd, 0, 0, 0, []) := by decide +kernel
theorem t_60_97 : tb_in 60 97 = some (.istore 6, 0, 0, 0, []) := by decide +kernel
theorem t_60_99 : tb_in 60 99 = some (.iload 5, 0, 0, 0, []) := by decide +kernel
theorem t_60_101 : tb_in 60 101 = some (.ifCond .eq 14, 115, 0, 0, []) := by decide +kernel
theorem t_60_104 : tb_in 60 104 = some (.aload_n 0, 0, 0, 0, []) := by decide +kernel
theorem t_60_105 : tb_in 60 105 = some (.iload 6, 0, 0, 0, []) := by decide +kernel
theorem t_60_107 : tb_in 60 107 = some (.invokevirtual 138, 55, 2, 0, []) := by decide +kernel
theorem t_60_110 : tb_in 60 110 = some (.ifCond .ne 5, 115, 0, 0, []) := by decide +kernel
theorem t_60_113 : tb_in 60 113 = some (.iconst (-1), 0, 0, (-1), []) := by decide +kernel
theorem t_60_114 : tb_in 60 114 = some (.ireturn, 0, 0, 0, []) := by decide +kernel
theorem t_60_115 : tb_in 60 115 = some (.aload_n 0, 0, 0, 0, []) := by decide +kernel
theorem t_60_116 : tb_in 60 116 = some (.iload 5, 0, 0, 0, []) := by decide +kernel
theorem t_60_118 : tb_in 60 118 = some (.ifCond .eq 11, 129, 0, 0, []) := by decide +kernel
theorem t_60_121 : tb_in 60 121 = some (.bipush 100, 0, 0, 100, []) := by decide +kernel
theorem t_60_123 : tb_in 60 123 = some (.iload 6, 0, 0, 0, []) := by decide +kernel
theorem t_60_125 : tb_in 60 125 = some (.iadd, 0, 0, 0, []) := by decide +kernel
theorem t_60_126 : tb_in 60 126 = some (.goto 5, 131, 0, 0, []) := by decide +kernel
theorem t_60_129 : tb_in 60 129 = some (.iload 6, 0, 0, 0, []) := by decide +kernel
theorem t_60_131 : tb_in 60 131 = some (.invokevirtual 156, 58, 2, 0, []) := by decide +kernel
theorem t_60_134 : tb_in 60 134 = some (.aload_n 0, 0, 0, 0, []) := by decide +kernel
theorem t_60_135 : tb_in 60 135 = some (.iload 5, 0, 0, 0, []) := by decide +kernel
theorem t_60_137 : tb_in 60 137 = some (.ifCond .eq 13, 150, 0, 0, []) := by decide +kernel
theorem t_60_140 : tb_in 60 140 = some (.aload_n 0, 0, 0, 0, []) := by decide +kernel
theorem t_60_141 : tb_in 60 141 = some (.getfield 38, 7, 12, 0, []) := by decide +kernel
theorem t_60_144 : tb_in 60 144 = some (.iload 6, 0, 0, 0, []) := by decide +kernel
theorem t_60_146 : tb_in 60 146 = some (.iaload, 0, 0, 0, []) := by decide +kernel
theorem t_60_147 : tb_in 60 147 = some (.goto 10, 157, 0, 0, []) := by decide +kernel
theorem t_60_150 : tb_in 60 150 = some (.aload_n 0, 0, 0, 0, []) := by decide +kernel
theorem t_60_151 : tb_in 60 151 = some (.getfield 19, 7, 6, 0, []) := by decide +kernel
theorem t_60_154 : tb_in 60 154 = some (.iload 6, 0, 0, 0, []) := by decide +kernel
theorem t_60_156 : tb_in 60 156 = some (.iaload, 0, 0, 0, []) := by decide +kernel
theorem t_60_157 : tb_in 60 157 = some (.putfield 153, 7, 36, 0, []) := by decide +kernel
theorem t_60_160 : tb_in 60 160 = some (.aload_n 0, 0, 0, 0, []) := by decide +kernel
theorem t_60_161 : tb_in 60 161 = some (.dup, 0, 0, 0, []) := by decide +kernel
theorem t_60_162 : tb_in 60 162 = some (.getfield 150, 7, 30, 0, []) := by decide +kernel
theorem t_60_165 : tb_in 60 165 = some (.iconst 1, 0, 0, 1, []) := by decide +kernel
theorem t_60_166 : tb_in 60 166 = some (.isub, 0, 0, 0, []) := by decide +kernel
theorem t_60_167 : tb_in 60 167 = some (.putfield 150, 7, 30, 0, []) := by decide +kernel
theorem t_60_170 : tb_in 60 170 = some (.iload_n 2, 0, 0, 0, []) := by decide +kernel
theorem t_60_171 : tb_in 60 171 = some (.ireturn, 0, 0, 0, []) := by decide +kernel
theorem t_60_172 : tb_in 60 172 = some (.iload 4, 0, 0, 0, []) := by decide +kernel
theorem t_60_174 : tb_in 60 174 = some (.bipush 63, 0, 0, 63, []) := by decide +kernel
theorem t_60_176 : tb_in 60 176 = some (.if_icmp .ne 48, 224, 0, 0, []) := by decide +kernel
theorem t_60_179 : tb_in 60 179 = some (.aload_n 0, 0, 0, 0, []) := by decide +kernel
theorem t_60_180 : tb_in 60 180 = some (.getfield 75, 7, 32, 0, []) := by decide +kernel
theorem t_60_183 : tb_in 60 183 = some (.iload_n 3, 0, 0, 0, []) := by decide +kernel
theorem t_60_184 : tb_in 60 184 = some (.iaload, 0, 0, 0, []) := by decide +kernel
theorem t_60_185 : tb_in 60 185 = some (.ifCond .ne 39, 224, 0, 0, []) := by decide +kernel
theorem t_60_188 : tb_in 60 188 = some (.aload_n 0, 0, 0, 0, []) := by decide +kernel
theorem t_60_189 : tb_in 60 189 = some (.getfield 75, 7, 32, 0, []) := by decide +kernel
theorem t_60_192 : tb_in 60 192 = some (.iload_n 3, 0, 0, 0, []) := by decide +kernel
theorem t_60_193 : tb_in 60 193 = some (.aload_n 0, 0, 0, 0, []) := by decide +kernel
theorem t_60_194 : tb_in 60 194 = some (.getfield 153, 7, 36, 0, []) := by decide +kernel
theorem t_60_197 : tb_in 60 197 = some (.ifCond .eq 7, 204, 0, 0, []) := by decide +kernel
theorem t_60_200 : tb_in 60 200 = some (.iconst 1, 0, 0, 1, []) := by decide +kernel
theorem t_60_201 : tb_in 60 201 = some (.goto 4, 205, 0, 0, []) := by decide +kernel
theorem t_60_204 : tb_in 60 204 = some (.iconst 2, 0, 0, 2, []) := by decide +kernel
theorem t_60_205 : tb_in 60 205 = some (.iastore, 0, 0, 0, []) := by decide +kernel
theorem t_60_206 : tb_in 60 206 = some (.aload_n 0, 0, 0, 0, []) := by decide +kernel
theorem t_60_207 : tb_in 60 207 = some (.getfield 153, 7, 36, 0, []) := by decide +kernel
theorem t_60_210 : tb_in 60 210 = some (.ifCond .eq 7, 217, 0, 0, []) := by decide +kernel
theorem t_60_213 : tb_in 60 213 = some (.iload_n 2, 0, 0, 0, []) := by decide +kernel
theorem t_60_214 : tb_in 60 214 = some (.goto 9, 223, 0, 0, []) := by decide +kernel
theorem t_60_217 : tb_in 60 217 = some (.aload_n 0, 0, 0, 0, []) := by decide +kernel
theorem t_60_218 : tb_in 60 218 = some (.iload_n 1, 0, 0, 0, []) := by decide +kernel
theorem t_60_219 : tb_in 60 219 = some (.iload_n 2, 0, 0, 0, []) := by decide +kernel
theorem t_60_220 : tb_in 60 220 = some (.invokevirtual 159, 59, 3, 0, []) := by decide +kernel
theorem t_60_223 : tb_in 60 223 = some (.ireturn, 0, 0, 0, []) := by decide +kernel
theorem t_60_224 : tb_in 60 224 = some (.iload 4, 0, 0, 0, []) := by decide +kernel
theorem t_60_226 : tb_in 60 226 = some (.bipush 63, 0, 0, 63, []) := by decide +kernel
theorem t_60_228 : tb_in 60 228 = some (.if_icmp .ne 34, 262, 0, 0, []) := by decide +kernel
theorem t_60_231 : tb_in 60 231 = some (.aload_n 0, 0, 0, 0, []) := by decide +kernel
theorem t_60_232 : tb_in 60 232 = some (.dup, 0, 0, 0, []) := by decide +kernel
theorem t_60_233 : tb_in 60 233 = some (.getfield 150, 7, 30, 0, []) := by decide +kernel
theorem t_60_236 : tb_in 60 236 = some (.iconst 1, 0, 0, 1, []) := by decide +kernel
theorem t_60_237 : tb_in 60 237 = some (.isub, 0, 0, 0, []) := by decide +kernel
theorem t_60_238 : tb_in 60 238 = some (.putfield 150, 7, 30, 0, []) := by decide +kernel
theorem t_60_241 : tb_in 60 241 = some (.aload_n 0, 0, 0, 0, []) := by decide +kernel
theorem t_60_242 : tb_in 60 242 = some (.getfield 75, 7, 32, 0, []) := by decide +kernel
theorem t_60_245 : tb_in 60 245 = some (.iload_n 3, 0, 0, 0, []) := by decide +kernel
theorem t_60_246 : tb_in 60 246 = some (.iaload, 0, 0, 0, []) := by decide +kernel
theorem t_60_247 : tb_in 60 247 = some (.iconst 1, 0, 0, 1, []) := by decide +kernel
theorem t_60_248 : tb_in 60 248 = some (.if_icmp .ne 12, 260, 0, 0, []) := by decide +kernel
theorem t_60_251 : tb_in 60 251 = some (.aload_n 0, 0, 0, 0, []) := by decide +kernel
theorem t_60_252 : tb_in 60 252 = some (.iload_n 1, 0, 0, 0, []) := by decide +kernel
theorem t_60_253 : tb_in 60 253 = some (.iload_n 2, 0, 0, 0, []) := by decide +kernel
theorem t_60_254 : tb_in 60 254 = some (.invokevirtual 159, 59, 3, 0, []) := by decide +kernel
theorem t_60_257 : tb_in 60 257 = some (.goto 4, 261, 0, 0, []) := by decide +kernel
theorem t_60_260 : tb_in 60 260 = some (.iload_n 2, 0, 0, 0, []) := by decide +kernel
theorem t_60_261 : tb_in 60 261 = some (.ireturn, 0, 0, 0, []) := by decide +kernel
theorem t_60_262 : tb_in 60 262 = some (.aload_n 0, 0, 0, 0, []) := by decide +kernel
theorem t_60_263 : tb_in 60 263 = some (.getfield 75, 7, 32, 0, []) := by decide +kernel
theorem t_60_266 : tb_in 60 266 = some (.iload_n 3, 0, 0, 0, []) := by decide +kernel
theorem t_60_267 : tb_in 60 267 = some (.iaload, 0, 0, 0, []) := by decide +kernel
theorem t_60_268 : tb_in 60 268 = some (.ifCond .ne 22, 290, 0, 0, []) := by decide +kernel
theorem t_60_271 : tb_in 60 271 = some (.aload_n 0, 0, 0, 0, []) := by decide +kernel
theorem t_60_272 : tb_in 60 272 = some (.getfield 75, 7, 32, 0, []) := by decide +kernel
theorem t_60_275 : tb_in 60 275 = some (.iload_n 3, 0, 0, 0, []) := by decide +kernel
theorem t_60_276 : tb_in 60 276 = some (.iconst 1, 0, 0, 1, []) := by decide +kernel
theorem t_60_277 : tb_in 60 277 = some (.iastore, 0, 0, 0, []) := by decide +kernel
theorem t_60_278 : tb_in 60 278 = some (.aload_n 0, 0, 0, 0, []) := by decide +kernel
theorem t_60_279 : tb_in 60 279 = some (.getfield 78, 7, 33, 0, []) := by decide +kernel
theorem t_60_282 : tb_in 60 282 = some (.iload_n 3, 0, 0, 0, []) := by decide +kernel
theorem t_60_283 : tb_in 60 283 = some (.aload_n 0, 0, 0, 0, []) := by decide +kernel
theorem t_60_284 : tb_in 60 284 = some (.getfield 153, 7, 36, 0, []) := by decide +kernel
theorem t_60_287 : tb_in 60 287 = some (.iastore, 0, 0, 0, []) := by decide +kernel
theorem t_60_288 : tb_in 60 288 = some (.iload_n 2, 0, 0, 0, []) := by decide +kernel
theorem t_60_289 : tb_in 60 289 = some (.ireturn, 0, 0, 0, []) := by decide +kernel
theorem t_60_290 : tb_in 60 290 = some (.aload_n 0, 0, 0, 0, []) := by decide +kernel
theorem t_60_291 : tb_in 60 291 = some (.iload 4, 0, 0, 0, []) := by decide +kernel
theorem t_60_293 : tb_in 60 293 = some (.bipush 43, 0, 0, 43, []) := by decide +kernel
theorem t_60_295 : tb_in 60 295 = some (.if_icmp .ne 17, 312, 0, 0, []) := by decide +kernel
theorem t_60_298 : tb_in 60 298 = some (.aload_n 0, 0, 0, 0, []) := by decide +kernel
theorem t_60_299 : tb_in 60 299 = some (.getfield 78, 7, 33, 0, []) := by decide +kernel
theorem t_60_302 : tb_in 60 302 = some (.iload_n 3, 0, 0, 0, []) := by decide +kernel
theorem t_60_303 : tb_in 60 303 = some (.iaload, 0, 0, 0, []) := by decide +kernel
theorem t_60_304 : tb_in 60 304 = some (.aload_n 0, 0, 0, 0, []) := by decide +kernel
theorem t_60_305 : tb_in 60 305 = some (.getfield 153, 7, 36, 0, []) := by decide +kernel
theorem t_60_308 : tb_in 60 308 = some (.iadd, 0, 0, 0, []) := by decide +kernel
theorem t_60_309 : tb_in 60 309 = some (.goto 35, 344, 0, 0, []) := by decide +kernel
theorem t_60_312 : tb_in 60 312 = some (.iload 4, 0, 0, 0, []) := by decide +kernel
theorem t_60_314 : tb_in 60 314 = some (.bipush 45, 0, 0, 45, []) := by decide +kernel
theorem t_60_316 : tb_in 60 316 = some (.if_icmp .ne 17, 333, 0, 0, []) := by decide +kernel
theorem t_60_319 : tb_in 60 319 = some (.aload_n 0, 0, 0, 0, []) := by decide +kernel
theorem t_60_320 : tb_in 60 320 = some (.getfield 78, 7, 33, 0, []) := by decide +kernel
theorem t_60_323 : tb_in 60 323 = some (.iload_n 3, 0, 0, 0, []) := by decide +kernel
theorem t_60_324 : tb_in 60 324 = some (.iaload, 0, 0, 0, []) := by decide +kernel
theorem t_60_325 : tb_in 60 325 = some (.aload_n 0, 0, 0, 0, []) := by decide +kernel
theorem t_60_326 : tb_in 60 326 = some (.getfield 153, 7, 36, 0, []) := by decide +kernel
theorem t_60_329 : tb_in 60 329 = some (.isub, 0, 0, 0, []) := by decide +kernel
theorem t_60_330 : tb_in 60 330 = some (.goto 14, 344, 0, 0, []) := by decide +kernel
theorem t_60_333 : tb_in 60 333 = some (.aload_n 0, 0, 0, 0, []) := by decide +kernel
theorem t_60_334 : tb_in 60 334 = some (.getfield 78, 7, 33, 0, []) := by decide +kernel
theorem t_60_337 : tb_in 60 337 = some (.iload_n 3, 0, 0, 0, []) := by decide +kernel
theorem t_60_338 : tb_in 60 338 = some (.iaload, 0, 0, 0, []) := by decide +kernel
theorem t_60_339 : tb_in 60 339 = some (.aload_n 0, 0, 0, 0, []) := by decide +kernel
theorem t_60_340 : tb_in 60 340 = some (.getfield 153, 7, 36, 0, []) := by decide +kernel
theorem t_60_343 : tb_in 60 343 = some (.imul, 0, 0, 0, []) := by decide +kernel
theorem t_60_344 : tb_in 60 344 = some (.putfield 153, 7, 36, 0, []) := by decide +kernel
theorem t_60_347 : tb_in 60 347 = some (.aload_n 0, 0, 0, 0, []) := by decide +kernel
theorem t_60_348 : tb_in 60 348 = some (.dup, 0, 0, 0, []) := by decide +kernel
theorem t_60_349 : tb_in 60 349 = some (.getfield 150, 7, 30, 0, []) := by decide +kernel
theorem t_60_352 : tb_in 60 352 = some (.iconst 1, 0, 0, 1, []) := by decide +kernel
theorem t_60_353 : tb_in 60 353 = some (.isub, 0, 0, 0, []) := by decide +kernel
theorem t_60_354 : tb_in 60 354 = some (.putfield 150, 7, 30, 0, []) := by decide +kernel
theorem t_60_357 : tb_in 60 357 = some (.iload_n 2, 0, 0, 0, []) := by decide +kernel
theorem t_60_358 : tb_in 60 358 = some (.ireturn, 0, 0, 0, []) := by decide +kernel
theorem t_61_0 : tb_in 61 0 = some (.aload_n 0, 0, 0, 0, []) := by decide +kernel
theorem t_61_1 : tb_in 61 1 = some (.iconst 0, 0, 0, 0, []) := by decide +kernel
theorem t_61_2 : tb_in 61 2 = some (.putfield 150, 7, 30, 0, []) := by decide +kernel
theorem t_61_5 : tb_in 61 5 = some (.aload_n 0, 0, 0, 0, []) := by decide +kernel
theorem t_61_6 : tb_in 61 6 = some (.iconst 0, 0, 0, 0, []) := by decide +kernel
theorem t_61_7 : tb_in 61 7 = some (.putfield 147, 7, 34, 0, []) := by decide +kernel
theorem t_61_10 : tb_in 61 10 = some (.iconst 0, 0, 0, 0, []) := by decide +kernel
theorem t_61_11 : tb_in 61 11 = some (.istore_n 3, 0, 0, 0, []) := by decide +kernel
theorem t_61_12 : tb_in 61 12 = some (.iconst 1, 0, 0, 1, []) := by decide +kernel
theorem t_61_13 : tb_in 61 13 = some (.istore 4, 0, 0, 0, []) := by decide +kernel
theorem t_61_15 : tb_in 61 15 = some (.iload 4, 0, 0, 0, []) := by decide +kernel
theorem t_61_17 : tb_in 61 17 = some (.ifCond .eq 141, 158, 0, 0, []) := by decide +kernel
theorem t_61_20 : tb_in 61 20 = some (.aload_n 0, 0, 0, 0, []) := by decide +kernel
theorem t_61_21 : tb_in 61 21 = some (.getfield 13, 7, 3, 0, []) := by decide +kernel
theorem t_61_24 : tb_in 61 24 = some (.bipush 24, 0, 0, 24, []) := by decide +kernel
theorem t_61_26 : tb_in 61 26 = some (.iload_n 1, 0, 0, 0, []) := by decide +kernel
theorem t_61_27 : tb_in 61 27 = some (.imul, 0, 0, 0, []) := by decide +kernel
theorem t_61_28 : tb_in 61 28 = some (.iload_n 3, 0, 0, 0, []) := by decide +kernel
theorem t_61_29 : tb_in 61 29 = some (.iadd, 0, 0, 0, []) := by decide +kernel
theorem t_61_30 : tb_in 61 30 = some (.iaload, 0, 0, 0, []) := by decide +kernel
theorem t_61_31 : tb_in 61 31 = some (.istore 5, 0, 0, 0, []) := by decide +kernel
theorem t_61_33 : tb_in 61 33 = some (.iinc 3 1, 0, 0, 1, []) := by decide +kernel
theorem t_61_36 : tb_in 61 36 = some (.iload 5, 0, 0, 0, []) := by decide +kernel
theorem t_61_38 : tb_in 61 38 = some (.invokestatic 92, 43, 1, 0, []) := by decide +kernel
theorem t_61_41 : tb_in 61 41 = some (.ifCond .le 37, 78, 0, 0, []) := by decide +kernel
theorem t_61_44 : tb_in 61 44 = some (.aload_n 0, 0, 0, 0, []) := by decide +kernel
theorem t_61_45 : tb_in 61 45 = some (.getfield 72, 7, 31, 0, []) := by decide +kernel
theorem t_61_48 : tb_in 61 48 = some (.aload_n 0, 0, 0, 0, []) := by decide +kernel
theorem t_61_49 : tb_in 61 49 = some (.getfield 150, 7, 30, 0, []) := by decide +kernel
theorem t_61_52 : tb_in 61 52 = some (.iload 5, 0, 0, 0, []) := by decide +kernel
theorem t_61_54 : tb_in 61 54 = some (.iastore, 0, 0, 0, []) := by decide +kernel
theorem t_61_55 : tb_in 61 55 = some (.aload_n 0, 0, 0, 0, []) := by decide +kernel
theorem t_61_56 : tb_in 61 56 = some (.getfield 75, 7, 32, 0, []) := by decide +kernel
theorem t_61_59 : tb_in 61 59 = some (.aload_n 0, 0, 0, 0, []) := by decide +kernel
theorem t_61_60 : tb_in 61 60 = some (.getfield 150, 7, 30, 0, []) := by decide +kernel
theorem t_61_63 : tb_in 61 63 = some (.iconst 0, 0, 0, 0, []) := by decide +kernel
theorem t_61_64 : tb_in 61 64 = some (.iastore, 0, 0, 0, []) := by decide +kernel
theorem t_61_65 : tb_in 61 65 = some (.aload_n 0, 0, 0, 0, []) := by decide +kernel
theorem t_61_66 : tb_in 61 66 = some (.dup, 0, 0, 0, []) := by decide +kernel
theorem t_61_67 : tb_in 61 67 = some (.getfield 150, 7, 30, 0, []) := by decide +kernel
theorem t_61_70 : tb_in 61 70 = some (.iconst 1, 0, 0, 1, []) := by decide +kernel
theorem t_61_71 : tb_in 61 71 = some (.iadd, 0, 0, 0, []) := by decide +kernel
theorem t_61_72 : tb_in 61 72 = some (.putfield 150, 7, 30, 0, []) := by decide +kernel
theorem t_61_75 : tb_in 61 75 = some (.goto 80, 155, 0, 0, []) := by decide +kernel
theorem t_61_78 : tb_in 61 78 = some (.aload_n 0, 0, 0, 0, []) := by decide +kernel
theorem t_61_79 : tb_in 61 79 = some (.iload 5, 0, 0, 0, []) := by decide +kernel
theorem t_61_81 : tb_in 61 81 = some (.bipush 107, 0, 0, 107, []) := by decide +kernel
theorem t_61_83 : tb_in 61 83 = some (.if_icmp .ne 7, 90, 0, 0, []) := by decide +kernel
theorem t_61_86 : tb_in 61 86 = some (.iload_n 2, 0, 0, 0, []) := by decide +kernel
theorem t_61_87 : tb_in 61 87 = some (.goto 8, 95, 0, 0, []) := by decide +kernel
theorem t_61_90 : tb_in 61 90 = some (.iload 5, 0, 0, 0, []) := by decide +kernel
theorem t_61_92 : tb_in 61 92 = some (.bipush 48, 0, 0, 48, []) := by decide +kernel
theorem t_61_94 : tb_in 61 94 = some (.isub, 0, 0, 0, []) := by decide +kernel
theorem t_61_95 : tb_in 61 95 = some (.putfield 153, 7, 36, 0, []) := by decide +kernel
theorem t_61_98 : tb_in 61 98 = some (.aload_n 0, 0, 0, 0, []) := by decide +kernel
theorem t_61_99 : tb_in 61 99 = some (.getfield 150, 7, 30, 0, []) := by decide +kernel
theorem t_61_102 : tb_in 61 102 = some (.iconst 1, 0, 0, 1, []) := by decide +kernel
theorem t_61_103 : tb_in 61 103 = some (.iadd, 0, 0, 0, []) := by decide +kernel
theorem t_61_104 : tb_in 61 104 = some (.istore 6, 0, 0, 0, []) := by decide +kernel
theorem t_61_106 : tb_in 61 106 = some (.aload_n 0, 0, 0, 0, []) := by decide +kernel
theorem t_61_107 : tb_in 61 107 = some (.getfield 150, 7, 30, 0, []) := by decide +kernel
theorem t_61_110 : tb_in 61 110 = some (.ifCond .le 31, 141, 0, 0, []) := by decide +kernel
theorem t_61_113 : tb_in 61 113 = some (.aload_n 0, 0, 0, 0, []) := by decide +kernel
theorem t_61_114 : tb_in 61 114 = some (.getfield 150, 7, 30, 0, []) := by decide +kernel
theorem t_61_117 : tb_in 61 117 = some (.iload 6, 0, 0, 0, []) := by decide +kernel
theorem t_61_119 : tb_in 61 119 = some (.if_icmp .ge 22, 141, 0, 0, []) := by decide +kernel
theorem t_61_122 : tb_in 61 122 = some (.aload_n 0, 0, 0, 0, []) := by decide +kernel
theorem t_61_123 : tb_in 61 123 = some (.getfield 150, 7, 30, 0, []) := by decide +kernel
theorem t_61_126 : tb_in 61 126 = some (.istore 6, 0, 0, 0, []) := by decide +kernel
theorem t_61_128 : tb_in 61 128 = some (.aload_n 0, 0, 0, 0, []) := by decide +kernel
theorem t_61_129 : tb_in 61 129 = some (.iload_n 1, 0, 0, 0, []) := by decide +kernel
theorem t_61_130 : tb_in 61 130 = some (.iload_n 3, 0, 0, 0, []) := by decide +kernel
theorem t_61_131 : tb_in 61 131 = some (.invokevirtual 163, 60, 3, 0, []) := by decide +kernel
theorem t_61_134 : tb_in 61 134 = some (.istore_n 3, 0, 0, 0, []) := by decide +kernel
theorem t_61_135 : tb_in 61 135 = some (.iload_n 3, 0, 0, 0, []) := by decide +kernel
theorem t_61_136 : tb_in 61 136 = some (.ifCond .ge (-30), 106, 0, 0, []) := by decide +kernel
theorem t_61_139 : tb_in 61 139 = some (.iconst 0, 0, 0, 0, []) := by decide +kernel
theorem t_61_140 : tb_in 61 140 = some (.ireturn, 0, 0, 0, []) := by decide +kernel
theorem t_61_141 : tb_in 61 141 = some (.aload_n 0, 0, 0, 0, []) := by decide +kernel
theorem t_61_142 : tb_in 61 142 = some (.getfield 150, 7, 30, 0, []) := by decide +kernel
theorem t_61_145 : tb_in 61 145 = some (.ifCond .le 7, 152, 0, 0, []) := by decide +kernel
theorem t_61_148 : tb_in 61 148 = some (.iconst 1, 0, 0, 1, []) := by decide +kernel
theorem t_61_149 : tb_in 61 149 = some (.goto 4, 153, 0, 0, []) := by decide +kernel
theorem t_61_152 : tb_in 61 152 = some (.iconst 0, 0, 0, 0, []) := by decide +kernel
theorem t_61_153 : tb_in 61 153 = some (.istore 4, 0, 0, 0, []) := by decide +kernel
theorem t_61_155 : tb_in 61 155 = some (.goto (-140), 15, 0, 0, []) := by decide +kernel
theorem t_61_158 : tb_in 61 158 = some (.iconst 1, 0, 0, 1, []) := by decide +kernel
theorem t_61_159 : tb_in 61 159 = some (.ireturn, 0, 0, 0, []) := by decide +kernel
theorem t_62_0 : tb_in 62 0 = some (.aload_n 0, 0, 0, 0, []) := by decide +kernel
theorem t_62_1 : tb_in 62 1 = some (.getfield 66, 7, 27, 0, []) := by decide +kernel
theorem t_62_4 : tb_in 62 4 = some (.aload_n 0, 0, 0, 0, []) := by decide +kernel
theorem t_62_5 : tb_in 62 5 = some (.getfield 113, 7, 26, 0, []) := by decide +kernel
theorem t_62_8 : tb_in 62 8 = some (.iconst 1, 0, 0, 1, []) := by decide +kernel
theorem t_62_9 : tb_in 62 9 = some (.isub, 0, 0, 0, []) := by decide +kernel
theorem t_62_10 : tb_in 62 10 = some (.iaload, 0, 0, 0, []) := by decide +kernel
theorem t_62_11 : tb_in 62 11 = some (.istore_n 1, 0, 0, 0, []) := by decide +kernel
theorem t_62_12 : tb_in 62 12 = some (.aload_n 0, 0, 0, 0, []) := by decide +kernel
theorem t_62_13 : tb_in 62 13 = some (.iload_n 1, 0, 0, 0, []) := by decide +kernel
theorem t_62_14 : tb_in 62 14 = some (.bipush 16, 0, 0, 16, []) := by decide +kernel
theorem t_62_16 : tb_in 62 16 = some (.idiv, 0, 0, 0, []) := by decide +kernel
theorem t_62_17 : tb_in 62 17 = some (.iload_n 1, 0, 0, 0, []) := by decide +kernel
theorem t_62_18 : tb_in 62 18 = some (.bipush 16, 0, 0, 16, []) := by decide +kernel
theorem t_62_20 : tb_in 62 20 = some (.irem, 0, 0, 0, []) := by decide +kernel
theorem t_62_21 : tb_in 62 21 = some (.invokevirtual 166, 61, 3, 0, []) := by decide +kernel
theorem t_62_24 : tb_in 62 24 = some (.ifCond .ne 4, 28, 0, 0, []) := by decide +kernel
theorem t_62_27 : tb_in 62 27 = some (.return_, 0, 0, 0, []) := by decide +kernel
theorem t_62_28 : tb_in 62 28 = some (.iconst 2, 0, 0, 2, []) := by decide +kernel
theorem t_62_29 : tb_in 62 29 = some (.istore_n 2, 0, 0, 0, []) := by decide +kernel
theorem t_62_30 : tb_in 62 30 = some (.iconst 0, 0, 0, 0, []) := by decide +kernel
theorem t_62_31 : tb_in 62 31 = some (.istore_n 3, 0, 0, 0, []) := by decide +kernel
theorem t_62_32 : tb_in 62 32 = some (.iload_n 3, 0, 0, 0, []) := by decide +kernel
theorem t_62_33 : tb_in 62 33 = some (.aload_n 0, 0, 0, 0, []) := by decide +kernel
theorem t_62_34 : tb_in 62 34 = some (.getfield 147, 7, 34, 0, []) := by decide +kernel
theorem t_62_37 : tb_in 62 37 = some (.if_icmp .ge 55, 92, 0, 0, []) := by decide +kernel
theorem t_62_40 : tb_in 62 40 = some (.aload_n 0, 0, 0, 0, []) := by decide +kernel
theorem t_62_41 : tb_in 62 41 = some (.getfield 53, 7, 17, 0, []) := by decide +kernel
theorem t_62_44 : tb_in 62 44 = some (.bipush 24, 0, 0, 24, []) := by decide +kernel
theorem t_62_46 : tb_in 62 46 = some (.iload_n 1, 0, 0, 0, []) := by decide +kernel
theorem t_62_47 : tb_in 62 47 = some (.imul, 0, 0, 0, []) := by decide +kernel
theorem t_62_48 : tb_in 62 48 = some (.iload_n 3, 0, 0, 0, []) := by decide +kernel
theorem t_62_49 : tb_in 62 49 = some (.iadd, 0, 0, 0, []) := by decide +kernel
theorem t_62_50 : tb_in 62 50 = some (.aload_n 0, 0, 0, 0, []) := by decide +kernel
theorem t_62_51 : tb_in 62 51 = some (.getfield 81, 7, 35, 0, []) := by decide +kernel
theorem t_62_54 : tb_in 62 54 = some (.iload_n 3, 0, 0, 0, []) := by decide +kernel
theorem t_62_55 : tb_in 62 55 = some (.iaload, 0, 0, 0, []) := by decide +kernel
theorem t_62_56 : tb_in 62 56 = some (.iastore, 0, 0, 0, []) := by decide +kernel
theorem t_62_57 : tb_in 62 57 = some (.aload_n 0, 0, 0, 0, []) := by decide +kernel
theorem t_62_58 : tb_in 62 58 = some (.aload_n 0, 0, 0, 0, []) := by decide +kernel
theorem t_62_59 : tb_in 62 59 = some (.getfield 81, 7, 35, 0, []) := by decide +kernel
theorem t_62_62 : tb_in 62 62 = some (.iload_n 3, 0, 0, 0, []) := by decide +kernel
theorem t_62_63 : tb_in 62 63 = some (.iaload, 0, 0, 0, []) := by decide +kernel
theorem t_62_64 : tb_in 62 64 = some (.invokevirtual 141, 56, 2, 0, []) := by decide +kernel
theorem t_62_67 : tb_in 62 67 = some (.iload_n 2, 0, 0, 0, []) := by decide +kernel
theorem t_62_68 : tb_in 62 68 = some (.if_icmp .ge 16, 84, 0, 0, []) := by decide +kernel
theorem t_62_71 : tb_in 62 71 = some (.aload_n 0, 0, 0, 0, []) := by decide +kernel
theorem t_62_72 : tb_in 62 72 = some (.aload_n 0, 0, 0, 0, []) := by decide +kernel
theorem t_62_73 : tb_in 62 73 = some (.getfield 81, 7, 35, 0, []) := by decide +kernel
theorem t_62_76 : tb_in 62 76 = some (.iload_n 3, 0, 0, 0, []) := by decide +kernel
theorem t_62_77 : tb_in 62 77 = some (.iaload, 0, 0, 0, []) := by decide +kernel
theorem t_62_78 : tb_in 62 78 = some (.invokevirtual 141, 56, 2, 0, []) := by decide +kernel
theorem t_62_81 : tb_in 62 81 = some (.goto 4, 85, 0, 0, []) := by decide +kernel
theorem t_62_84 : tb_in 62 84 = some (.iload_n 2, 0, 0, 0, []) := by decide +kernel
theorem t_62_85 : tb_in 62 85 = some (.istore_n 2, 0, 0, 0, []) := by decide +kernel
theorem t_62_86 : tb_in 62 86 = some (.iinc 3 1, 0, 0, 1, []) := by decide +kernel
theorem t_62_89 : tb_in 62 89 = some (.goto (-57), 32, 0, 0, []) := by decide +kernel
theorem t_62_92 : tb_in 62 92 = some (.aload_n 0, 0, 0, 0, []) := by decide +kernel
theorem t_62_93 : tb_in 62 93 = some (.getfield 44, 7, 14, 0, []) := by decide +kernel
theorem t_62_96 : tb_in 62 96 = some (.iload_n 1, 0, 0, 0, []) := by decide +kernel
theorem t_62_97 : tb_in 62 97 = some (.aload_n 0, 0, 0, 0, []) := by decide +kernel
theorem t_62_98 : tb_in 62 98 = some (.getfield 34, 7, 11, 0, []) := by decide +kernel
theorem t_62_101 : tb_in 62 101 = some (.iload_n 1, 0, 0, 0, []) := by decide +kernel
theorem t_62_102 : tb_in 62 102 = some (.baload, 0, 0, 0, []) := by decide +kernel
theorem t_62_103 : tb_in 62 103 = some (.ifCond .eq 25, 128, 0, 0, []) := by decide +kernel
theorem t_62_106 : tb_in 62 106 = some (.aload_n 0, 0, 0, 0, []) := by decide +kernel
theorem t_62_107 : tb_in 62 107 = some (.getfield 38, 7, 12, 0, []) := by decide +kernel
theorem t_62_110 : tb_in 62 110 = some (.iload_n 1, 0, 0, 0, []) := by decide +kernel
theorem t_62_111 : tb_in 62 111 = some (.iaload, 0, 0, 0, []) := by decide +kernel
theorem t_62_112 : tb_in 62 112 = some (.aload_n 0, 0, 0, 0, []) := by decide +kernel
theorem t_62_113 : tb_in 62 113 = some (.getfield 153, 7, 36, 0, []) := by decide +kernel
theorem t_62_116 : tb_in 62 116 = some (.if_icmp .ne 12, 128, 0, 0, []) := by decide +kernel
theorem t_62_119 : tb_in 62 119 = some (.aload_n 0, 0, 0, 0, []) := by decide +kernel
theorem t_62_120 : tb_in 62 120 = some (.getfield 44, 7, 14, 0, []) := by decide +kernel
theorem t_62_123 : tb_in 62 123 = some (.iload_n 1, 0, 0, 0, []) := by decide +kernel
theorem t_62_124 : tb_in 62 124 = some (.iaload, 0, 0, 0, []) := by decide +kernel
theorem t_62_125 : tb_in 62 125 = some (.goto 7, 132, 0, 0, []) := by decide +kernel
theorem t_62_128 : tb_in 62 128 = some (.aload_n 0, 0, 0, 0, []) := by decide +kernel
theorem t_62_129 : tb_in 62 129 = some (.getfield 99, 7, 5, 0, []) := by decide +kernel
theorem t_62_132 : tb_in 62 132 = some (.iastore, 0, 0, 0, []) := by decide +kernel
theorem t_62_133 : tb_in 62 133 = some (.aload_n 0, 0, 0, 0, []) := by decide +kernel
theorem t_62_134 : tb_in 62 134 = some (.getfield 34, 7, 11, 0, []) := by decide +kernel
theorem t_62_137 : tb_in 62 137 = some (.iload_n 1, 0, 0, 0, []) := by decide +kernel
theorem t_62_138 : tb_in 62 138 = some (.iconst 1, 0, 0, 1, []) := by decide +kernel
theorem t_62_139 : tb_in 62 139 = some (.bastore, 0, 0, 0, []) := by decide +kernel
theorem t_62_140 : tb_in 62 140 = some (.aload_n 0, 0, 0, 0, []) := by decide +kernel
theorem t_62_141 : tb_in 62 141 = some (.getfield 38, 7, 12, 0, []) := by decide +kernel
theorem t_62_144 : tb_in 62 144 = some (.iload_n 1, 0, 0, 0, []) := by decide +kernel
theorem t_62_145 : tb_in 62 145 = some (.aload_n 0, 0, 0, 0, []) := by decide +kernel
theorem t_62_146 : tb_in 62 146 = some (.getfield 153, 7, 36, 0, []) := by decide +kernel
theorem t_62_149 : tb_in 62 149 = some (.iastore, 0, 0, 0, []) := by decide +kernel
theorem t_62_150 : tb_in 62 150 = some (.aload_n 0, 0, 0, 0, []) := by decide +kernel
theorem t_62_151 : tb_in 62 151 = some (.getfield 56, 7, 18, 0, []) := by decide +kernel
theorem t_62_154 : tb_in 62 154 = some (.iload_n 1, 0, 0, 0, []) := by decide +kernel
theorem t_62_155 : tb_in 62 155 = some (.aload_n 0, 0, 0, 0, []) := by decide +kernel
theorem t_62_156 : tb_in 62 156 = some (.getfield 147, 7, 34, 0, []) := by decide +kernel
theorem t_62_159 : tb_in 62 159 = some (.iastore, 0, 0, 0, []) := by decide +kernel
theorem t_62_160 : tb_in 62 160 = some (.aload_n 0, 0, 0, 0, []) := by decide +kernel
theorem t_62_161 : tb_in 62 161 = some (.getfield 41, 7, 13, 0, []) := by decide +kernel
theorem t_62_164 : tb_in 62 164 = some (.iload_n 1, 0, 0, 0, []) := by decide +kernel
theorem t_62_165 : tb_in 62 165 = some (.aload_n 0, 0, 0, 0, []) := by decide +kernel
theorem t_62_166 : tb_in 62 166 = some (.getfield 99, 7, 5, 0, []) := by decide +kernel
theorem t_62_169 : tb_in 62 169 = some (.iastore, 0, 0, 0, []) := by decide +kernel
theorem t_62_170 : tb_in 62 170 = some (.aload_n 0, 0, 0, 0, []) := by decide +kernel
theorem t_62_171 : tb_in 62 171 = some (.getfield 47, 7, 15, 0, []) := by decide +kernel
theorem t_62_174 : tb_in 62 174 = some (.iload_n 1, 0, 0, 0, []) := by decide +kernel
theorem t_62_175 : tb_in 62 175 = some (.iload_n 2, 0, 0, 0, []) := by decide +kernel
theorem t_62_176 : tb_in 62 176 = some (.iastore, 0, 0, 0, []) := by decide +kernel
theorem t_62_177 : tb_in 62 177 = some (.aload_n 0, 0, 0, 0, []) := by decide +kernel
theorem t_62_178 : tb_in 62 178 = some (.getfield 50, 7, 16, 0, []) := by decide +kernel
theorem t_62_181 : tb_in 62 181 = some (.iload_n 1, 0, 0, 0, []) := by decide +kernel
theorem t_62_182 : tb_in 62 182 = some (.iconst 0, 0, 0, 0, []) := by decide +kernel
theorem t_62_183 : tb_in 62 183 = some (.bastore, 0, 0, 0, []) := by decide +kernel
theorem t_62_184 : tb_in 62 184 = some (.aload_n 0, 0, 0, 0, []) := by decide +kernel
theorem t_62_185 : tb_in 62 185 = some (.dup, 0, 0, 0, []) := by decide +kernel
theorem t_62_186 : tb_in 62 186 = some (.getfield 170, 7, 22, 0, []) := by decide +kernel
theorem t_62_189 : tb_in 62 189 = some (.iconst 1, 0, 0, 1, []) := by decide +kernel
theorem t_62_190 : tb_in 62 190 = some (.iadd, 0, 0, 0, []) := by decide +kernel
theorem t_62_191 : tb_in 62 191 = some (.putfield 170, 7, 22, 0, []) := by decide +kernel
theorem t_62_194 : tb_in 62 194 = some (.aload_n 0, 0, 0, 0, []) := by decide +kernel
theorem t_62_195 : tb_in 62 195 = some (.iload_n 1, 0, 0, 0, []) := by decide +kernel
theorem t_62_196 : tb_in 62 196 = some (.invokevirtual 119, 51, 2, 0, []) := by decide +kernel
theorem t_62_199 : tb_in 62 199 = some (.aload_n 0, 0, 0, 0, []) := by decide +kernel
theorem t_62_200 : tb_in 62 200 = some (.dup, 0, 0, 0, []) := by decide +kernel
theorem t_62_201 : tb_in 62 201 = some (.getfield 113, 7, 26, 0, []) := by decide +kernel
theorem t_62_204 : tb_in 62 204 = some (.iconst 1, 0, 0, 1, []) := by decide +kernel
theorem t_62_205 : tb_in 62 205 = some (.isub, 0, 0, 0, []) := by decide +kernel
theorem t_62_206 : tb_in 62 206 = some (.putfield 113, 7, 26, 0, []) := by decide +kernel
theorem t_62_209 : tb_in 62 209 = some (.return_, 0, 0, 0, []) := by decide +kernel
theorem t_63_0 : tb_in 63 0 = some (.iload_n 0, 0, 0, 0, []) := by decide +kernel
theorem t_63_1 : tb_in 63 1 = some (.ifCond .lt 15, 16, 0, 0, []) := by decide +kernel
theorem t_63_4 : tb_in 63 4 = some (.iload_n 0, 0, 0, 0, []) := by decide +kernel
theorem t_63_5 : tb_in 63 5 = some (.iconst 5, 0, 0, 5, []) := by decide +kernel
theorem t_63_6 : tb_in 63 6 = some (.if_icmp .gt 10, 16, 0, 0, []) := by decide +kernel
theorem t_63_9 : tb_in 63 9 = some (.iload_n 1, 0, 0, 0, []) := by decide +kernel
theorem t_63_10 : tb_in 63 10 = some (.invokestatic 102, 47, 1, 0, []) := by decide +kernel
theorem t_63_13 : tb_in 63 13 = some (.ifCond .eq 7, 20, 0, 0, []) := by decide +kernel
theorem t_63_16 : tb_in 63 16 = some (.iconst 1, 0, 0, 1, []) := by decide +kernel
theorem t_63_17 : tb_in 63 17 = some (.goto 4, 21, 0, 0, []) := by decide +kernel
theorem t_63_20 : tb_in 63 20 = some (.iconst 0, 0, 0, 0, []) := by decide +kernel
theorem t_63_21 : tb_in 63 21 = some (.ireturn, 0, 0, 0, []) := by decide +kernel
theorem t_64_0 : tb_in 64 0 = some (.iconst 0, 0, 0, 0, []) := by decide +kernel
theorem t_64_1 : tb_in 64 1 = some (.istore_n 1, 0, 0, 0, []) := by decide +kernel
theorem t_64_2 : tb_in 64 2 = some (.iconst 0, 0, 0, 0, []) := by decide +kernel
theorem t_64_3 : tb_in 64 3 = some (.istore_n 2, 0, 0, 0, []) := by decide +kernel
theorem t_64_4 : tb_in 64 4 = some (.iload_n 2, 0, 0, 0, []) := by decide +kernel
theorem t_64_5 : tb_in 64 5 = some (.bipush 96, 0, 0, 96, []) := by decide +kernel
theorem t_64_7 : tb_in 64 7 = some (.if_icmp .ge 26, 33, 0, 0, []) := by decide +kernel
theorem t_64_10 : tb_in 64 10 = some (.aload_n 0, 0, 0, 0, []) := by decide +kernel
theorem t_64_11 : tb_in 64 11 = some (.getfield 34, 7, 11, 0, []) := by decide +kernel
theorem t_64_14 : tb_in 64 14 = some (.iload_n 2, 0, 0, 0, []) := by decide +kernel
theorem t_64_15 : tb_in 64 15 = some (.baload, 0, 0, 0, []) := by decide +kernel
theorem t_64_16 : tb_in 64 16 = some (.ifCond .eq 9, 25, 0, 0, []) := by decide +kernel
theorem t_64_19 : tb_in 64 19 = some (.iload_n 1, 0, 0, 0, []) := by decide +kernel
theorem t_64_20 : tb_in 64 20 = some (.iconst 1, 0, 0, 1, []) := by decide +kernel
theorem t_64_21 : tb_in 64 21 = some (.iadd, 0, 0, 0, []) := by decide +kernel
theorem t_64_22 : tb_in 64 22 = some (.goto 4, 26, 0, 0, []) := by decide +kernel
theorem t_64_25 : tb_in 64 25 = some (.iload_n 1, 0, 0, 0, []) := by decide +kernel
theorem t_64_26 : tb_in 64 26 = some (.istore_n 1, 0, 0, 0, []) := by decide +kernel
theorem t_64_27 : tb_in 64 27 = some (.iinc 2 1, 0, 0, 1, []) := by decide +kernel
theorem t_64_30 : tb_in 64 30 = some (.goto (-26), 4, 0, 0, []) := by decide +kernel
theorem t_64_33 : tb_in 64 33 = some (.iload_n 1, 0, 0, 0, []) := by decide +kernel
theorem t_64_34 : tb_in 64 34 = some (.ireturn, 0, 0, 0, []) := by decide +kernel
theorem t_65_0 : tb_in 65 0 = some (.iconst 0, 0, 0, 0, []) := by decide +kernel
theorem t_65_1 : tb_in 65 1 = some (.istore_n 2, 0, 0, 0, []) := by decide +kernel
theorem t_65_2 : tb_in 65 2 = some (.iload_n 2, 0, 0, 0, []) := by decide +kernel
theorem t_65_3 : tb_in 65 3 = some (.bipush 96, 0, 0, 96, []) := by decide +kernel
theorem t_65_5 : tb_in 65 5 = some (.if_icmp .ge 77, 82, 0, 0, []) := by decide +kernel
theorem t_65_8 : tb_in 65 8 = some (.iconst 0, 0, 0, 0, []) := by decide +kernel
theorem t_65_9 : tb_in 65 9 = some (.istore_n 3, 0, 0, 0, []) := by decide +kernel
theorem t_65_10 : tb_in 65 10 = some (.iconst 0, 0, 0, 0, []) := by decide +kernel
theorem t_65_11 : tb_in 65 11 = some (.istore 4, 0, 0, 0, []) := by decide +kernel
theorem t_65_13 : tb_in 65 13 = some (.iload 4, 0, 0, 0, []) := by decide +kernel
theorem t_65_15 : tb_in 65 15 = some (.bipush 96, 0, 0, 96, []) := by decide +kernel
theorem t_65_17 : tb_in 65 17 = some (.if_icmp .ge 43, 60, 0, 0, []) := by decide +kernel
theorem t_65_20 : tb_in 65 20 = some (.aload_n 0, 0, 0, 0, []) := by decide +kernel
theorem t_65_21 : tb_in 65 21 = some (.getfield 34, 7, 11, 0, []) := by decide +kernel
theorem t_65_24 : tb_in 65 24 = some (.iload 4, 0, 0, 0, []) := by decide +kernel
theorem t_65_26 : tb_in 65 26 = some (.baload, 0, 0, 0, []) := by decide +kernel
theorem t_65_27 : tb_in 65 27 = some (.ifCond .eq 25, 52, 0, 0, []) := by decide +kernel
theorem t_65_30 : tb_in 65 30 = some (.aload_n 0, 0, 0, 0, []) := by decide +kernel
theorem t_65_31 : tb_in 65 31 = some (.getfield 59, 7, 19, 0, []) := by decide +kernel
theorem t_65_34 : tb_in 65 34 = some (.iload 4, 0, 0, 0, []) := by decide +kernel
theorem t_65_36 : tb_in 65 36 = some (.iaload, 0, 0, 0, []) := by decide +kernel
theorem t_65_37 : tb_in 65 37 = some (.aload_n 0, 0, 0, 0, []) := by decide +kernel
theorem t_65_38 : tb_in 65 38 = some (.getfield 59, 7, 19, 0, []) := by decide +kernel
theorem t_65_41 : tb_in 65 41 = some (.iload_n 2, 0, 0, 0, []) := by decide +kernel
theorem t_65_42 : tb_in 65 42 = some (.iaload, 0, 0, 0, []) := by decide +kernel
theorem t_65_43 : tb_in 65 43 = some (.if_icmp .ge 9, 52, 0, 0, []) := by decide +kernel
theorem t_65_46 : tb_in 65 46 = some (.iload_n 3, 0, 0, 0, []) := by decide +kernel
theorem t_65_47 : tb_in 65 47 = some (.iconst 1, 0, 0, 1, []) := by decide +kernel
theorem t_65_48 : tb_in 65 48 = some (.iadd, 0, 0, 0, []) := by decide +kernel
theorem t_65_49 : tb_in 65 49 = some (.goto 4, 53, 0, 0, []) := by decide +kernel
theorem t_65_52 : tb_in 65 52 = some (.iload_n 3, 0, 0, 0, []) := by decide +kernel
theorem t_65_53 : tb_in 65 53 = some (.istore_n 3, 0, 0, 0, []) := by decide +kernel
theorem t_65_54 : tb_in 65 54 = some (.iinc 4 1, 0, 0, 1, []) := by decide +kernel
theorem t_65_57 : tb_in 65 57 = some (.goto (-44), 13, 0, 0, []) := by decide +kernel
theorem t_65_60 : tb_in 65 60 = some (.aload_n 0, 0, 0, 0, []) := by decide +kernel
theorem t_65_61 : tb_in 65 61 = some (.getfield 34, 7, 11, 0, []) := by decide +kernel
theorem t_65_64 : tb_in 65 64 = some (.iload_n 2, 0, 0, 0, []) := by decide +kernel
theorem t_65_65 : tb_in 65 65 = some (.baload, 0, 0, 0, []) := by decide +kernel
theorem t_65_66 : tb_in 65 66 = some (.ifCond .eq 10, 76, 0, 0, []) := by decide +kernel
theorem t_65_69 : tb_in 65 69 = some (.iload_n 3, 0, 0, 0, []) := by decide +kernel
theorem t_65_70 : tb_in 65 70 = some (.iload_n 1, 0, 0, 0, []) := by decide +kernel
theorem t_65_71 : tb_in 65 71 = some (.if_icmp .ne 5, 76, 0, 0, []) := by decide +kernel
theorem t_65_74 : tb_in 65 74 = some (.iload_n 2, 0, 0, 0, []) := by decide +kernel
theorem t_65_75 : tb_in 65 75 = some (.ireturn, 0, 0, 0, []) := by decide +kernel
theorem t_65_76 : tb_in 65 76 = some (.iinc 2 1, 0, 0, 1, []) := by decide +kernel
theorem t_65_79 : tb_in 65 79 = some (.goto (-77), 2, 0, 0, []) := by decide +kernel
theorem t_65_82 : tb_in 65 82 = some (.iconst (-1), 0, 0, (-1), []) := by decide +kernel
theorem t_65_83 : tb_in 65 83 = some (.ireturn, 0, 0, 0, []) := by decide +kernel
theorem t_66_0 : tb_in 66 0 = some (.iconst 0, 0, 0, 0, []) := by decide +kernel
theorem t_66_1 : tb_in 66 1 = some (.istore_n 1, 0, 0, 0, []) := by decide +kernel
theorem t_66_2 : tb_in 66 2 = some (.aload_n 0, 0, 0, 0, []) := by decide +kernel
theorem t_66_3 : tb_in 66 3 = some (.invokevirtual 173, 64, 1, 0, []) := by decide +kernel
theorem t_66_6 : tb_in 66 6 = some (.aload_n 0, 0, 0, 0, []) := by decide +kernel
theorem t_66_7 : tb_in 66 7 = some (.getfield 62, 7, 21, 0, []) := by decide +kernel
theorem t_66_10 : tb_in 66 10 = some (.if_icmp .le 20, 30, 0, 0, []) := by decide +kernel
theorem t_66_13 : tb_in 66 13 = some (.aload_n 0, 0, 0, 0, []) := by decide +kernel
theorem t_66_14 : tb_in 66 14 = some (.getfield 34, 7, 11, 0, []) := by decide +kernel
theorem t_66_17 : tb_in 66 17 = some (.aload_n 0, 0, 0, 0, []) := by decide +kernel
theorem t_66_18 : tb_in 66 18 = some (.iconst 0, 0, 0, 0, []) := by decide +kernel
theorem t_66_19 : tb_in 66 19 = some (.invokevirtual 177, 65, 2, 0, []) := by decide +kernel
theorem t_66_22 : tb_in 66 22 = some (.iconst 0, 0, 0, 0, []) := by decide +kernel
theorem t_66_23 : tb_in 66 23 = some (.bastore, 0, 0, 0, []) := by decide +kernel
theorem t_66_24 : tb_in 66 24 = some (.iinc 1 1, 0, 0, 1, []) := by decide +kernel
theorem t_66_27 : tb_in 66 27 = some (.goto (-25), 2, 0, 0, []) := by decide +kernel
theorem t_66_30 : tb_in 66 30 = some (.iload_n 1, 0, 0, 0, []) := by decide +kernel
theorem t_66_31 : tb_in 66 31 = some (.ireturn, 0, 0, 0, []) := by decide +kernel
theorem t_67_0 : tb_in 67 0 = some (.aload_n 0, 0, 0, 0, []) := by decide +kernel
theorem t_67_1 : tb_in 67 1 = some (.iload_n 1, 0, 0, 0, []) := by decide +kernel
theorem t_67_2 : tb_in 67 2 = some (.iload_n 2, 0, 0, 0, []) := by decide +kernel
theorem t_67_3 : tb_in 67 3 = some (.invokestatic 180, 63, 2, 0, []) := by decide +kernel
theorem t_67_6 : tb_in 67 6 = some (.ifCond .eq 7, 13, 0, 0, []) := by decide +kernel
theorem t_67_9 : tb_in 67 9 = some (.iconst 1, 0, 0, 1, []) := by decide +kernel
theorem t_67_10 : tb_in 67 10 = some (.goto 4, 14, 0, 0, []) := by decide +kernel
theorem t_67_13 : tb_in 67 13 = some (.iconst 0, 0, 0, 0, []) := by decide +kernel
theorem t_67_14 : tb_in 67 14 = some (.putfield 84, 7, 0, 0, []) := by decide +kernel
theorem t_67_17 : tb_in 67 17 = some (.aload_n 0, 0, 0, 0, []) := by decide +kernel
theorem t_67_18 : tb_in 67 18 = some (.getfield 84, 7, 0, 0, []) := by decide +kernel
theorem t_67_21 : tb_in 67 21 = some (.ifCond .le 5, 26, 0, 0, []) := by decide +kernel
theorem t_67_24 : tb_in 67 24 = some (.iconst 0, 0, 0, 0, []) := by decide +kernel
theorem t_67_25 : tb_in 67 25 = some (.ireturn, 0, 0, 0, []) := by decide +kernel
theorem t_67_26 : tb_in 67 26 = some (.bipush 16, 0, 0, 16, []) := by decide +kernel
theorem t_67_28 : tb_in 67 28 = some (.iload_n 1, 0, 0, 0, []) := by decide +kernel
theorem t_67_29 : tb_in 67 29 = some (.imul, 0, 0, 0, []) := by decide +kernel
theorem t_67_30 : tb_in 67 30 = some (.iload_n 2, 0, 0, 0, []) := by decide +kernel
theorem t_67_31 : tb_in 67 31 = some (.iadd, 0, 0, 0, []) := by decide +kernel
theorem t_67_32 : tb_in 67 32 = some (.istore_n 3, 0, 0, 0, []) := by decide +kernel
theorem t_67_33 : tb_in 67 33 = some (.aload_n 0, 0, 0, 0, []) := by decide +kernel
theorem t_67_34 : tb_in 67 34 = some (.iconst 0, 0, 0, 0, []) := by decide +kernel
theorem t_67_35 : tb_in 67 35 = some (.putfield 113, 7, 26, 0, []) := by decide +kernel
theorem t_67_38 : tb_in 67 38 = some (.aload_n 0, 0, 0, 0, []) := by decide +kernel
theorem t_67_39 : tb_in 67 39 = some (.iconst 0, 0, 0, 0, []) := by decide +kernel
theorem t_67_40 : tb_in 67 40 = some (.putfield 134, 7, 29, 0, []) := by decide +kernel
theorem t_67_43 : tb_in 67 43 = some (.aload_n 0, 0, 0, 0, []) := by decide +kernel
theorem t_67_44 : tb_in 67 44 = some (.getfield 134, 7, 29, 0, []) := by decide +kernel
theorem t_67_47 : tb_in 67 47 = some (.ifCond .ne 60, 107, 0, 0, []) := by decide +kernel
theorem t_67_50 : tb_in 67 50 = some (.aload_n 0, 0, 0, 0, []) := by decide +kernel
theorem t_67_51 : tb_in 67 51 = some (.getfield 113, 7, 26, 0, []) := by decide +kernel
theorem t_67_54 : tb_in 67 54 = some (.ifCond .gt 11, 65, 0, 0, []) := by decide +kernel
theorem t_67_57 : tb_in 67 57 = some (.aload_n 0, 0, 0, 0, []) := by decide +kernel
theorem t_67_58 : tb_in 67 58 = some (.iload_n 3, 0, 0, 0, []) := by decide +kernel
theorem t_67_59 : tb_in 67 59 = some (.invokevirtual 138, 55, 2, 0, []) := by decide +kernel
theorem t_67_62 : tb_in 67 62 = some (.ifCond .ne 45, 107, 0, 0, []) := by decide +kernel
theorem t_67_65 : tb_in 67 65 = some (.aload_n 0, 0, 0, 0, []) := by decide +kernel
theorem t_67_66 : tb_in 67 66 = some (.getfield 113, 7, 26, 0, []) := by decide +kernel
theorem t_67_69 : tb_in 67 69 = some (.ifCond .le 24, 93, 0, 0, []) := by decide +kernel
theorem t_67_72 : tb_in 67 72 = some (.aload_n 0, 0, 0, 0, []) := by decide +kernel
theorem t_67_73 : tb_in 67 73 = some (.getfield 69, 7, 28, 0, []) := by decide +kernel
theorem t_67_76 : tb_in 67 76 = some (.aload_n 0, 0, 0, 0, []) := by decide +kernel
theorem t_67_77 : tb_in 67 77 = some (.getfield 113, 7, 26, 0, []) := by decide +kernel
theorem t_67_80 : tb_in 67 80 = some (.iconst 1, 0, 0, 1, []) := by decide +kernel
theorem t_67_81 : tb_in 67 81 = some (.isub, 0, 0, 0, []) := by decide +kernel
theorem t_67_82 : tb_in 67 82 = some (.baload, 0, 0, 0, []) := by decide +kernel
theorem t_67_83 : tb_in 67 83 = some (.ifCond .eq 10, 93, 0, 0, []) := by decide +kernel
theorem t_67_86 : tb_in 67 86 = some (.aload_n 0, 0, 0, 0, []) := by decide +kernel
theorem t_67_87 : tb_in 67 87 = some (.invokevirtual 183, 62, 1, 0, []) := by decide +kernel
theorem t_67_90 : tb_in 67 90 = some (.goto (-47), 43, 0, 0, []) := by decide +kernel
theorem t_67_93 : tb_in 67 93 = some (.aload_n 0, 0, 0, 0, []) := by decide +kernel
theorem t_67_94 : tb_in 67 94 = some (.getfield 113, 7, 26, 0, []) := by decide +kernel
theorem t_67_97 : tb_in 67 97 = some (.ifCond .le (-54), 43, 0, 0, []) := by decide +kernel
theorem t_67_100 : tb_in 67 100 = some (.aload_n 0, 0, 0, 0, []) := by decide +kernel
theorem t_67_101 : tb_in 67 101 = some (.invokevirtual 186, 57, 1, 0, []) := by decide +kernel
theorem t_67_104 : tb_in 67 104 = some (.goto (-61), 43, 0, 0, []) := by decide +kernel
theorem t_67_107 : tb_in 67 107 = some (.aload_n 0, 0, 0, 0, []) := by decide +kernel
theorem t_67_108 : tb_in 67 108 = some (.iconst 0, 0, 0, 0, []) := by decide +kernel
theorem t_67_109 : tb_in 67 109 = some (.putfield 113, 7, 26, 0, []) := by decide +kernel
theorem t_67_112 : tb_in 67 112 = some (.aload_n 0, 0, 0, 0, []) := by decide +kernel
theorem t_67_113 : tb_in 67 113 = some (.getfield 134, 7, 29, 0, []) := by decide +kernel
theorem t_67_116 : tb_in 67 116 = some (.ifCond .eq 10, 126, 0, 0, []) := by decide +kernel
theorem t_67_119 : tb_in 67 119 = some (.aload_n 0, 0, 0, 0, []) := by decide +kernel
theorem t_67_120 : tb_in 67 120 = some (.iconst 2, 0, 0, 2, []) := by decide +kernel
theorem t_67_121 : tb_in 67 121 = some (.putfield 84, 7, 0, 0, []) := by decide +kernel
theorem t_67_124 : tb_in 67 124 = some (.iconst 0, 0, 0, 0, []) := by decide +kernel
theorem t_67_125 : tb_in 67 125 = some (.ireturn, 0, 0, 0, []) := by decide +kernel
theorem t_67_126 : tb_in 67 126 = some (.aload_n 0, 0, 0, 0, []) := by decide +kernel
theorem t_67_127 : tb_in 67 127 = some (.iload_n 3, 0, 0, 0, []) := by decide +kernel
theorem t_67_128 : tb_in 67 128 = some (.invokevirtual 119, 51, 2, 0, []) := by decide +kernel
theorem t_67_131 : tb_in 67 131 = some (.aload_n 0, 0, 0, 0, []) := by decide +kernel
theorem t_67_132 : tb_in 67 132 = some (.invokevirtual 189, 66, 1, 0, []) := by decide +kernel
theorem t_67_135 : tb_in 67 135 = some (.istore 4, 0, 0, 0, []) := by decide +kernel
theorem t_67_137 : tb_in 67 137 = some (.aload_n 0, 0, 0, 0, []) := by decide +kernel
theorem t_67_138 : tb_in 67 138 = some (.getfield 38, 7, 12, 0, []) := by decide +kernel
theorem t_67_141 : tb_in 67 141 = some (.iload_n 3, 0, 0, 0, []) := by decide +kernel
theorem t_67_142 : tb_in 67 142 = some (.iaload, 0, 0, 0, []) := by decide +kernel
theorem t_67_143 : tb_in 67 143 = some (.ireturn, 0, 0, 0, []) := by decide +kernel
theorem t_68_0 : tb_in 68 0 = some (.aload_n 0, 0, 0, 0, []) := by decide +kernel
theorem t_68_1 : tb_in 68 1 = some (.iconst 0, 0, 0, 0, []) := by decide +kernel
theorem t_68_2 : tb_in 68 2 = some (.putfield 84, 7, 0, 0, []) := by decide +kernel
theorem t_68_5 : tb_in 68 5 = some (.iload_n 1, 0, 0, 0, []) := by decide +kernel
theorem t_68_6 : tb_in 68 6 = some (.tableswitch 68 0 5 #[38, 43, 48, 53, 58, 63], 74, 38, 0, [44, 49, 54, 59, 64, 69]) := by decide +kernel
theorem t_68_44 : tb_in 68 44 = some (.aload_n 0, 0, 0, 0, []) := by decide +kernel
theorem t_68_45 : tb_in 68 45 = some (.getfield 99, 7, 5, 0, []) := by decide +kernel
theorem t_68_48 : tb_in 68 48 = some (.ireturn, 0, 0, 0, []) := by decide +kernel
theorem t_68_49 : tb_in 68 49 = some (.aload_n 0, 0, 0, 0, []) := by decide +kernel
theorem t_68_50 : tb_in 68 50 = some (.getfield 170, 7, 22, 0, []) := by decide +kernel
theorem t_68_53 : tb_in 68 53 = some (.ireturn, 0, 0, 0, []) := by decide +kernel
theorem t_68_54 : tb_in 68 54 = some (.aload_n 0, 0, 0, 0, []) := by decide +kernel
theorem t_68_55 : tb_in 68 55 = some (.getfield 144, 7, 23, 0, []) := by decide +kernel
theorem t_68_58 : tb_in 68 58 = some (.ireturn, 0, 0, 0, []) := by decide +kernel
theorem t_68_59 : tb_in 68 59 = some (.aload_n 0, 0, 0, 0, []) := by decide +kernel
theorem t_68_60 : tb_in 68 60 = some (.getfield 131, 7, 24, 0, []) := by decide +kernel
theorem t_68_63 : tb_in 68 63 = some (.ireturn, 0, 0, 0, []) := by decide +kernel
theorem t_68_64 : tb_in 68 64 = some (.aload_n 0, 0, 0, 0, []) := by decide +kernel
theorem t_68_65 : tb_in 68 65 = some (.getfield 116, 7, 25, 0, []) := by decide +kernel
theorem t_68_68 : tb_in 68 68 = some (.ireturn, 0, 0, 0, []) := by decide +kernel
theorem t_68_69 : tb_in 68 69 = some (.aload_n 0, 0, 0, 0, []) := by decide +kernel
theorem t_68_70 : tb_in 68 70 = some (.invokevirtual 173, 64, 1, 0, []) := by decide +kernel
theorem t_68_73 : tb_in 68 73 = some (.ireturn, 0, 0, 0, []) := by decide +kernel
theorem t_68_74 : tb_in 68 74 = some (.iconst (-1), 0, 0, (-1), []) := by decide +kernel
theorem t_68_75 : tb_in 68 75 = some (.ireturn, 0, 0, 0, []) := by decide +kernel
theorem t_69_0 : tb_in 69 0 = some (.aload_n 0, 0, 0, 0, []) := by decide +kernel
theorem t_69_1 : tb_in 69 1 = some (.iload_n 1, 0, 0, 0, []) := by decide +kernel
theorem t_69_2 : tb_in 69 2 = some (.iload_n 2, 0, 0, 0, []) := by decide +kernel
theorem t_69_3 : tb_in 69 3 = some (.invokestatic 180, 63, 2, 0, []) := by decide +kernel
theorem t_69_6 : tb_in 69 6 = some (.ifCond .eq 7, 13, 0, 0, []) := by decide +kernel
theorem t_69_9 : tb_in 69 9 = some (.iconst 1, 0, 0, 1, []) := by decide +kernel
theorem t_69_10 : tb_in 69 10 = some (.goto 4, 14, 0, 0, []) := by decide +kernel
theorem t_69_13 : tb_in 69 13 = some (.iconst 0, 0, 0, 0, []) := by decide +kernel
theorem t_69_14 : tb_in 69 14 = some (.putfield 84, 7, 0, 0, []) := by decide +kernel
theorem t_69_17 : tb_in 69 17 = some (.aload_n 0, 0, 0, 0, []) := by decide +kernel
theorem t_69_18 : tb_in 69 18 = some (.getfield 84, 7, 0, 0, []) := by decide +kernel
theorem t_69_21 : tb_in 69 21 = some (.ifCond .ne 21, 42, 0, 0, []) := by decide +kernel
theorem t_69_24 : tb_in 69 24 = some (.aload_n 0, 0, 0, 0, []) := by decide +kernel
theorem t_69_25 : tb_in 69 25 = some (.getfield 34, 7, 11, 0, []) := by decide +kernel
theorem t_69_28 : tb_in 69 28 = some (.bipush 16, 0, 0, 16, []) := by decide +kernel
theorem t_69_30 : tb_in 69 30 = some (.iload_n 1, 0, 0, 0, []) := by decide +kernel
theorem t_69_31 : tb_in 69 31 = some (.imul, 0, 0, 0, []) := by decide +kernel
theorem t_69_32 : tb_in 69 32 = some (.iload_n 2, 0, 0, 0, []) := by decide +kernel
theorem t_69_33 : tb_in 69 33 = some (.iadd, 0, 0, 0, []) := by decide +kernel
theorem t_69_34 : tb_in 69 34 = some (.baload, 0, 0, 0, []) := by decide +kernel
theorem t_69_35 : tb_in 69 35 = some (.ifCond .eq 7, 42, 0, 0, []) := by decide +kernel
theorem t_69_38 : tb_in 69 38 = some (.iconst 1, 0, 0, 1, []) := by decide +kernel
theorem t_69_39 : tb_in 69 39 = some (.goto 4, 43, 0, 0, []) := by decide +kernel
theorem t_69_42 : tb_in 69 42 = some (.iconst 0, 0, 0, 0, []) := by decide +kernel
theorem t_69_43 : tb_in 69 43 = some (.ireturn, 0, 0, 0, []) := by decide +kernel
theorem t_70_0 : tb_in 70 0 = some (.bipush 16, 0, 0, 16, []) := by decide +kernel
theorem t_70_2 : tb_in 70 2 = some (.iload_n 1, 0, 0, 0, []) := by decide +kernel
theorem t_70_3 : tb_in 70 3 = some (.imul, 0, 0, 0, []) := by decide +kernel
theorem t_70_4 : tb_in 70 4 = some (.iload_n 2, 0, 0, 0, []) := by decide +kernel
theorem t_70_5 : tb_in 70 5 = some (.iadd, 0, 0, 0, []) := by decide +kernel
theorem t_70_6 : tb_in 70 6 = some (.istore 4, 0, 0, 0, []) := by decide +kernel
theorem t_70_8 : tb_in 70 8 = some (.aload_n 0, 0, 0, 0, []) := by decide +kernel
theorem t_70_9 : tb_in 70 9 = some (.iload_n 1, 0, 0, 0, []) := by decide +kernel
theorem t_70_10 : tb_in 70 10 = some (.iload_n 2, 0, 0, 0, []) := by decide +kernel
theorem t_70_11 : tb_in 70 11 = some (.invokestatic 180, 63, 2, 0, []) := by decide +kernel
theorem t_70_14 : tb_in 70 14 = some (.ifCond .ne 12, 26, 0, 0, []) := by decide +kernel
theorem t_70_17 : tb_in 70 17 = some (.iload_n 3, 0, 0, 0, []) := by decide +kernel
theorem t_70_18 : tb_in 70 18 = some (.ifCond .lt 8, 26, 0, 0, []) := by decide +kernel
theorem t_70_21 : tb_in 70 21 = some (.iload_n 3, 0, 0, 0, []) := by decide +kernel
theorem t_70_22 : tb_in 70 22 = some (.iconst 5, 0, 0, 5, []) := by decide +kernel
theorem t_70_23 : tb_in 70 23 = some (.if_icmp .le 7, 30, 0, 0, []) := by decide +kernel
theorem t_70_26 : tb_in 70 26 = some (.iconst 1, 0, 0, 1, []) := by decide +kernel
theorem t_70_27 : tb_in 70 27 = some (.goto 18, 45, 0, 0, []) := by decide +kernel
theorem t_70_30 : tb_in 70 30 = some (.aload_n 0, 0, 0, 0, []) := by decide +kernel
theorem t_70_31 : tb_in 70 31 = some (.getfield 34, 7, 11, 0, []) := by decide +kernel
theorem t_70_34 : tb_in 70 34 = some (.iload 4, 0, 0, 0, []) := by decide +kernel
theorem t_70_36 : tb_in 70 36 = some (.baload, 0, 0, 0, []) := by decide +kernel
theorem t_70_37 : tb_in 70 37 = some (.ifCond .ne 7, 44, 0, 0, []) := by decide +kernel
theorem t_70_40 : tb_in 70 40 = some (.iconst 2, 0, 0, 2, []) := by decide +kernel
theorem t_70_41 : tb_in 70 41 = some (.goto 4, 45, 0, 0, []) := by decide +kernel
theorem t_70_44 : tb_in 70 44 = some (.iconst 0, 0, 0, 0, []) := by decide +kernel
theorem t_70_45 : tb_in 70 45 = some (.putfield 84, 7, 0, 0, []) := by decide +kernel
theorem t_70_48 : tb_in 70 48 = some (.aload_n 0, 0, 0, 0, []) := by decide +kernel
theorem t_70_49 : tb_in 70 49 = some (.getfield 84, 7, 0, 0, []) := by decide +kernel
theorem t_70_52 : tb_in 70 52 = some (.ifCond .le 5, 57, 0, 0, []) := by decide +kernel
theorem t_70_55 : tb_in 70 55 = some (.iconst 0, 0, 0, 0, []) := by decide +kernel
theorem t_70_56 : tb_in 70 56 = some (.ireturn, 0, 0, 0, []) := by decide +kernel
theorem t_70_57 : tb_in 70 57 = some (.iload_n 3, 0, 0, 0, []) := by decide +kernel
theorem t_70_58 : tb_in 70 58 = some (.ifCond .ne 13, 71, 0, 0, []) := by decide +kernel
theorem t_70_61 : tb_in 70 61 = some (.aload_n 0, 0, 0, 0, []) := by decide +kernel
theorem t_70_62 : tb_in 70 62 = some (.getfield 38, 7, 12, 0, []) := by decide +kernel
theorem t_70_65 : tb_in 70 65 = some (.iload 4, 0, 0, 0, []) := by decide +kernel
theorem t_70_67 : tb_in 70 67 = some (.iaload, 0, 0, 0, []) := by decide +kernel
theorem t_70_68 : tb_in 70 68 = some (.goto 78, 146, 0, 0, []) := by decide +kernel
theorem t_70_71 : tb_in 70 71 = some (.iload_n 3, 0, 0, 0, []) := by decide +kernel
theorem t_70_72 : tb_in 70 72 = some (.iconst 1, 0, 0, 1, []) := by decide +kernel
theorem t_70_73 : tb_in 70 73 = some (.if_icmp .ne 13, 86, 0, 0, []) := by decide +kernel
theorem t_70_76 : tb_in 70 76 = some (.aload_n 0, 0, 0, 0, []) := by decide +kernel
theorem t_70_77 : tb_in 70 77 = some (.getfield 41, 7, 13, 0, []) := by decide +kernel
theorem t_70_80 : tb_in 70 80 = some (.iload 4, 0, 0, 0, []) := by decide +kernel
theorem t_70_82 : tb_in 70 82 = some (.iaload, 0, 0, 0, []) := by decide +kernel
theorem t_70_83 : tb_in 70 83 = some (.goto 63, 146, 0, 0, []) := by decide +kernel
theorem t_70_86 : tb_in 70 86 = some (.iload_n 3, 0, 0, 0, []) := by decide +kernel
theorem t_70_87 : tb_in 70 87 = some (.iconst 2, 0, 0, 2, []) := by decide +kernel
theorem t_70_88 : tb_in 70 88 = some (.if_icmp .ne 13, 101, 0, 0, []) := by decide +kernel
theorem t_70_91 : tb_in 70 91 = some (.aload_n 0, 0, 0, 0, []) := by decide +kernel
theorem t_70_92 : tb_in 70 92 = some (.getfield 44, 7, 14, 0, []) := by decide +kernel
theorem t_70_95 : tb_in 70 95 = some (.iload 4, 0, 0, 0, []) := by decide +kernel
theorem t_70_97 : tb_in 70 97 = some (.iaload, 0, 0, 0, []) := by decide +kernel
theorem t_70_98 : tb_in 70 98 = some (.goto 48, 146, 0, 0, []) := by decide +kernel
theorem t_70_101 : tb_in 70 101 = some (.iload_n 3, 0, 0, 0, []) := by decide +kernel
theorem t_70_102 : tb_in 70 102 = some (.iconst 3, 0, 0, 3, []) := by decide +kernel
theorem t_70_103 : tb_in 70 103 = some (.if_icmp .ne 13, 116, 0, 0, []) := by decide +kernel
theorem t_70_106 : tb_in 70 106 = some (.aload_n 0, 0, 0, 0, []) := by decide +kernel
theorem t_70_107 : tb_in 70 107 = some (.getfield 47, 7, 15, 0, []) := by decide +kernel
theorem t_70_110 : tb_in 70 110 = some (.iload 4, 0, 0, 0, []) := by decide +kernel
theorem t_70_112 : tb_in 70 112 = some (.iaload, 0, 0, 0, []) := by decide +kernel
theorem t_70_113 : tb_in 70 113 = some (.goto 33, 146, 0, 0, []) := by decide +kernel
theorem t_70_116 : tb_in 70 116 = some (.iload_n 3, 0, 0, 0, []) := by decide +kernel
theorem t_70_117 : tb_in 70 117 = some (.iconst 4, 0, 0, 4, []) := by decide +kernel
theorem t_70_118 : tb_in 70 118 = some (.if_icmp .ne 21, 139, 0, 0, []) := by decide +kernel
theorem t_70_121 : tb_in 70 121 = some (.aload_n 0, 0, 0, 0, []) := by decide +kernel
theorem t_70_122 : tb_in 70 122 = some (.getfield 50, 7, 16, 0, []) := by decide +kernel
theorem t_70_125 : tb_in 70 125 = some (.iload 4, 0, 0, 0, []) := by decide +kernel
theorem t_70_127 : tb_in 70 127 = some (.baload, 0, 0, 0, []) := by decide +kernel
theorem t_70_128 : tb_in 70 128 = some (.ifCond .eq 7, 135, 0, 0, []) := by decide +kernel
theorem t_70_131 : tb_in 70 131 = some (.iconst 1, 0, 0, 1, []) := by decide +kernel
theorem t_70_132 : tb_in 70 132 = some (.goto 14, 146, 0, 0, []) := by decide +kernel
theorem t_70_135 : tb_in 70 135 = some (.iconst 0, 0, 0, 0, []) := by decide +kernel
theorem t_70_136 : tb_in 70 136 = some (.goto 10, 146, 0, 0, []) := by decide +kernel
theorem t_70_139 : tb_in 70 139 = some (.aload_n 0, 0, 0, 0, []) := by decide +kernel
theorem t_70_140 : tb_in 70 140 = some (.getfield 56, 7, 18, 0, []) := by decide +kernel
theorem t_70_143 : tb_in 70 143 = some (.iload 4, 0, 0, 0, []) := by decide +kernel
theorem t_70_145 : tb_in 70 145 = some (.iaload, 0, 0, 0, []) := by decide +kernel
theorem t_70_146 : tb_in 70 146 = some (.ireturn, 0, 0, 0, []) := by decide +kernel
theorem t_71_0 : tb_in 71 0 = some (.bipush 16, 0, 0, 16, []) := by decide +kernel
theorem t_71_2 : tb_in 71 2 = some (.iload_n 1, 0, 0, 0, []) := by decide +kernel
theorem t_71_3 : tb_in 71 3 = some (.imul, 0, 0, 0, []) := by decide +kernel
theorem t_71_4 : tb_in 71 4 = some (.iload_n 2, 0, 0, 0, []) := by decide +kernel
theorem t_71_5 : tb_in 71 5 = some (.iadd, 0, 0, 0, []) := by decide +kernel
theorem t_71_6 : tb_in 71 6 = some (.istore 4, 0, 0, 0, []) := by decide +kernel
theorem t_71_8 : tb_in 71 8 = some (.aload_n 0, 0, 0, 0, []) := by decide +kernel
theorem t_71_9 : tb_in 71 9 = some (.iload_n 1, 0, 0, 0, []) := by decide +kernel
theorem t_71_10 : tb_in 71 10 = some (.iload_n 2, 0, 0, 0, []) := by decide +kernel
theorem t_71_11 : tb_in 71 11 = some (.invokestatic 180, 63, 2, 0, []) := by decide +kernel
theorem t_71_14 : tb_in 71 14 = some (.ifCond .eq 7, 21, 0, 0, []) := by decide +kernel
theorem t_71_17 : tb_in 71 17 = some (.iconst 1, 0, 0, 1, []) := by decide +kernel
theorem t_71_18 : tb_in 71 18 = some (.goto 18, 36, 0, 0, []) := by decide +kernel
theorem t_71_21 : tb_in 71 21 = some (.aload_n 0, 0, 0, 0, []) := by decide +kernel
theorem t_71_22 : tb_in 71 22 = some (.getfield 34, 7, 11, 0, []) := by decide +kernel
theorem t_71_25 : tb_in 71 25 = some (.iload 4, 0, 0, 0, []) := by decide +kernel
theorem t_71_27 : tb_in 71 27 = some (.baload, 0, 0, 0, []) := by decide +kernel
theorem t_71_28 : tb_in 71 28 = some (.ifCond .ne 7, 35, 0, 0, []) := by decide +kernel
theorem t_71_31 : tb_in 71 31 = some (.iconst 2, 0, 0, 2, []) := by decide +kernel
theorem t_71_32 : tb_in 71 32 = some (.goto 4, 36, 0, 0, []) := by decide +kernel
theorem t_71_35 : tb_in 71 35 = some (.iconst 0, 0, 0, 0, []) := by decide +kernel
theorem t_71_36 : tb_in 71 36 = some (.putfield 84, 7, 0, 0, []) := by decide +kernel
theorem t_71_39 : tb_in 71 39 = some (.aload_n 0, 0, 0, 0, []) := by decide +kernel
theorem t_71_40 : tb_in 71 40 = some (.getfield 84, 7, 0, 0, []) := by decide +kernel
theorem t_71_43 : tb_in 71 43 = some (.ifCond .le 7, 50, 0, 0, []) := by decide +kernel
theorem t_71_46 : tb_in 71 46 = some (.iconst 0, 0, 0, 0, []) := by decide +kernel
theorem t_71_47 : tb_in 71 47 = some (.goto 34, 81, 0, 0, []) := by decide +kernel
theorem t_71_50 : tb_in 71 50 = some (.iload_n 3, 0, 0, 0, []) := by decide +kernel
theorem t_71_51 : tb_in 71 51 = some (.ifCond .lt 14, 65, 0, 0, []) := by decide +kernel
theorem t_71_54 : tb_in 71 54 = some (.iload_n 3, 0, 0, 0, []) := by decide +kernel
theorem t_71_55 : tb_in 71 55 = some (.aload_n 0, 0, 0, 0, []) := by decide +kernel
theorem t_71_56 : tb_in 71 56 = some (.getfield 56, 7, 18, 0, []) := by decide +kernel
theorem t_71_59 : tb_in 71 59 = some (.iload 4, 0, 0, 0, []) := by decide +kernel
theorem t_71_61 : tb_in 71 61 = some (.iaload, 0, 0, 0, []) := by decide +kernel
theorem t_71_62 : tb_in 71 62 = some (.if_icmp .lt 7, 69, 0, 0, []) := by decide +kernel
theorem t_71_65 : tb_in 71 65 = some (.iconst (-1), 0, 0, (-1), []) := by decide +kernel
theorem t_71_66 : tb_in 71 66 = some (.goto 15, 81, 0, 0, []) := by decide +kernel
theorem t_71_69 : tb_in 71 69 = some (.aload_n 0, 0, 0, 0, []) := by decide +kernel
theorem t_71_70 : tb_in 71 70 = some (.getfield 53, 7, 17, 0, []) := by decide +kernel
theorem t_71_73 : tb_in 71 73 = some (.bipush 24, 0, 0, 24, []) := by decide +kernel
theorem t_71_75 : tb_in 71 75 = some (.iload 4, 0, 0, 0, []) := by decide +kernel
theorem t_71_77 : tb_in 71 77 = some (.imul, 0, 0, 0, []) := by decide +kernel
theorem t_71_78 : tb_in 71 78 = some (.iload_n 3, 0, 0, 0, []) := by decide +kernel
theorem t_71_79 : tb_in 71 79 = some (.iadd, 0, 0, 0, []) := by decide +kernel
theorem t_71_80 : tb_in 71 80 = some (.iaload, 0, 0, 0, []) := by decide +kernel
theorem t_71_81 : tb_in 71 81 = some (.ireturn, 0, 0, 0, []) := by decide +kernel
theorem t_72_0 : tb_in 72 0 = some (.aload_n 0, 0, 0, 0, []) := by decide +kernel
theorem t_72_1 : tb_in 72 1 = some (.iconst 0, 0, 0, 0, []) := by decide +kernel
theorem t_72_2 : tb_in 72 2 = some (.putfield 84, 7, 0, 0, []) := by decide +kernel
theorem t_72_5 : tb_in 72 5 = some (.iload_n 1, 0, 0, 0, []) := by decide +kernel
theorem t_72_6 : tb_in 72 6 = some (.ifCond .ge 7, 13, 0, 0, []) := by decide +kernel
theorem t_72_9 : tb_in 72 9 = some (.iconst (-1), 0, 0, (-1), []) := by decide +kernel
theorem t_72_10 : tb_in 72 10 = some (.goto 8, 18, 0, 0, []) := by decide +kernel
theorem t_72_13 : tb_in 72 13 = some (.aload_n 0, 0, 0, 0, []) := by decide +kernel
theorem t_72_14 : tb_in 72 14 = some (.iload_n 1, 0, 0, 0, []) := by decide +kernel
theorem t_72_15 : tb_in 72 15 = some (.invokevirtual 177, 65, 2, 0, []) := by decide +kernel
theorem t_72_18 : tb_in 72 18 = some (.ireturn, 0, 0, 0, []) := by decide +kernel
theorem t_73_0 : tb_in 73 0 = some (.aload_n 0, 0, 0, 0, []) := by decide +kernel
theorem t_73_1 : tb_in 73 1 = some (.iload_n 1, 0, 0, 0, []) := by decide +kernel
theorem t_73_2 : tb_in 73 2 = some (.iconst 1, 0, 0, 1, []) := by decide +kernel
theorem t_73_3 : tb_in 73 3 = some (.if_icmp .lt 9, 12, 0, 0, []) := by decide +kernel
theorem t_73_6 : tb_in 73 6 = some (.iload_n 1, 0, 0, 0, []) := by decide +kernel
theorem t_73_7 : tb_in 73 7 = some (.bipush 96, 0, 0, 96, []) := by decide +kernel
theorem t_73_9 : tb_in 73 9 = some (.if_icmp .le 7, 16, 0, 0, []) := by decide +kernel
theorem t_73_12 : tb_in 73 12 = some (.iconst 1, 0, 0, 1, []) := by decide +kernel
theorem t_73_13 : tb_in 73 13 = some (.goto 4, 17, 0, 0, []) := by decide +kernel
theorem t_73_16 : tb_in 73 16 = some (.iconst 0, 0, 0, 0, []) := by decide +kernel
theorem t_73_17 : tb_in 73 17 = some (.putfield 84, 7, 0, 0, []) := by decide +kernel
theorem t_73_20 : tb_in 73 20 = some (.aload_n 0, 0, 0, 0, []) := by decide +kernel
theorem t_73_21 : tb_in 73 21 = some (.getfield 84, 7, 0, 0, []) := by decide +kernel
theorem t_73_24 : tb_in 73 24 = some (.ifCond .le 5, 29, 0, 0, []) := by decide +kernel
theorem t_73_27 : tb_in 73 27 = some (.iconst 0, 0, 0, 0, []) := by decide +kernel
theorem t_73_28 : tb_in 73 28 = some (.ireturn, 0, 0, 0, []) := by decide +kernel
theorem t_73_29 : tb_in 73 29 = some (.aload_n 0, 0, 0, 0, []) := by decide +kernel
theorem t_73_30 : tb_in 73 30 = some (.iload_n 1, 0, 0, 0, []) := by decide +kernel
theorem t_73_31 : tb_in 73 31 = some (.putfield 62, 7, 21, 0, []) := by decide +kernel
theorem t_73_34 : tb_in 73 34 = some (.aload_n 0, 0, 0, 0, []) := by decide +kernel
theorem t_73_35 : tb_in 73 35 = some (.invokevirtual 189, 66, 1, 0, []) := by decide +kernel
theorem t_73_38 : tb_in 73 38 = some (.ireturn, 0, 0, 0, []) := by decide +kernel
theorem t_74_0 : tb_in 74 0 = some (.aload_n 0, 0, 0, 0, []) := by decide +kernel
theorem t_74_1 : tb_in 74 1 = some (.iload_n 1, 0, 0, 0, []) := by decide +kernel
theorem t_74_2 : tb_in 74 2 = some (.iload_n 2, 0, 0, 0, []) := by decide +kernel
theorem t_74_3 : tb_in 74 3 = some (.invokestatic 180, 63, 2, 0, []) := by decide +kernel
theorem t_74_6 : tb_in 74 6 = some (.ifCond .eq 7, 13, 0, 0, []) := by decide +kernel
theorem t_74_9 : tb_in 74 9 = some (.iconst 1, 0, 0, 1, []) := by decide +kernel
theorem t_74_10 : tb_in 74 10 = some (.goto 4, 14, 0, 0, []) := by decide +kernel
theorem t_74_13 : tb_in 74 13 = some (.iconst 0, 0, 0, 0, []) := by decide +kernel
theorem t_74_14 : tb_in 74 14 = some (.putfield 84, 7, 0, 0, []) := by decide +kernel
theorem t_74_17 : tb_in 74 17 = some (.aload_n 0, 0, 0, 0, []) := by decide +kernel
theorem t_74_18 : tb_in 74 18 = some (.getfield 84, 7, 0, 0, []) := by decide +kernel
theorem t_74_21 : tb_in 74 21 = some (.ifCond .le 5, 26, 0, 0, []) := by decide +kernel
theorem t_74_24 : tb_in 74 24 = some (.iconst 0, 0, 0, 0, []) := by decide +kernel
theorem t_74_25 : tb_in 74 25 = some (.ireturn, 0, 0, 0, []) := by decide +kernel
theorem t_74_26 : tb_in 74 26 = some (.aload_n 0, 0, 0, 0, []) := by decide +kernel
theorem t_74_27 : tb_in 74 27 = some (.getfield 34, 7, 11, 0, []) := by decide +kernel
theorem t_74_30 : tb_in 74 30 = some (.bipush 16, 0, 0, 16, []) := by decide +kernel
theorem t_74_32 : tb_in 74 32 = some (.iload_n 1, 0, 0, 0, []) := by decide +kernel
theorem t_74_33 : tb_in 74 33 = some (.imul, 0, 0, 0, []) := by decide +kernel
theorem t_74_34 : tb_in 74 34 = some (.iload_n 2, 0, 0, 0, []) := by decide +kernel
theorem t_74_35 : tb_in 74 35 = some (.iadd, 0, 0, 0, []) := by decide +kernel
theorem t_74_36 : tb_in 74 36 = some (.baload, 0, 0, 0, []) := by decide +kernel
theorem t_74_37 : tb_in 74 37 = some (.istore_n 3, 0, 0, 0, []) := by decide +kernel
theorem t_74_38 : tb_in 74 38 = some (.aload_n 0, 0, 0, 0, []) := by decide +kernel
theorem t_74_39 : tb_in 74 39 = some (.getfield 34, 7, 11, 0, []) := by decide +kernel
theorem t_74_42 : tb_in 74 42 = some (.bipush 16, 0, 0, 16, []) := by decide +kernel
theorem t_74_44 : tb_in 74 44 = some (.iload_n 1, 0, 0, 0, []) := by decide +kernel
theorem t_74_45 : tb_in 74 45 = some (.imul, 0, 0, 0, []) := by decide +kernel
theorem t_74_46 : tb_in 74 46 = some (.iload_n 2, 0, 0, 0, []) := by decide +kernel
theorem t_74_47 : tb_in 74 47 = some (.iadd, 0, 0, 0, []) := by decide +kernel
theorem t_74_48 : tb_in 74 48 = some (.iconst 0, 0, 0, 0, []) := by decide +kernel
theorem t_74_49 : tb_in 74 49 = some (.bastore, 0, 0, 0, []) := by decide +kernel
theorem t_74_50 : tb_in 74 50 = some (.iload_n 3, 0, 0, 0, []) := by decide +kernel
theorem t_74_51 : tb_in 74 51 = some (.ireturn, 0, 0, 0, []) := by decide +kernel
theorem t_75_0 : tb_in 75 0 = some (.aload_n 0, 0, 0, 0, []) := by decide +kernel
theorem t_75_1 : tb_in 75 1 = some (.invokespecial 3, 1000, 0, 0, []) := by decide +kernel
theorem t_75_4 : tb_in 75 4 = some (.aload_n 0, 0, 0, 0, []) := by decide +kernel
theorem t_75_5 : tb_in 75 5 = some (.iconst 0, 0, 0, 0, []) := by decide +kernel
theorem t_75_6 : tb_in 75 6 = some (.putfield 9, 0, 0, 0, []) := by decide +kernel
theorem t_75_9 : tb_in 75 9 = some (.aload_n 0, 0, 0, 0, []) := by decide +kernel
theorem t_75_10 : tb_in 75 10 = some (.bipush 24, 0, 0, 24, []) := by decide +kernel
theorem t_75_12 : tb_in 75 12 = some (.newarray .int, 0, 0, 0, []) := by decide +kernel
theorem t_75_14 : tb_in 75 14 = some (.putfield 15, 0, 1, 0, []) := by decide +kernel
theorem t_75_17 : tb_in 75 17 = some (.aload_n 0, 0, 0, 0, []) := by decide +kernel
theorem t_75_18 : tb_in 75 18 = some (.iconst 0, 0, 0, 0, []) := by decide +kernel
theorem t_75_19 : tb_in 75 19 = some (.putfield 19, 0, 2, 0, []) := by decide +kernel
theorem t_75_22 : tb_in 75 22 = some (.aload_n 0, 0, 0, 0, []) := by decide +kernel
theorem t_75_23 : tb_in 75 23 = some (.iconst 0, 0, 0, 0, []) := by decide +kernel
theorem t_75_24 : tb_in 75 24 = some (.putfield 22, 0, 3, 0, []) := by decide +kernel
theorem t_75_27 : tb_in 75 27 = some (.aload_n 0, 0, 0, 0, []) := by decide +kernel
theorem t_75_28 : tb_in 75 28 = some (.iconst 0, 0, 0, 0, []) := by decide +kernel
theorem t_75_29 : tb_in 75 29 = some (.putfield 25, 0, 4, 0, []) := by decide +kernel
theorem t_75_32 : tb_in 75 32 = some (.aload_n 0, 0, 0, 0, []) := by decide +kernel
theorem t_75_33 : tb_in 75 33 = some (.iconst 2, 0, 0, 2, []) := by decide +kernel
theorem t_75_34 : tb_in 75 34 = some (.putfield 28, 0, 5, 0, []) := by decide +kernel
theorem t_75_37 : tb_in 75 37 = some (.aload_n 0, 0, 0, 0, []) := by decide +kernel
theorem t_75_38 : tb_in 75 38 = some (.iconst 0, 0, 0, 0, []) := by decide +kernel
theorem t_75_39 : tb_in 75 39 = some (.putfield 31, 0, 6, 0, []) := by decide +kernel
theorem t_75_42 : tb_in 75 42 = some (.return_, 0, 0, 0, []) := by decide +kernel
theorem t_76_0 : tb_in 76 0 = some (.aload_n 0, 0, 0, 0, []) := by decide +kernel
theorem t_76_1 : tb_in 76 1 = some (.invokespecial 3, 1000, 0, 0, []) := by decide +kernel
theorem t_76_4 : tb_in 76 4 = some (.aload_n 0, 0, 0, 0, []) := by decide +kernel
theorem t_76_5 : tb_in 76 5 = some (.iconst 0, 0, 0, 0, []) := by decide +kernel
theorem t_76_6 : tb_in 76 6 = some (.putfield 9, 1, 0, 0, []) := by decide +kernel
theorem t_76_9 : tb_in 76 9 = some (.aload_n 0, 0, 0, 0, []) := by decide +kernel
theorem t_76_10 : tb_in 76 10 = some (.iconst 3, 0, 0, 3, []) := by decide +kernel
theorem t_76_11 : tb_in 76 11 = some (.newarray .int, 0, 0, 0, []) := by decide +kernel
theorem t_76_13 : tb_in 76 13 = some (.putfield 15, 1, 1, 0, []) := by decide +kernel
theorem t_76_16 : tb_in 76 16 = some (.return_, 0, 0, 0, []) := by decide +kernel
theorem t_77_0 : tb_in 77 0 = some (.aload_n 0, 0, 0, 0, []) := by decide +kernel
theorem t_77_1 : tb_in 77 1 = some (.dup, 0, 0, 0, []) := by decide +kernel
theorem t_77_2 : tb_in 77 2 = some (.getfield 9, 1, 0, 0, []) := by decide +kernel
theorem t_77_5 : tb_in 77 5 = some (.iconst 1, 0, 0, 1, []) := by decide +kernel
theorem t_77_6 : tb_in 77 6 = some (.iadd, 0, 0, 0, []) := by decide +kernel
theorem t_77_7 : tb_in 77 7 = some (.putfield 9, 1, 0, 0, []) := by decide +kernel
theorem t_77_10 : tb_in 77 10 = some (.aload_n 0, 0, 0, 0, []) := by decide +kernel
theorem t_77_11 : tb_in 77 11 = some (.getfield 15, 1, 1, 0, []) := by decide +kernel
theorem t_77_14 : tb_in 77 14 = some (.iload_n 1, 0, 0, 0, []) := by decide +kernel
theorem t_77_15 : tb_in 77 15 = some (.aload_n 0, 0, 0, 0, []) := by decide +kernel
theorem t_77_16 : tb_in 77 16 = some (.getfield 9, 1, 0, 0, []) := by decide +kernel
theorem t_77_19 : tb_in 77 19 = some (.iastore, 0, 0, 0, []) := by decide +kernel
theorem t_77_20 : tb_in 77 20 = some (.return_, 0, 0, 0, []) := by decide +kernel
theorem t_78_0 : tb_in 78 0 = some (.iload_n 1, 0, 0, 0, []) := by decide +kernel
theorem t_78_1 : tb_in 78 1 = some (.istore_n 3, 0, 0, 0, []) := by decide +kernel
theorem t_78_2 : tb_in 78 2 = some (.iload_n 3, 0, 0, 0, []) := by decide +kernel
theorem t_78_3 : tb_in 78 3 = some (.iconst 2, 0, 0, 2, []) := by decide +kernel
theorem t_78_4 : tb_in 78 4 = some (.if_icmp .gt 21, 25, 0, 0, []) := by decide +kernel
theorem t_78_7 : tb_in 78 7 = some (.aload_n 0, 0, 0, 0, []) := by decide +kernel
theorem t_78_8 : tb_in 78 8 = some (.getfield 15, 1, 1, 0, []) := by decide +kernel
theorem t_78_11 : tb_in 78 11 = some (.iload_n 3, 0, 0, 0, []) := by decide +kernel
theorem t_78_12 : tb_in 78 12 = some (.iaload, 0, 0, 0, []) := by decide +kernel
theorem t_78_13 : tb_in 78 13 = some (.iload_n 2, 0, 0, 0, []) := by decide +kernel
theorem t_78_14 : tb_in 78 14 = some (.if_icmp .le 5, 19, 0, 0, []) := by decide +kernel
theorem t_78_17 : tb_in 78 17 = some (.iconst 1, 0, 0, 1, []) := by decide +kernel
theorem t_78_18 : tb_in 78 18 = some (.ireturn, 0, 0, 0, []) := by decide +kernel
theorem t_78_19 : tb_in 78 19 = some (.iinc 3 1, 0, 0, 1, []) := by decide +kernel
theorem t_78_22 : tb_in 78 22 = some (.goto (-20), 2, 0, 0, []) := by decide +kernel
theorem t_78_25 : tb_in 78 25 = some (.iconst 0, 0, 0, 0, []) := by decide +kernel
theorem t_78_26 : tb_in 78 26 = some (.ireturn, 0, 0, 0, []) := by decide +kernel
theorem t_79_0 : tb_in 79 0 = some (.aload_n 0, 0, 0, 0, []) := by decide +kernel
theorem t_79_1 : tb_in 79 1 = some (.invokespecial 3, 1000, 0, 0, []) := by decide +kernel
theorem t_79_4 : tb_in 79 4 = some (.aload_n 0, 0, 0, 0, []) := by decide +kernel
theorem t_79_5 : tb_in 79 5 = some (.bipush 48, 0, 0, 48, []) := by decide +kernel
theorem t_79_7 : tb_in 79 7 = some (.newarray .int, 0, 0, 0, []) := by decide +kernel
theorem t_79_9 : tb_in 79 9 = some (.putfield 9, 2, 0, 0, []) := by decide +kernel
theorem t_79_12 : tb_in 79 12 = some (.aload_n 0, 0, 0, 0, []) := by decide +kernel
theorem t_79_13 : tb_in 79 13 = some (.bipush 48, 0, 0, 48, []) := by decide +kernel
theorem t_79_15 : tb_in 79 15 = some (.newarray .int, 0, 0, 0, []) := by decide +kernel
theorem t_79_17 : tb_in 79 17 = some (.putfield 15, 2, 1, 0, []) := by decide +kernel
theorem t_79_20 : tb_in 79 20 = some (.aload_n 0, 0, 0, 0, []) := by decide +kernel
theorem t_79_21 : tb_in 79 21 = some (.iconst 3, 0, 0, 3, []) := by decide +kernel
theorem t_79_22 : tb_in 79 22 = some (.newarray .int, 0, 0, 0, []) := by decide +kernel
theorem t_79_24 : tb_in 79 24 = some (.putfield 18, 2, 2, 0, []) := by decide +kernel
theorem t_79_27 : tb_in 79 27 = some (.return_, 0, 0, 0, []) := by decide +kernel
theorem t_80_0 : tb_in 80 0 = some (.aload_n 0, 0, 0, 0, []) := by decide +kernel
theorem t_80_1 : tb_in 80 1 = some (.invokespecial 3, 1000, 0, 0, []) := by decide +kernel
theorem t_80_4 : tb_in 80 4 = some (.aload_n 0, 0, 0, 0, []) := by decide +kernel
theorem t_80_5 : tb_in 80 5 = some (.iconst 0, 0, 0, 0, []) := by decide +kernel
theorem t_80_6 : tb_in 80 6 = some (.putfield 9, 3, 0, 0, []) := by decide +kernel
theorem t_80_9 : tb_in 80 9 = some (.aload_n 0, 0, 0, 0, []) := by decide +kernel
theorem t_80_10 : tb_in 80 10 = some (.bipush 96, 0, 0, 96, []) := by decide +kernel
theorem t_80_12 : tb_in 80 12 = some (.newarray .boolean, 0, 0, 0, []) := by decide +kernel
theorem t_80_14 : tb_in 80 14 = some (.putfield 15, 3, 1, 0, []) := by decide +kernel
theorem t_80_17 : tb_in 80 17 = some (.aload_n 0, 0, 0, 0, []) := by decide +kernel
theorem t_80_18 : tb_in 80 18 = some (.bipush 97, 0, 0, 97, []) := by decide +kernel
theorem t_80_20 : tb_in 80 20 = some (.newarray .int, 0, 0, 0, []) := by decide +kernel
theorem t_80_22 : tb_in 80 22 = some (.putfield 19, 3, 2, 0, []) := by decide +kernel
theorem t_80_25 : tb_in 80 25 = some (.aload_n 0, 0, 0, 0, []) := by decide +kernel
theorem t_80_26 : tb_in 80 26 = some (.bipush 97, 0, 0, 97, []) := by decide +kernel
theorem t_80_28 : tb_in 80 28 = some (.newarray .int, 0, 0, 0, []) := by decide +kernel
theorem t_80_30 : tb_in 80 30 = some (.putfield 23, 3, 3, 0, []) := by decide +kernel
theorem t_80_33 : tb_in 80 33 = some (.aload_n 0, 0, 0, 0, []) := by decide +kernel
theorem t_80_34 : tb_in 80 34 = some (.getfield 19, 3, 2, 0, []) := by decide +kernel
theorem t_80_37 : tb_in 80 37 = some (.bipush 96, 0, 0, 96, []) := by decide +kernel
theorem t_80_39 : tb_in 80 39 = some (.bipush 96, 0, 0, 96, []) := by decide +kernel
theorem t_80_41 : tb_in 80 41 = some (.iastore, 0, 0, 0, []) := by decide +kernel
theorem t_80_42 : tb_in 80 42 = some (.aload_n 0, 0, 0, 0, []) := by decide +kernel
theorem t_80_43 : tb_in 80 43 = some (.getfield 23, 3, 3, 0, []) := by decide +kernel
theorem t_80_46 : tb_in 80 46 = some (.bipush 96, 0, 0, 96, []) := by decide +kernel
theorem t_80_48 : tb_in 80 48 = some (.bipush 96, 0, 0, 96, []) := by decide +kernel
theorem t_80_50 : tb_in 80 50 = some (.iastore, 0, 0, 0, []) := by decide +kernel
theorem t_80_51 : tb_in 80 51 = some (.return_, 0, 0, 0, []) := by decide +kernel
theorem t_81_0 : tb_in 81 0 = some (.aload_n 0, 0, 0, 0, []) := by decide +kernel
theorem t_81_1 : tb_in 81 1 = some (.getfield 15, 3, 1, 0, []) := by decide +kernel
theorem t_81_4 : tb_in 81 4 = some (.iload_n 1, 0, 0, 0, []) := by decide +kernel
theorem t_81_5 : tb_in 81 5 = some (.baload, 0, 0, 0, []) := by decide +kernel
theorem t_81_6 : tb_in 81 6 = some (.ireturn, 0, 0, 0, []) := by decide +kernel
theorem t_82_0 : tb_in 82 0 = some (.aload_n 0, 0, 0, 0, []) := by decide +kernel
theorem t_82_1 : tb_in 82 1 = some (.iload_n 1, 0, 0, 0, []) := by decide +kernel
theorem t_82_2 : tb_in 82 2 = some (.invokevirtual 26, 83, 2, 0, []) := by decide +kernel
theorem t_82_5 : tb_in 82 5 = some (.aload_n 0, 0, 0, 0, []) := by decide +kernel
theorem t_82_6 : tb_in 82 6 = some (.getfield 19, 3, 2, 0, []) := by decide +kernel
theorem t_82_9 : tb_in 82 9 = some (.bipush 96, 0, 0, 96, []) := by decide +kernel
theorem t_82_11 : tb_in 82 11 = some (.iaload, 0, 0, 0, []) := by decide +kernel
theorem t_82_12 : tb_in 82 12 = some (.istore_n 2, 0, 0, 0, []) := by decide +kernel
theorem t_82_13 : tb_in 82 13 = some (.aload_n 0, 0, 0, 0, []) := by decide +kernel
theorem t_82_14 : tb_in 82 14 = some (.iload_n 2, 0, 0, 0, []) := by decide +kernel
theorem t_82_15 : tb_in 82 15 = some (.iload_n 1, 0, 0, 0, []) := by decide +kernel
theorem t_82_16 : tb_in 82 16 = some (.invokevirtual 30, 86, 3, 0, []) := by decide +kernel
theorem t_82_19 : tb_in 82 19 = some (.aload_n 0, 0, 0, 0, []) := by decide +kernel
theorem t_82_20 : tb_in 82 20 = some (.iload_n 1, 0, 0, 0, []) := by decide +kernel
theorem t_82_21 : tb_in 82 21 = some (.bipush 96, 0, 0, 96, []) := by decide +kernel
theorem t_82_23 : tb_in 82 23 = some (.invokevirtual 30, 86, 3, 0, []) := by decide +kernel
theorem t_82_26 : tb_in 82 26 = some (.aload_n 0, 0, 0, 0, []) := by decide +kernel
theorem t_82_27 : tb_in 82 27 = some (.getfield 15, 3, 1, 0, []) := by decide +kernel
theorem t_82_30 : tb_in 82 30 = some (.iload_n 1, 0, 0, 0, []) := by decide +kernel
theorem t_82_31 : tb_in 82 31 = some (.iconst 1, 0, 0, 1, []) := by decide +kernel
theorem t_82_32 : tb_in 82 32 = some (.bastore, 0, 0, 0, []) := by decide +kernel
theorem t_82_33 : tb_in 82 33 = some (.aload_n 0, 0, 0, 0, []) := by decide +kernel
theorem t_82_34 : tb_in 82 34 = some (.dup, 0, 0, 0, []) := by decide +kernel
theorem t_82_35 : tb_in 82 35 = some (.getfield 9, 3, 0, 0, []) := by decide +kernel
theorem t_82_38 : tb_in 82 38 = some (.iconst 1, 0, 0, 1, []) := by decide +kernel
theorem t_82_39 : tb_in 82 39 = some (.iadd, 0, 0, 0, []) := by decide +kernel
theorem t_82_40 : tb_in 82 40 = some (.putfield 9, 3, 0, 0, []) := by decide +kernel
theorem t_82_43 : tb_in 82 43 = some (.return_, 0, 0, 0, []) := by decide +kernel
theorem t_83_0 : tb_in 83 0 = some (.aload_n 0, 0, 0, 0, []) := by decide +kernel
theorem t_83_1 : tb_in 83 1 = some (.getfield 15, 3, 1, 0, []) := by decide +kernel
theorem t_83_4 : tb_in 83 4 = some (.iload_n 1, 0, 0, 0, []) := by decide +kernel
theorem t_83_5 : tb_in 83 5 = some (.baload, 0, 0, 0, []) := by decide +kernel
theorem t_83_6 : tb_in 83 6 = some (.ifCond .eq 36, 42, 0, 0, []) := by decide +kernel
theorem t_83_9 : tb_in 83 9 = some (.aload_n 0, 0, 0, 0, []) := by decide +kernel
theorem t_83_10 : tb_in 83 10 = some (.aload_n 0, 0, 0, 0, []) := by decide +kernel
theorem t_83_11 : tb_in 83 11 = some (.getfield 19, 3, 2, 0, []) := by decide +kernel
theorem t_83_14 : tb_in 83 14 = some (.iload_n 1, 0, 0, 0, []) := by decide +kernel
theorem t_83_15 : tb_in 83 15 = some (.iaload, 0, 0, 0, []) := by decide +kernel
theorem t_83_16 : tb_in 83 16 = some (.aload_n 0, 0, 0, 0, []) := by decide +kernel
theorem t_83_17 : tb_in 83 17 = some (.getfield 23, 3, 3, 0, []) := by decide +kernel
theorem t_83_20 : tb_in 83 20 = some (.iload_n 1, 0, 0, 0, []) := by decide +kernel
theorem t_83_21 : tb_in 83 21 = some (.iaload, 0, 0, 0, []) := by decide +kernel
theorem t_83_22 : tb_in 83 22 = some (.invokevirtual 30, 86, 3, 0, []) := by decide +kernel
theorem t_83_25 : tb_in 83 25 = some (.aload_n 0, 0, 0, 0, []) := by decide +kernel
theorem t_83_26 : tb_in 83 26 = some (.getfield 15, 3, 1, 0, []) := by decide +kernel
theorem t_83_29 : tb_in 83 29 = some (.iload_n 1, 0, 0, 0, []) := by decide +kernel
theorem t_83_30 : tb_in 83 30 = some (.iconst 0, 0, 0, 0, []) := by decide +kernel
theorem t_83_31 : tb_in 83 31 = some (.bastore, 0, 0, 0, []) := by decide +kernel
theorem t_83_32 : tb_in 83 32 = some (.aload_n 0, 0, 0, 0, []) := by decide +kernel
theorem t_83_33 : tb_in 83 33 = some (.dup, 0, 0, 0, []) := by decide +kernel
theorem t_83_34 : tb_in 83 34 = some (.getfield 9, 3, 0, 0, []) := by decide +kernel
theorem t_83_37 : tb_in 83 37 = some (.iconst 1, 0, 0, 1, []) := by decide +kernel
theorem t_83_38 : tb_in 83 38 = some (.isub, 0, 0, 0, []) := by decide +kernel
theorem t_83_39 : tb_in 83 39 = some (.putfield 9, 3, 0, 0, []) := by decide +kernel
theorem t_83_42 : tb_in 83 42 = some (.return_, 0, 0, 0, []) := by decide +kernel
theorem t_84_0 : tb_in 84 0 = some (.iconst 0, 0, 0, 0, []) := by decide +kernel
theorem t_84_1 : tb_in 84 1 = some (.istore_n 1, 0, 0, 0, []) := by decide +kernel
theorem t_84_2 : tb_in 84 2 = some (.iload_n 1, 0, 0, 0, []) := by decide +kernel
theorem t_84_3 : tb_in 84 3 = some (.bipush 96, 0, 0, 96, []) := by decide +kernel
theorem t_84_5 : tb_in 84 5 = some (.if_icmp .ge 14, 19, 0, 0, []) := by decide +kernel
theorem t_84_8 : tb_in 84 8 = some (.aload_n 0, 0, 0, 0, []) := by decide +kernel
theorem t_84_9 : tb_in 84 9 = some (.iload_n 1, 0, 0, 0, []) := by decide +kernel
theorem t_84_10 : tb_in 84 10 = some (.invokevirtual 26, 83, 2, 0, []) := by decide +kernel
theorem t_84_13 : tb_in 84 13 = some (.iinc 1 1, 0, 0, 1, []) := by decide +kernel
theorem t_84_16 : tb_in 84 16 = some (.goto (-14), 2, 0, 0, []) := by decide +kernel
theorem t_84_19 : tb_in 84 19 = some (.return_, 0, 0, 0, []) := by decide +kernel
theorem t_85_0 : tb_in 85 0 = some (.aload_n 0, 0, 0, 0, []) := by decide +kernel
theorem t_85_1 : tb_in 85 1 = some (.getfield 23, 3, 3, 0, []) := by decide +kernel
theorem t_85_4 : tb_in 85 4 = some (.bipush 96, 0, 0, 96, []) := by decide +kernel
theorem t_85_6 : tb_in 85 6 = some (.iaload, 0, 0, 0, []) := by decide +kernel
theorem t_85_7 : tb_in 85 7 = some (.istore_n 2, 0, 0, 0, []) := by decide +kernel
theorem t_85_8 : tb_in 85 8 = some (.iconst 0, 0, 0, 0, []) := by decide +kernel
theorem t_85_9 : tb_in 85 9 = some (.istore_n 3, 0, 0, 0, []) := by decide +kernel
theorem t_85_10 : tb_in 85 10 = some (.iload_n 3, 0, 0, 0, []) := by decide +kernel
theorem t_85_11 : tb_in 85 11 = some (.iload_n 1, 0, 0, 0, []) := by decide +kernel
theorem t_85_12 : tb_in 85 12 = some (.if_icmp .ge 16, 28, 0, 0, []) := by decide +kernel
theorem t_85_15 : tb_in 85 15 = some (.aload_n 0, 0, 0, 0, []) := by decide +kernel
theorem t_85_16 : tb_in 85 16 = some (.getfield 23, 3, 3, 0, []) := by decide +kernel
theorem t_85_19 : tb_in 85 19 = some (.iload_n 2, 0, 0, 0, []) := by decide +kernel
theorem t_85_20 : tb_in 85 20 = some (.iaload, 0, 0, 0, []) := by decide +kernel
theorem t_85_21 : tb_in 85 21 = some (.istore_n 2, 0, 0, 0, []) := by decide +kernel
theorem t_85_22 : tb_in 85 22 = some (.iinc 3 1, 0, 0, 1, []) := by decide +kernel
theorem t_85_25 : tb_in 85 25 = some (.goto (-15), 10, 0, 0, []) := by decide +kernel
theorem t_85_28 : tb_in 85 28 = some (.iload_n 2, 0, 0, 0, []) := by decide +kernel
theorem t_85_29 : tb_in 85 29 = some (.ireturn, 0, 0, 0, []) := by decide +kernel
theorem t_86_0 : tb_in 86 0 = some (.aload_n 0, 0, 0, 0, []) := by decide +kernel
theorem t_86_1 : tb_in 86 1 = some (.getfield 23, 3, 3, 0, []) := by decide +kernel
theorem t_86_4 : tb_in 86 4 = some (.iload_n 1, 0, 0, 0, []) := by decide +kernel
theorem t_86_5 : tb_in 86 5 = some (.iload_n 2, 0, 0, 0, []) := by decide +kernel
theorem t_86_6 : tb_in 86 6 = some (.iastore, 0, 0, 0, []) := by decide +kernel
theorem t_86_7 : tb_in 86 7 = some (.aload_n 0, 0, 0, 0, []) := by decide +kernel
theorem t_86_8 : tb_in 86 8 = some (.getfield 19, 3, 2, 0, []) := by decide +kernel
theorem t_86_11 : tb_in 86 11 = some (.iload_n 2, 0, 0, 0, []) := by decide +kernel
theorem t_86_12 : tb_in 86 12 = some (.iload_n 1, 0, 0, 0, []) := by decide +kernel
theorem t_86_13 : tb_in 86 13 = some (.iastore, 0, 0, 0, []) := by decide +kernel
theorem t_86_14 : tb_in 86 14 = some (.return_, 0, 0, 0, []) := by decide +kernel
theorem t_87_0 : tb_in 87 0 = some (.aload_n 0, 0, 0, 0, []) := by decide +kernel
theorem t_87_1 : tb_in 87 1 = some (.invokespecial 3, 1000, 0, 0, []) := by decide +kernel
theorem t_87_4 : tb_in 87 4 = some (.aload_n 0, 0, 0, 0, []) := by decide +kernel
theorem t_87_5 : tb_in 87 5 = some (.bipush 24, 0, 0, 24, []) := by decide +kernel
theorem t_87_7 : tb_in 87 7 = some (.newarray .char, 0, 0, 0, []) := by decide +kernel
theorem t_87_9 : tb_in 87 9 = some (.putfield 9, 4, 0, 0, []) := by decide +kernel
theorem t_87_12 : tb_in 87 12 = some (.aload_n 0, 0, 0, 0, []) := by decide +kernel
theorem t_87_13 : tb_in 87 13 = some (.iconst 0, 0, 0, 0, []) := by decide +kernel
theorem t_87_14 : tb_in 87 14 = some (.putfield 15, 4, 1, 0, []) := by decide +kernel
theorem t_87_17 : tb_in 87 17 = some (.return_, 0, 0, 0, []) := by decide +kernel
theorem t_88_0 : tb_in 88 0 = some (.iload_n 0, 0, 0, 0, []) := by decide +kernel
theorem t_88_1 : tb_in 88 1 = some (.bipush 48, 0, 0, 48, []) := by decide +kernel
theorem t_88_3 : tb_in 88 3 = some (.if_icmp .lt 9, 12, 0, 0, []) := by decide +kernel
theorem t_88_6 : tb_in 88 6 = some (.iload_n 0, 0, 0, 0, []) := by decide +kernel
theorem t_88_7 : tb_in 88 7 = some (.bipush 57, 0, 0, 57, []) := by decide +kernel
theorem t_88_9 : tb_in 88 9 = some (.if_icmp .le 9, 18, 0, 0, []) := by decide +kernel
theorem t_88_12 : tb_in 88 12 = some (.iload_n 0, 0, 0, 0, []) := by decide +kernel
theorem t_88_13 : tb_in 88 13 = some (.bipush 107, 0, 0, 107, []) := by decide +kernel
theorem t_88_15 : tb_in 88 15 = some (.if_icmp .ne 5, 20, 0, 0, []) := by decide +kernel
theorem t_88_18 : tb_in 88 18 = some (.iconst 0, 0, 0, 0, []) := by decide +kernel
theorem t_88_19 : tb_in 88 19 = some (.ireturn, 0, 0, 0, []) := by decide +kernel
theorem t_88_20 : tb_in 88 20 = some (.iload_n 0, 0, 0, 0, []) := by decide +kernel
theorem t_88_21 : tb_in 88 21 = some (.bipush 103, 0, 0, 103, []) := by decide +kernel
theorem t_88_23 : tb_in 88 23 = some (.if_icmp .lt 9, 32, 0, 0, []) := by decide +kernel
theorem t_88_26 : tb_in 88 26 = some (.iload_n 0, 0, 0, 0, []) := by decide +kernel
theorem t_88_27 : tb_in 88 27 = some (.bipush 105, 0, 0, 105, []) := by decide +kernel
theorem t_88_29 : tb_in 88 29 = some (.if_icmp .le 15, 44, 0, 0, []) := by decide +kernel
theorem t_88_32 : tb_in 88 32 = some (.iload_n 0, 0, 0, 0, []) := by decide +kernel
theorem t_88_33 : tb_in 88 33 = some (.bipush 65, 0, 0, 65, []) := by decide +kernel
theorem t_88_35 : tb_in 88 35 = some (.if_icmp .lt 11, 46, 0, 0, []) := by decide +kernel
theorem t_88_38 : tb_in 88 38 = some (.iload_n 0, 0, 0, 0, []) := by decide +kernel
theorem t_88_39 : tb_in 88 39 = some (.bipush 70, 0, 0, 70, []) := by decide +kernel
theorem t_88_41 : tb_in 88 41 = some (.if_icmp .gt 5, 46, 0, 0, []) := by decide +kernel
theorem t_88_44 : tb_in 88 44 = some (.iconst 1, 0, 0, 1, []) := by decide +kernel
theorem t_88_45 : tb_in 88 45 = some (.ireturn, 0, 0, 0, []) := by decide +kernel
theorem t_88_46 : tb_in 88 46 = some (.iload_n 0, 0, 0, 0, []) := by decide +kernel
theorem t_88_47 : tb_in 88 47 = some (.bipush 43, 0, 0, 43, []) := by decide +kernel
theorem t_88_49 : tb_in 88 49 = some (.if_icmp .eq 15, 64, 0, 0, []) := by decide +kernel
theorem t_88_52 : tb_in 88 52 = some (.iload_n 0, 0, 0, 0, []) := by decide +kernel
theorem t_88_53 : tb_in 88 53 = some (.bipush 45, 0, 0, 45, []) := by decide +kernel
theorem t_88_55 : tb_in 88 55 = some (.if_icmp .eq 9, 64, 0, 0, []) := by decide +kernel
theorem t_88_58 : tb_in 88 58 = some (.iload_n 0, 0, 0, 0, []) := by decide +kernel
theorem t_88_59 : tb_in 88 59 = some (.bipush 42, 0, 0, 42, []) := by decide +kernel
theorem t_88_61 : tb_in 88 61 = some (.if_icmp .ne 5, 66, 0, 0, []) := by decide +kernel
theorem t_88_64 : tb_in 88 64 = some (.iconst 2, 0, 0, 2, []) := by decide +kernel
theorem t_88_65 : tb_in 88 65 = some (.ireturn, 0, 0, 0, []) := by decide +kernel
theorem t_88_66 : tb_in 88 66 = some (.iload_n 0, 0, 0, 0, []) := by decide +kernel
theorem t_88_67 : tb_in 88 67 = some (.bipush 63, 0, 0, 63, []) := by decide +kernel
theorem t_88_69 : tb_in 88 69 = some (.if_icmp .ne 7, 76, 0, 0, []) := by decide +kernel
theorem t_88_72 : tb_in 88 72 = some (.iconst 3, 0, 0, 3, []) := by decide +kernel
theorem t_88_73 : tb_in 88 73 = some (.goto 4, 77, 0, 0, []) := by decide +kernel
theorem t_88_76 : tb_in 88 76 = some (.iconst (-1), 0, 0, (-1), []) := by decide +kernel
theorem t_88_77 : tb_in 88 77 = some (.ireturn, 0, 0, 0, []) := by decide +kernel
theorem t_89_0 : tb_in 89 0 = some (.aload_n 0, 0, 0, 0, []) := by decide +kernel
theorem t_89_1 : tb_in 89 1 = some (.getfield 15, 4, 1, 0, []) := by decide +kernel
theorem t_89_4 : tb_in 89 4 = some (.bipush 24, 0, 0, 24, []) := by decide +kernel
theorem t_89_6 : tb_in 89 6 = some (.if_icmp .ge 23, 29, 0, 0, []) := by decide +kernel
theorem t_89_9 : tb_in 89 9 = some (.aload_n 0, 0, 0, 0, []) := by decide +kernel
theorem t_89_10 : tb_in 89 10 = some (.getfield 9, 4, 0, 0, []) := by decide +kernel
theorem t_89_13 : tb_in 89 13 = some (.aload_n 0, 0, 0, 0, []) := by decide +kernel
theorem t_89_14 : tb_in 89 14 = some (.getfield 15, 4, 1, 0, []) := by decide +kernel
theorem t_89_17 : tb_in 89 17 = some (.iload_n 1, 0, 0, 0, []) := by decide +kernel
theorem t_89_18 : tb_in 89 18 = some (.castore, 0, 0, 0, []) := by decide +kernel
theorem t_89_19 : tb_in 89 19 = some (.aload_n 0, 0, 0, 0, []) := by decide +kernel
theorem t_89_20 : tb_in 89 20 = some (.dup, 0, 0, 0, []) := by decide +kernel
theorem t_89_21 : tb_in 89 21 = some (.getfield 15, 4, 1, 0, []) := by decide +kernel
theorem t_89_24 : tb_in 89 24 = some (.iconst 1, 0, 0, 1, []) := by decide +kernel
theorem t_89_25 : tb_in 89 25 = some (.iadd, 0, 0, 0, []) := by decide +kernel
theorem t_89_26 : tb_in 89 26 = some (.putfield 15, 4, 1, 0, []) := by decide +kernel
theorem t_89_29 : tb_in 89 29 = some (.return_, 0, 0, 0, []) := by decide +kernel
theorem t_90_0 : tb_in 90 0 = some (.aload_n 0, 0, 0, 0, []) := by decide +kernel
theorem t_90_1 : tb_in 90 1 = some (.iconst 0, 0, 0, 0, []) := by decide +kernel
theorem t_90_2 : tb_in 90 2 = some (.putfield 15, 4, 1, 0, []) := by decide +kernel
theorem t_90_5 : tb_in 90 5 = some (.iconst 0, 0, 0, 0, []) := by decide +kernel
theorem t_90_6 : tb_in 90 6 = some (.istore_n 2, 0, 0, 0, []) := by decide +kernel
theorem t_90_7 : tb_in 90 7 = some (.iload_n 2, 0, 0, 0, []) := by decide +kernel
theorem t_90_8 : tb_in 90 8 = some (.aload_n 1, 0, 0, 0, []) := by decide +kernel
theorem t_90_9 : tb_in 90 9 = some (.getfield 15, 4, 1, 0, []) := by decide +kernel
theorem t_90_12 : tb_in 90 12 = some (.if_icmp .ge 19, 31, 0, 0, []) := by decide +kernel
theorem t_90_15 : tb_in 90 15 = some (.aload_n 0, 0, 0, 0, []) := by decide +kernel
theorem t_90_16 : tb_in 90 16 = some (.aload_n 1, 0, 0, 0, []) := by decide +kernel
theorem t_90_17 : tb_in 90 17 = some (.getfield 9, 4, 0, 0, []) := by decide +kernel
theorem t_90_20 : tb_in 90 20 = some (.iload_n 2, 0, 0, 0, []) := by decide +kernel
theorem t_90_21 : tb_in 90 21 = some (.caload, 0, 0, 0, []) := by decide +kernel
theorem t_90_22 : tb_in 90 22 = some (.invokevirtual 19, 89, 2, 0, []) := by decide +kernel
theorem t_90_25 : tb_in 90 25 = some (.iinc 2 1, 0, 0, 1, []) := by decide +kernel
theorem t_90_28 : tb_in 90 28 = some (.goto (-21), 7, 0, 0, []) := by decide +kernel
theorem t_90_31 : tb_in 90 31 = some (.return_, 0, 0, 0, []) := by decide +kernel
theorem t_91_0 : tb_in 91 0 = some (.iconst 1, 0, 0, 1, []) := by decide +kernel
theorem t_91_1 : tb_in 91 1 = some (.istore_n 1, 0, 0, 0, []) := by decide +kernel
theorem t_91_2 : tb_in 91 2 = some (.iconst 0, 0, 0, 0, []) := by decide +kernel
theorem t_91_3 : tb_in 91 3 = some (.istore_n 2, 0, 0, 0, []) := by decide +kernel
theorem t_91_4 : tb_in 91 4 = some (.iload_n 2, 0, 0, 0, []) := by decide +kernel
theorem t_91_5 : tb_in 91 5 = some (.aload_n 0, 0, 0, 0, []) := by decide +kernel
theorem t_91_6 : tb_in 91 6 = some (.getfield 15, 4, 1, 0, []) := by decide +kernel
theorem t_91_9 : tb_in 91 9 = some (.if_icmp .ge 36, 45, 0, 0, []) := by decide +kernel
theorem t_91_12 : tb_in 91 12 = some (.aload_n 0, 0, 0, 0, []) := by decide +kernel
theorem t_91_13 : tb_in 91 13 = some (.getfield 9, 4, 0, 0, []) := by decide +kernel
theorem t_91_16 : tb_in 91 16 = some (.iload_n 2, 0, 0, 0, []) := by decide +kernel
theorem t_91_17 : tb_in 91 17 = some (.caload, 0, 0, 0, []) := by decide +kernel
theorem t_91_18 : tb_in 91 18 = some (.invokestatic 23, 88, 1, 0, []) := by decide +kernel
theorem t_91_21 : tb_in 91 21 = some (.istore_n 3, 0, 0, 0, []) := by decide +kernel
theorem t_91_22 : tb_in 91 22 = some (.iload_n 1, 0, 0, 0, []) := by decide +kernel
theorem t_91_23 : tb_in 91 23 = some (.ifCond .eq 8, 31, 0, 0, []) := by decide +kernel
theorem t_91_26 : tb_in 91 26 = some (.iload_n 3, 0, 0, 0, []) := by decide +kernel
theorem t_91_27 : tb_in 91 27 = some (.iconst (-1), 0, 0, (-1), []) := by decide +kernel
theorem t_91_28 : tb_in 91 28 = some (.if_icmp .ne 5, 33, 0, 0, []) := by decide +kernel
theorem t_91_31 : tb_in 91 31 = some (.iload_n 2, 0, 0, 0, []) := by decide +kernel
theorem t_91_32 : tb_in 91 32 = some (.ireturn, 0, 0, 0, []) := by decide +kernel
theorem t_91_33 : tb_in 91 33 = some (.iload_n 1, 0, 0, 0, []) := by decide +kernel
theorem t_91_34 : tb_in 91 34 = some (.iload_n 3, 0, 0, 0, []) := by decide +kernel
theorem t_91_35 : tb_in 91 35 = some (.iconst 1, 0, 0, 1, []) := by decide +kernel
theorem t_91_36 : tb_in 91 36 = some (.isub, 0, 0, 0, []) := by decide +kernel
theorem t_91_37 : tb_in 91 37 = some (.iadd, 0, 0, 0, []) := by decide +kernel
theorem t_91_38 : tb_in 91 38 = some (.istore_n 1, 0, 0, 0, []) := by decide +kernel
theorem t_91_39 : tb_in 91 39 = some (.iinc 2 1, 0, 0, 1, []) := by decide +kernel
theorem t_91_42 : tb_in 91 42 = some (.goto (-38), 4, 0, 0, []) := by decide +kernel
theorem t_91_45 : tb_in 91 45 = some (.iload_n 1, 0, 0, 0, []) := by decide +kernel
theorem t_91_46 : tb_in 91 46 = some (.ifCond .ne 7, 53, 0, 0, []) := by decide +kernel
theorem t_91_49 : tb_in 91 49 = some (.iconst (-1), 0, 0, (-1), []) := by decide +kernel
theorem t_91_50 : tb_in 91 50 = some (.goto 7, 57, 0, 0, []) := by decide +kernel
theorem t_91_53 : tb_in 91 53 = some (.aload_n 0, 0, 0, 0, []) := by decide +kernel
theorem t_91_54 : tb_in 91 54 = some (.getfield 15, 4, 1, 0, []) := by decide +kernel
theorem t_91_57 : tb_in 91 57 = some (.ireturn, 0, 0, 0, []) := by decide +kernel
theorem t_92_0 : tb_in 92 0 = some (.iconst 1, 0, 0, 1, []) := by decide +kernel
theorem t_92_1 : tb_in 92 1 = some (.istore_n 2, 0, 0, 0, []) := by decide +kernel
theorem t_92_2 : tb_in 92 2 = some (.iload_n 1, 0, 0, 0, []) := by decide +kernel
theorem t_92_3 : tb_in 92 3 = some (.istore_n 3, 0, 0, 0, []) := by decide +kernel
theorem t_92_4 : tb_in 92 4 = some (.iload_n 2, 0, 0, 0, []) := by decide +kernel
theorem t_92_5 : tb_in 92 5 = some (.ifCond .le 31, 36, 0, 0, []) := by decide +kernel
theorem t_92_8 : tb_in 92 8 = some (.iload_n 3, 0, 0, 0, []) := by decide +kernel
theorem t_92_9 : tb_in 92 9 = some (.aload_n 0, 0, 0, 0, []) := by decide +kernel
theorem t_92_10 : tb_in 92 10 = some (.getfield 15, 4, 1, 0, []) := by decide +kernel
theorem t_92_13 : tb_in 92 13 = some (.if_icmp .ge 23, 36, 0, 0, []) := by decide +kernel
theorem t_92_16 : tb_in 92 16 = some (.iload_n 2, 0, 0, 0, []) := by decide +kernel
theorem t_92_17 : tb_in 92 17 = some (.aload_n 0, 0, 0, 0, []) := by decide +kernel
theorem t_92_18 : tb_in 92 18 = some (.getfield 9, 4, 0, 0, []) := by decide +kernel
theorem t_92_21 : tb_in 92 21 = some (.iload_n 3, 0, 0, 0, []) := by decide +kernel
theorem t_92_22 : tb_in 92 22 = some (.caload, 0, 0, 0, []) := by decide +kernel
theorem t_92_23 : tb_in 92 23 = some (.invokestatic 23, 88, 1, 0, []) := by decide +kernel
theorem t_92_26 : tb_in 92 26 = some (.iconst 1, 0, 0, 1, []) := by decide +kernel
theorem t_92_27 : tb_in 92 27 = some (.isub, 0, 0, 0, []) := by decide +kernel
theorem t_92_28 : tb_in 92 28 = some (.iadd, 0, 0, 0, []) := by decide +kernel
theorem t_92_29 : tb_in 92 29 = some (.istore_n 2, 0, 0, 0, []) := by decide +kernel
theorem t_92_30 : tb_in 92 30 = some (.iinc 3 1, 0, 0, 1, []) := by decide +kernel
theorem t_92_33 : tb_in 92 33 = some (.goto (-29), 4, 0, 0, []) := by decide +kernel
theorem t_92_36 : tb_in 92 36 = some (.iload_n 3, 0, 0, 0, []) := by decide +kernel
theorem t_92_37 : tb_in 92 37 = some (.ireturn, 0, 0, 0, []) := by decide +kernel
theorem t_93_0 : tb_in 93 0 = some (.aload_n 0, 0, 0, 0, []) := by decide +kernel
theorem t_93_1 : tb_in 93 1 = some (.invokespecial 3, 1000, 0, 0, []) := by decide +kernel
theorem t_93_4 : tb_in 93 4 = some (.aload_n 0, 0, 0, 0, []) := by decide +kernel
theorem t_93_5 : tb_in 93 5 = some (.iconst (-1), 0, 0, (-1), []) := by decide +kernel
theorem t_93_6 : tb_in 93 6 = some (.putfield 9, 5, 0, 0, []) := by decide +kernel
theorem t_93_9 : tb_in 93 9 = some (.aload_n 0, 0, 0, 0, []) := by decide +kernel
theorem t_93_10 : tb_in 93 10 = some (.iconst 0, 0, 0, 0, []) := by decide +kernel
theorem t_93_11 : tb_in 93 11 = some (.putfield 15, 5, 1, 0, []) := by decide +kernel
theorem t_93_14 : tb_in 93 14 = some (.aload_n 0, 0, 0, 0, []) := by decide +kernel
theorem t_93_15 : tb_in 93 15 = some (.bipush 24, 0, 0, 24, []) := by decide +kernel
theorem t_93_17 : tb_in 93 17 = some (.newarray .int, 0, 0, 0, []) := by decide +kernel
theorem t_93_19 : tb_in 93 19 = some (.putfield 18, 5, 2, 0, []) := by decide +kernel
theorem t_93_22 : tb_in 93 22 = some (.aload_n 0, 0, 0, 0, []) := by decide +kernel
theorem t_93_23 : tb_in 93 23 = some (.iconst 0, 0, 0, 0, []) := by decide +kernel
theorem t_93_24 : tb_in 93 24 = some (.putfield 22, 5, 3, 0, []) := by decide +kernel
theorem t_93_27 : tb_in 93 27 = some (.aload_n 0, 0, 0, 0, []) := by decide +kernel
theorem t_93_28 : tb_in 93 28 = some (.new 25, 4, 0, 0, []) := by decide +kernel
theorem t_93_31 : tb_in 93 31 = some (.dup, 0, 0, 0, []) := by decide +kernel
theorem t_93_32 : tb_in 93 32 = some (.invokespecial 27, 87, 1, 0, []) := by decide +kernel
theorem t_93_35 : tb_in 93 35 = some (.putfield 28, 5, 4, 0, []) := by decide +kernel
theorem t_93_38 : tb_in 93 38 = some (.aload_n 0, 0, 0, 0, []) := by decide +kernel
theorem t_93_39 : tb_in 93 39 = some (.iconst 0, 0, 0, 0, []) := by decide +kernel
theorem t_93_40 : tb_in 93 40 = some (.putfield 32, 5, 5, 0, []) := by decide +kernel
theorem t_93_43 : tb_in 93 43 = some (.aload_n 0, 0, 0, 0, []) := by decide +kernel
theorem t_93_44 : tb_in 93 44 = some (.iconst 0, 0, 0, 0, []) := by decide +kernel
theorem t_93_45 : tb_in 93 45 = some (.putfield 35, 5, 6, 0, []) := by decide +kernel
theorem t_93_48 : tb_in 93 48 = some (.aload_n 0, 0, 0, 0, []) := by decide +kernel
theorem t_93_49 : tb_in 93 49 = some (.bipush 24, 0, 0, 24, []) := by decide +kernel
theorem t_93_51 : tb_in 93 51 = some (.newarray .char, 0, 0, 0, []) := by decide +kernel
theorem t_93_53 : tb_in 93 53 = some (.putfield 38, 5, 7, 0, []) := by decide +kernel
theorem t_93_56 : tb_in 93 56 = some (.aload_n 0, 0, 0, 0, []) := by decide +kernel
theorem t_93_57 : tb_in 93 57 = some (.bipush 24, 0, 0, 24, []) := by decide +kernel
theorem t_93_59 : tb_in 93 59 = some (.newarray .boolean, 0, 0, 0, []) := by decide +kernel
theorem t_93_61 : tb_in 93 61 = some (.putfield 42, 5, 8, 0, []) := by decide +kernel
theorem t_93_64 : tb_in 93 64 = some (.aload_n 0, 0, 0, 0, []) := by decide +kernel
theorem t_93_65 : tb_in 93 65 = some (.bipush 24, 0, 0, 24, []) := by decide +kernel
theorem t_93_67 : tb_in 93 67 = some (.newarray .int, 0, 0, 0, []) := by decide +kernel
theorem t_93_69 : tb_in 93 69 = some (.putfield 46, 5, 9, 0, []) := by decide +kernel
theorem t_93_72 : tb_in 93 72 = some (.aload_n 0, 0, 0, 0, []) := by decide +kernel
theorem t_93_73 : tb_in 93 73 = some (.iconst 0, 0, 0, 0, []) := by decide +kernel
theorem t_93_74 : tb_in 93 74 = some (.putfield 49, 5, 10, 0, []) := by decide +kernel
theorem t_93_77 : tb_in 93 77 = some (.return_, 0, 0, 0, []) := by decide +kernel
theorem t_94_0 : tb_in 94 0 = some (.aload_n 0, 0, 0, 0, []) := by decide +kernel
theorem t_94_1 : tb_in 94 1 = some (.iconst (-1), 0, 0, (-1), []) := by decide +kernel
theorem t_94_2 : tb_in 94 2 = some (.putfield 9, 5, 0, 0, []) := by decide +kernel
theorem t_94_5 : tb_in 94 5 = some (.aload_n 0, 0, 0, 0, []) := by decide +kernel
theorem t_94_6 : tb_in 94 6 = some (.iconst 0, 0, 0, 0, []) := by decide +kernel
theorem t_94_7 : tb_in 94 7 = some (.putfield 22, 5, 3, 0, []) := by decide +kernel
theorem t_94_10 : tb_in 94 10 = some (.aload_n 0, 0, 0, 0, []) := by decide +kernel
theorem t_94_11 : tb_in 94 11 = some (.aload_n 1, 0, 0, 0, []) := by decide +kernel
theorem t_94_12 : tb_in 94 12 = some (.putfield 28, 5, 4, 0, []) := by decide +kernel
theorem t_94_15 : tb_in 94 15 = some (.aload_n 0, 0, 0, 0, []) := by decide +kernel
theorem t_94_16 : tb_in 94 16 = some (.iload_n 2, 0, 0, 0, []) := by decide +kernel
theorem t_94_17 : tb_in 94 17 = some (.putfield 32, 5, 5, 0, []) := by decide +kernel
theorem t_94_20 : tb_in 94 20 = some (.aload_n 0, 0, 0, 0, []) := by decide +kernel
theorem t_94_21 : tb_in 94 21 = some (.iconst 0, 0, 0, 0, []) := by decide +kernel
theorem t_94_22 : tb_in 94 22 = some (.putfield 35, 5, 6, 0, []) := by decide +kernel
theorem t_94_25 : tb_in 94 25 = some (.aload_n 0, 0, 0, 0, []) := by decide +kernel
theorem t_94_26 : tb_in 94 26 = some (.iconst 0, 0, 0, 0, []) := by decide +kernel
theorem t_94_27 : tb_in 94 27 = some (.putfield 49, 5, 10, 0, []) := by decide +kernel
theorem t_94_30 : tb_in 94 30 = some (.return_, 0, 0, 0, []) := by decide +kernel
theorem t_95_0 : tb_in 95 0 = some (.iconst 0, 0, 0, 0, []) := by decide +kernel
theorem t_95_1 : tb_in 95 1 = some (.istore_n 1, 0, 0, 0, []) := by decide +kernel
theorem t_95_2 : tb_in 95 2 = some (.iload_n 1, 0, 0, 0, []) := by decide +kernel
theorem t_95_3 : tb_in 95 3 = some (.bipush 24, 0, 0, 24, []) := by decide +kernel
theorem t_95_5 : tb_in 95 5 = some (.if_icmp .ge 90, 95, 0, 0, []) := by decide +kernel
theorem t_95_8 : tb_in 95 8 = some (.aload_n 0, 0, 0, 0, []) := by decide +kernel
theorem t_95_9 : tb_in 95 9 = some (.getfield 9, 5, 0, 0, []) := by decide +kernel
theorem t_95_12 : tb_in 95 12 = some (.iconst (-1), 0, 0, (-1), []) := by decide +kernel
theorem t_95_13 : tb_in 95 13 = some (.if_icmp .ne 82, 95, 0, 0, []) := by decide +kernel
theorem t_95_16 : tb_in 95 16 = some (.aload_n 0, 0, 0, 0, []) := by decide +kernel
theorem t_95_17 : tb_in 95 17 = some (.getfield 35, 5, 6, 0, []) := by decide +kernel
theorem t_95_20 : tb_in 95 20 = some (.aload_n 0, 0, 0, 0, []) := by decide +kernel
theorem t_95_21 : tb_in 95 21 = some (.getfield 28, 5, 4, 0, []) := by decide +kernel
theorem t_95_24 : tb_in 95 24 = some (.getfield 52, 4, 1, 0, []) := by decide +kernel
theorem t_95_27 : tb_in 95 27 = some (.if_icmp .ge 68, 95, 0, 0, []) := by decide +kernel
theorem t_95_30 : tb_in 95 30 = some (.aload_n 0, 0, 0, 0, []) := by decide +kernel
theorem t_95_31 : tb_in 95 31 = some (.getfield 28, 5, 4, 0, []) := by decide +kernel
theorem t_95_34 : tb_in 95 34 = some (.getfield 55, 4, 0, 0, []) := by decide +kernel
theorem t_95_37 : tb_in 95 37 = some (.aload_n 0, 0, 0, 0, []) := by decide +kernel
theorem t_95_38 : tb_in 95 38 = some (.getfield 35, 5, 6, 0, []) := by decide +kernel
theorem t_95_41 : tb_in 95 41 = some (.caload, 0, 0, 0, []) := by decide +kernel
theorem t_95_42 : tb_in 95 42 = some (.istore_n 2, 0, 0, 0, []) := by decide +kernel
theorem t_95_43 : tb_in 95 43 = some (.aload_n 0, 0, 0, 0, []) := by decide +kernel
theorem t_95_44 : tb_in 95 44 = some (.dup, 0, 0, 0, []) := by decide +kernel
theorem t_95_45 : tb_in 95 45 = some (.getfield 35, 5, 6, 0, []) := by decide +kernel
theorem t_95_48 : tb_in 95 48 = some (.iconst 1, 0, 0, 1, []) := by decide +kernel
theorem t_95_49 : tb_in 95 49 = some (.iadd, 0, 0, 0, []) := by decide +kernel
theorem t_95_50 : tb_in 95 50 = some (.putfield 35, 5, 6, 0, []) := by decide +kernel
theorem t_95_53 : tb_in 95 53 = some (.iload_n 2, 0, 0, 0, []) := by decide +kernel
theorem t_95_54 : tb_in 95 54 = some (.invokestatic 58, 88, 1, 0, []) := by decide +kernel
theorem t_95_57 : tb_in 95 57 = some (.ifCond .le 11, 68, 0, 0, []) := by decide +kernel
theorem t_95_60 : tb_in 95 60 = some (.aload_n 0, 0, 0, 0, []) := by decide +kernel
theorem t_95_61 : tb_in 95 61 = some (.iload_n 2, 0, 0, 0, []) := by decide +kernel
theorem t_95_62 : tb_in 95 62 = some (.invokevirtual 62, 98, 2, 0, []) := by decide +kernel
theorem t_95_65 : tb_in 95 65 = some (.goto 24, 89, 0, 0, []) := by decide +kernel
theorem t_95_68 : tb_in 95 68 = some (.aload_n 0, 0, 0, 0, []) := by decide +kernel
theorem t_95_69 : tb_in 95 69 = some (.iload_n 2, 0, 0, 0, []) := by decide +kernel
theorem t_95_70 : tb_in 95 70 = some (.bipush 107, 0, 0, 107, []) := by decide +kernel
theorem t_95_72 : tb_in 95 72 = some (.if_icmp .ne 10, 82, 0, 0, []) := by decide +kernel
theorem t_95_75 : tb_in 95 75 = some (.aload_n 0, 0, 0, 0, []) := by decide +kernel
theorem t_95_76 : tb_in 95 76 = some (.getfield 32, 5, 5, 0, []) := by decide +kernel
theorem t_95_79 : tb_in 95 79 = some (.goto 7, 86, 0, 0, []) := by decide +kernel
theorem t_95_82 : tb_in 95 82 = some (.iload_n 2, 0, 0, 0, []) := by decide +kernel
theorem t_95_83 : tb_in 95 83 = some (.bipush 48, 0, 0, 48, []) := by decide +kernel
theorem t_95_85 : tb_in 95 85 = some (.isub, 0, 0, 0, []) := by decide +kernel
theorem t_95_86 : tb_in 95 86 = some (.invokevirtual 66, 99, 2, 0, []) := by decide +kernel
theorem t_95_89 : tb_in 95 89 = some (.iinc 1 1, 0, 0, 1, []) := by decide +kernel
theorem t_95_92 : tb_in 95 92 = some (.goto (-90), 2, 0, 0, []) := by decide +kernel
theorem t_95_95 : tb_in 95 95 = some (.return_, 0, 0, 0, []) := by decide +kernel
theorem t_96_0 : tb_in 96 0 = some (.aload_n 0, 0, 0, 0, []) := by decide +kernel
theorem t_96_1 : tb_in 96 1 = some (.aload_n 0, 0, 0, 0, []) := by decide +kernel
theorem t_96_2 : tb_in 96 2 = some (.getfield 9, 5, 0, 0, []) := by decide +kernel
theorem t_96_5 : tb_in 96 5 = some (.invokevirtual 70, 97, 2, 0, []) := by decide +kernel
theorem t_96_8 : tb_in 96 8 = some (.aload_n 0, 0, 0, 0, []) := by decide +kernel
theorem t_96_9 : tb_in 96 9 = some (.iconst (-1), 0, 0, (-1), []) := by decide +kernel
theorem t_96_10 : tb_in 96 10 = some (.putfield 9, 5, 0, 0, []) := by decide +kernel
theorem t_96_13 : tb_in 96 13 = some (.aload_n 0, 0, 0, 0, []) := by decide +kernel
theorem t_96_14 : tb_in 96 14 = some (.iload_n 1, 0, 0, 0, []) := by decide +kernel
theorem t_96_15 : tb_in 96 15 = some (.invokevirtual 66, 99, 2, 0, []) := by decide +kernel
theorem t_96_18 : tb_in 96 18 = some (.return_, 0, 0, 0, []) := by decide +kernel
theorem t_97_0 : tb_in 97 0 = some (.iconst 0, 0, 0, 0, []) := by decide +kernel
theorem t_97_1 : tb_in 97 1 = some (.istore_n 2, 0, 0, 0, []) := by decide +kernel
theorem t_97_2 : tb_in 97 2 = some (.iload_n 2, 0, 0, 0, []) := by decide +kernel
theorem t_97_3 : tb_in 97 3 = some (.aload_n 0, 0, 0, 0, []) := by decide +kernel
theorem t_97_4 : tb_in 97 4 = some (.getfield 22, 5, 3, 0, []) := by decide +kernel
theorem t_97_7 : tb_in 97 7 = some (.if_icmp .ge 20, 27, 0, 0, []) := by decide +kernel
theorem t_97_10 : tb_in 97 10 = some (.aload_n 0, 0, 0, 0, []) := by decide +kernel
theorem t_97_11 : tb_in 97 11 = some (.getfield 18, 5, 2, 0, []) := by decide +kernel
theorem t_97_14 : tb_in 97 14 = some (.iload_n 2, 0, 0, 0, []) := by decide +kernel
theorem t_97_15 : tb_in 97 15 = some (.iaload, 0, 0, 0, []) := by decide +kernel
theorem t_97_16 : tb_in 97 16 = some (.iload_n 1, 0, 0, 0, []) := by decide +kernel
theorem t_97_17 : tb_in 97 17 = some (.if_icmp .ne 4, 21, 0, 0, []) := by decide +kernel
theorem t_97_20 : tb_in 97 20 = some (.return_, 0, 0, 0, []) := by decide +kernel
theorem t_97_21 : tb_in 97 21 = some (.iinc 2 1, 0, 0, 1, []) := by decide +kernel
theorem t_97_24 : tb_in 97 24 = some (.goto (-22), 2, 0, 0, []) := by decide +kernel
theorem t_97_27 : tb_in 97 27 = some (.aload_n 0, 0, 0, 0, []) := by decide +kernel
theorem t_97_28 : tb_in 97 28 = some (.getfield 18, 5, 2, 0, []) := by decide +kernel
theorem t_97_31 : tb_in 97 31 = some (.aload_n 0, 0, 0, 0, []) := by decide +kernel
theorem t_97_32 : tb_in 97 32 = some (.getfield 22, 5, 3, 0, []) := by decide +kernel
theorem t_97_35 : tb_in 97 35 = some (.iload_n 1, 0, 0, 0, []) := by decide +kernel
theorem t_97_36 : tb_in 97 36 = some (.iastore, 0, 0, 0, []) := by decide +kernel
theorem t_97_37 : tb_in 97 37 = some (.aload_n 0, 0, 0, 0, []) := by decide +kernel
theorem t_97_38 : tb_in 97 38 = some (.dup, 0, 0, 0, []) := by decide +kernel
theorem t_97_39 : tb_in 97 39 = some (.getfield 22, 5, 3, 0, []) := by decide +kernel
theorem t_97_42 : tb_in 97 42 = some (.iconst 1, 0, 0, 1, []) := by decide +kernel
theorem t_97_43 : tb_in 97 43 = some (.iadd, 0, 0, 0, []) := by decide +kernel
theorem t_97_44 : tb_in 97 44 = some (.putfield 22, 5, 3, 0, []) := by decide +kernel
theorem t_97_47 : tb_in 97 47 = some (.return_, 0, 0, 0, []) := by decide +kernel
theorem t_98_0 : tb_in 98 0 = some (.aload_n 0, 0, 0, 0, []) := by decide +kernel
theorem t_98_1 : tb_in 98 1 = some (.getfield 38, 5, 7, 0, []) := by decide +kernel
theorem t_98_4 : tb_in 98 4 = some (.aload_n 0, 0, 0, 0, []) := by decide +kernel
theorem t_98_5 : tb_in 98 5 = some (.getfield 49, 5, 10, 0, []) := by decide +kernel
theorem t_98_8 : tb_in 98 8 = some (.iload_n 1, 0, 0, 0, []) := by decide +kernel
theorem t_98_9 : tb_in 98 9 = some (.castore, 0, 0, 0, []) := by decide +kernel
theorem t_98_10 : tb_in 98 10 = some (.aload_n 0, 0, 0, 0, []) := by decide +kernel
theorem t_98_11 : tb_in 98 11 = some (.getfield 42, 5, 8, 0, []) := by decide +kernel
theorem t_98_14 : tb_in 98 14 = some (.aload_n 0, 0, 0, 0, []) := by decide +kernel
theorem t_98_15 : tb_in 98 15 = some (.getfield 49, 5, 10, 0, []) := by decide +kernel
theorem t_98_18 : tb_in 98 18 = some (.iconst 0, 0, 0, 0, []) := by decide +kernel
theorem t_98_19 : tb_in 98 19 = some (.bastore, 0, 0, 0, []) := by decide +kernel
theorem t_98_20 : tb_in 98 20 = some (.aload_n 0, 0, 0, 0, []) := by decide +kernel
theorem t_98_21 : tb_in 98 21 = some (.dup, 0, 0, 0, []) := by decide +kernel
theorem t_98_22 : tb_in 98 22 = some (.getfield 49, 5, 10, 0, []) := by decide +kernel
theorem t_98_25 : tb_in 98 25 = some (.iconst 1, 0, 0, 1, []) := by decide +kernel
theorem t_98_26 : tb_in 98 26 = some (.iadd, 0, 0, 0, []) := by decide +kernel
theorem t_98_27 : tb_in 98 27 = some (.putfield 49, 5, 10, 0, []) := by decide +kernel
theorem t_98_30 : tb_in 98 30 = some (.return_, 0, 0, 0, []) := by decide +kernel
theorem t_99_0 : tb_in 99 0 = some (.aload_n 0, 0, 0, 0, []) := by decide +kernel
theorem t_99_1 : tb_in 99 1 = some (.iload_n 1, 0, 0, 0, []) := by decide +kernel
theorem t_99_2 : tb_in 99 2 = some (.putfield 15, 5, 1, 0, []) := by decide +kernel
theorem t_99_5 : tb_in 99 5 = some (.aload_n 0, 0, 0, 0, []) := by decide +kernel
theorem t_99_6 : tb_in 99 6 = some (.getfield 49, 5, 10, 0, []) := by decide +kernel
theorem t_99_9 : tb_in 99 9 = some (.iconst 1, 0, 0, 1, []) := by decide +kernel
theorem t_99_10 : tb_in 99 10 = some (.isub, 0, 0, 0, []) := by decide +kernel
theorem t_99_11 : tb_in 99 11 = some (.istore_n 2, 0, 0, 0, []) := by decide +kernel
theorem t_99_12 : tb_in 99 12 = some (.iload_n 2, 0, 0, 0, []) := by decide +kernel
theorem t_99_13 : tb_in 99 13 = some (.ifCond .lt 81, 94, 0, 0, []) := by decide +kernel
theorem t_99_16 : tb_in 99 16 = some (.aload_n 0, 0, 0, 0, []) := by decide +kernel
theorem t_99_17 : tb_in 99 17 = some (.getfield 38, 5, 7, 0, []) := by decide +kernel
theorem t_99_20 : tb_in 99 20 = some (.iload_n 2, 0, 0, 0, []) := by decide +kernel
theorem t_99_21 : tb_in 99 21 = some (.caload, 0, 0, 0, []) := by decide +kernel
theorem t_99_22 : tb_in 99 22 = some (.istore_n 3, 0, 0, 0, []) := by decide +kernel
theorem t_99_23 : tb_in 99 23 = some (.aload_n 0, 0, 0, 0, []) := by decide +kernel
theorem t_99_24 : tb_in 99 24 = some (.iload_n 2, 0, 0, 0, []) := by decide +kernel
theorem t_99_25 : tb_in 99 25 = some (.putfield 49, 5, 10, 0, []) := by decide +kernel
theorem t_99_28 : tb_in 99 28 = some (.iload_n 3, 0, 0, 0, []) := by decide +kernel
theorem t_99_29 : tb_in 99 29 = some (.bipush 58, 0, 0, 58, []) := by decide +kernel
theorem t_99_31 : tb_in 99 31 = some (.if_icmp .ne 21, 52, 0, 0, []) := by decide +kernel
theorem t_99_34 : tb_in 99 34 = some (.aload_n 0, 0, 0, 0, []) := by decide +kernel
theorem t_99_35 : tb_in 99 35 = some (.aload_n 0, 0, 0, 0, []) := by decide +kernel
theorem t_99_36 : tb_in 99 36 = some (.getfield 28, 5, 4, 0, []) := by decide +kernel
theorem t_99_39 : tb_in 99 39 = some (.aload_n 0, 0, 0, 0, []) := by decide +kernel
theorem t_99_40 : tb_in 99 40 = some (.getfield 35, 5, 6, 0, []) := by decide +kernel
theorem t_99_43 : tb_in 99 43 = some (.invokevirtual 73, 92, 2, 0, []) := by decide +kernel
theorem t_99_46 : tb_in 99 46 = some (.putfield 35, 5, 6, 0, []) := by decide +kernel
theorem t_99_49 : tb_in 99 49 = some (.goto 39, 88, 0, 0, []) := by decide +kernel
theorem t_99_52 : tb_in 99 52 = some (.aload_n 0, 0, 0, 0, []) := by decide +kernel
theorem t_99_53 : tb_in 99 53 = some (.getfield 42, 5, 8, 0, []) := by decide +kernel
theorem t_99_56 : tb_in 99 56 = some (.iload_n 2, 0, 0, 0, []) := by decide +kernel
theorem t_99_57 : tb_in 99 57 = some (.baload, 0, 0, 0, []) := by decide +kernel
theorem t_99_58 : tb_in 99 58 = some (.ifCond .eq 24, 82, 0, 0, []) := by decide +kernel
theorem t_99_61 : tb_in 99 61 = some (.aload_n 0, 0, 0, 0, []) := by decide +kernel
theorem t_99_62 : tb_in 99 62 = some (.iload_n 3, 0, 0, 0, []) := by decide +kernel
theorem t_99_63 : tb_in 99 63 = some (.aload_n 0, 0, 0, 0, []) := by decide +kernel
theorem t_99_64 : tb_in 99 64 = some (.getfield 46, 5, 9, 0, []) := by decide +kernel
theorem t_99_67 : tb_in 99 67 = some (.iload_n 2, 0, 0, 0, []) := by decide +kernel
theorem t_99_68 : tb_in 99 68 = some (.iaload, 0, 0, 0, []) := by decide +kernel
theorem t_99_69 : tb_in 99 69 = some (.aload_n 0, 0, 0, 0, []) := by decide +kernel
theorem t_99_70 : tb_in 99 70 = some (.getfield 15, 5, 1, 0, []) := by decide +kernel
theorem t_99_73 : tb_in 99 73 = some (.invokestatic 77, 102, 3, 0, []) := by decide +kernel
theorem t_99_76 : tb_in 99 76 = some (.putfield 15, 5, 1, 0, []) := by decide +kernel
theorem t_99_79 : tb_in 99 79 = some (.goto 9, 88, 0, 0, []) := by decide +kernel
theorem t_99_82 : tb_in 99 82 = some (.aload_n 0, 0, 0, 0, []) := by decide +kernel
theorem t_99_83 : tb_in 99 83 = some (.iload_n 3, 0, 0, 0, []) := by decide +kernel
theorem t_99_84 : tb_in 99 84 = some (.invokevirtual 81, 100, 2, 0, []) := by decide +kernel
theorem t_99_87 : tb_in 99 87 = some (.return_, 0, 0, 0, []) := by decide +kernel
theorem t_99_88 : tb_in 99 88 = some (.iinc 2 (-1), 0, 0, (-1), []) := by decide +kernel
theorem t_99_91 : tb_in 99 91 = some (.goto (-79), 12, 0, 0, []) := by decide +kernel
theorem t_99_94 : tb_in 99 94 = some (.return_, 0, 0, 0, []) := by decide +kernel
theorem t_100_0 : tb_in 100 0 = some (.iload_n 1, 0, 0, 0, []) := by decide +kernel
theorem t_100_1 : tb_in 100 1 = some (.invokestatic 58, 88, 1, 0, []) := by decide +kernel
theorem t_100_4 : tb_in 100 4 = some (.iconst 1, 0, 0, 1, []) := by decide +kernel
theorem t_100_5 : tb_in 100 5 = some (.if_icmp .ne 21, 26, 0, 0, []) := by decide +kernel
theorem t_100_8 : tb_in 100 8 = some (.aload_n 0, 0, 0, 0, []) := by decide +kernel
theorem t_100_9 : tb_in 100 9 = some (.iload_n 1, 0, 0, 0, []) := by decide +kernel
theorem t_100_10 : tb_in 100 10 = some (.aload_n 0, 0, 0, 0, []) := by decide +kernel
theorem t_100_11 : tb_in 100 11 = some (.getfield 15, 5, 1, 0, []) := by decide +kernel
theorem t_100_14 : tb_in 100 14 = some (.bipush 15, 0, 0, 15, []) := by decide +kernel
theorem t_100_16 : tb_in 100 16 = some (.iand, 0, 0, 0, []) := by decide +kernel
theorem t_100_17 : tb_in 100 17 = some (.invokestatic 84, 101, 2, 0, []) := by decide +kernel
theorem t_100_20 : tb_in 100 20 = some (.putfield 9, 5, 0, 0, []) := by decide +kernel
theorem t_100_23 : tb_in 100 23 = some (.goto 76, 99, 0, 0, []) := by decide +kernel
theorem t_100_26 : tb_in 100 26 = some (.iload_n 1, 0, 0, 0, []) := by decide +kernel
theorem t_100_27 : tb_in 100 27 = some (.bipush 63, 0, 0, 63, []) := by decide +kernel
theorem t_100_29 : tb_in 100 29 = some (.if_icmp .eq 39, 68, 0, 0, []) := by decide +kernel
theorem t_100_32 : tb_in 100 32 = some (.aload_n 0, 0, 0, 0, []) := by decide +kernel
theorem t_100_33 : tb_in 100 33 = some (.getfield 46, 5, 9, 0, []) := by decide +kernel
theorem t_100_36 : tb_in 100 36 = some (.aload_n 0, 0, 0, 0, []) := by decide +kernel
theorem t_100_37 : tb_in 100 37 = some (.getfield 49, 5, 10, 0, []) := by decide +kernel
theorem t_100_40 : tb_in 100 40 = some (.aload_n 0, 0, 0, 0, []) := by decide +kernel
theorem t_100_41 : tb_in 100 41 = some (.getfield 15, 5, 1, 0, []) := by decide +kernel
theorem t_100_44 : tb_in 100 44 = some (.iastore, 0, 0, 0, []) := by decide +kernel
theorem t_100_45 : tb_in 100 45 = some (.aload_n 0, 0, 0, 0, []) := by decide +kernel
theorem t_100_46 : tb_in 100 46 = some (.getfield 42, 5, 8, 0, []) := by decide +kernel
theorem t_100_49 : tb_in 100 49 = some (.aload_n 0, 0, 0, 0, []) := by decide +kernel
theorem t_100_50 : tb_in 100 50 = some (.getfield 49, 5, 10, 0, []) := by decide +kernel
theorem t_100_53 : tb_in 100 53 = some (.iconst 1, 0, 0, 1, []) := by decide +kernel
theorem t_100_54 : tb_in 100 54 = some (.bastore, 0, 0, 0, []) := by decide +kernel
theorem t_100_55 : tb_in 100 55 = some (.aload_n 0, 0, 0, 0, []) := by decide +kernel
theorem t_100_56 : tb_in 100 56 = some (.dup, 0, 0, 0, []) := by decide +kernel
theorem t_100_57 : tb_in 100 57 = some (.getfield 49, 5, 10, 0, []) := by decide +kernel
theorem t_100_60 : tb_in 100 60 = some (.iconst 1, 0, 0, 1, []) := by decide +kernel
theorem t_100_61 : tb_in 100 61 = some (.iadd, 0, 0, 0, []) := by decide +kernel
theorem t_100_62 : tb_in 100 62 = some (.putfield 49, 5, 10, 0, []) := by decide +kernel
theorem t_100_65 : tb_in 100 65 = some (.goto 34, 99, 0, 0, []) := by decide +kernel
theorem t_100_68 : tb_in 100 68 = some (.aload_n 0, 0, 0, 0, []) := by decide +kernel
theorem t_100_69 : tb_in 100 69 = some (.getfield 15, 5, 1, 0, []) := by decide +kernel
theorem t_100_72 : tb_in 100 72 = some (.ifCond .eq 12, 84, 0, 0, []) := by decide +kernel
theorem t_100_75 : tb_in 100 75 = some (.aload_n 0, 0, 0, 0, []) := by decide +kernel
theorem t_100_76 : tb_in 100 76 = some (.bipush 58, 0, 0, 58, []) := by decide +kernel
theorem t_100_78 : tb_in 100 78 = some (.invokevirtual 62, 98, 2, 0, []) := by decide +kernel
theorem t_100_81 : tb_in 100 81 = some (.goto 18, 99, 0, 0, []) := by decide +kernel
theorem t_100_84 : tb_in 100 84 = some (.aload_n 0, 0, 0, 0, []) := by decide +kernel
theorem t_100_85 : tb_in 100 85 = some (.aload_n 0, 0, 0, 0, []) := by decide +kernel
theorem t_100_86 : tb_in 100 86 = some (.getfield 28, 5, 4, 0, []) := by decide +kernel
theorem t_100_89 : tb_in 100 89 = some (.aload_n 0, 0, 0, 0, []) := by decide +kernel
theorem t_100_90 : tb_in 100 90 = some (.getfield 35, 5, 6, 0, []) := by decide +kernel
theorem t_100_93 : tb_in 100 93 = some (.invokevirtual 73, 92, 2, 0, []) := by decide +kernel
theorem t_100_96 : tb_in 100 96 = some (.putfield 35, 5, 6, 0, []) := by decide +kernel
theorem t_100_99 : tb_in 100 99 = some (.return_, 0, 0, 0, []) := by decide +kernel
theorem t_101_0 : tb_in 101 0 = some (.iload_n 0, 0, 0, 0, []) := by decide +kernel
theorem t_101_1 : tb_in 101 1 = some (.bipush 103, 0, 0, 103, []) := by decide +kernel
theorem t_101_3 : tb_in 101 3 = some (.if_icmp .lt 15, 18, 0, 0, []) := by decide +kernel
theorem t_101_6 : tb_in 101 6 = some (.iload_n 0, 0, 0, 0, []) := by decide +kernel
theorem t_101_7 : tb_in 101 7 = some (.bipush 103, 0, 0, 103, []) := by decide +kernel
theorem t_101_9 : tb_in 101 9 = some (.isub, 0, 0, 0, []) := by decide +kernel
theorem t_101_10 : tb_in 101 10 = some (.bipush 16, 0, 0, 16, []) := by decide +kernel
theorem t_101_12 : tb_in 101 12 = some (.imul, 0, 0, 0, []) := by decide +kernel
theorem t_101_13 : tb_in 101 13 = some (.iload_n 1, 0, 0, 0, []) := by decide +kernel
theorem t_101_14 : tb_in 101 14 = some (.iadd, 0, 0, 0, []) := by decide +kernel
theorem t_101_15 : tb_in 101 15 = some (.goto 15, 30, 0, 0, []) := by decide +kernel
theorem t_101_18 : tb_in 101 18 = some (.bipush 100, 0, 0, 100, []) := by decide +kernel
theorem t_101_20 : tb_in 101 20 = some (.iload_n 0, 0, 0, 0, []) := by decide +kernel
theorem t_101_21 : tb_in 101 21 = some (.bipush 65, 0, 0, 65, []) := by decide +kernel
theorem t_101_23 : tb_in 101 23 = some (.isub, 0, 0, 0, []) := by decide +kernel
theorem t_101_24 : tb_in 101 24 = some (.bipush 16, 0, 0, 16, []) := by decide +kernel
theorem t_101_26 : tb_in 101 26 = some (.imul, 0, 0, 0, []) := by decide +kernel
theorem t_101_27 : tb_in 101 27 = some (.iadd, 0, 0, 0, []) := by decide +kernel
theorem t_101_28 : tb_in 101 28 = some (.iload_n 1, 0, 0, 0, []) := by decide +kernel
theorem t_101_29 : tb_in 101 29 = some (.iadd, 0, 0, 0, []) := by decide +kernel
theorem t_101_30 : tb_in 101 30 = some (.ireturn, 0, 0, 0, []) := by decide +kernel
theorem t_102_0 : tb_in 102 0 = some (.iload_n 0, 0, 0, 0, []) := by decide +kernel
theorem t_102_1 : tb_in 102 1 = some (.bipush 43, 0, 0, 43, []) := by decide +kernel
theorem t_102_3 : tb_in 102 3 = some (.if_icmp .ne 7, 10, 0, 0, []) := by decide +kernel
theorem t_102_6 : tb_in 102 6 = some (.iload_n 1, 0, 0, 0, []) := by decide +kernel
theorem t_102_7 : tb_in 102 7 = some (.iload_n 2, 0, 0, 0, []) := by decide +kernel
theorem t_102_8 : tb_in 102 8 = some (.iadd, 0, 0, 0, []) := by decide +kernel
theorem t_102_9 : tb_in 102 9 = some (.ireturn, 0, 0, 0, []) := by decide +kernel
theorem t_102_10 : tb_in 102 10 = some (.iload_n 0, 0, 0, 0, []) := by decide +kernel
theorem t_102_11 : tb_in 102 11 = some (.bipush 45, 0, 0, 45, []) := by decide +kernel
theorem t_102_13 : tb_in 102 13 = some (.if_icmp .ne 9, 22, 0, 0, []) := by decide +kernel
theorem t_102_16 : tb_in 102 16 = some (.iload_n 1, 0, 0, 0, []) := by decide +kernel
theorem t_102_17 : tb_in 102 17 = some (.iload_n 2, 0, 0, 0, []) := by decide +kernel
theorem t_102_18 : tb_in 102 18 = some (.isub, 0, 0, 0, []) := by decide +kernel
theorem t_102_19 : tb_in 102 19 = some (.goto 6, 25, 0, 0, []) := by decide +kernel
theorem t_102_22 : tb_in 102 22 = some (.iload_n 1, 0, 0, 0, []) := by decide +kernel
theorem t_102_23 : tb_in 102 23 = some (.iload_n 2, 0, 0, 0, []) := by decide +kernel
theorem t_102_24 : tb_in 102 24 = some (.imul, 0, 0, 0, []) := by decide +kernel
theorem t_102_25 : tb_in 102 25 = some (.ireturn, 0, 0, 0, []) := by decide +kernel
theorem t_103_0 : tb_in 103 0 = some (.aload_n 2, 0, 0, 0, []) := by decide +kernel
theorem t_103_1 : tb_in 103 1 = some (.iconst 0, 0, 0, 0, []) := by decide +kernel
theorem t_103_2 : tb_in 103 2 = some (.aload_n 0, 0, 0, 0, []) := by decide +kernel
theorem t_103_3 : tb_in 103 3 = some (.iload_n 1, 0, 0, 0, []) := by decide +kernel
theorem t_103_4 : tb_in 103 4 = some (.invokevirtual 7, 3, 2, 0, []) := by decide +kernel
theorem t_103_7 : tb_in 103 7 = some (.i2l, 0, 0, 0, []) := by decide +kernel
theorem t_103_8 : tb_in 103 8 = some (.lastore, 0, 0, 0, []) := by decide +kernel
theorem t_103_9 : tb_in 103 9 = some (.goto 6, 15, 0, 0, []) := by decide +kernel
theorem t_103_12 : tb_in 103 12 = some (.astore_n 3, 0, 0, 0, []) := by decide +kernel
theorem t_103_13 : tb_in 103 13 = some (.iconst 1, 0, 0, 1, []) := by decide +kernel
theorem t_103_14 : tb_in 103 14 = some (.ireturn, 0, 0, 0, []) := by decide +kernel
theorem t_103_15 : tb_in 103 15 = some (.iconst 0, 0, 0, 0, []) := by decide +kernel
theorem t_103_16 : tb_in 103 16 = some (.ireturn, 0, 0, 0, []) := by decide +kernel
theorem t_104_0 : tb_in 104 0 = some (.aload 4, 0, 0, 0, []) := by decide +kernel
theorem t_104_2 : tb_in 104 2 = some (.iconst 0, 0, 0, 0, []) := by decide +kernel
theorem t_104_3 : tb_in 104 3 = some (.aload_n 0, 0, 0, 0, []) := by decide +kernel
theorem t_104_4 : tb_in 104 4 = some (.iload_n 1, 0, 0, 0, []) := by decide +kernel
theorem t_104_5 : tb_in 104 5 = some (.iload_n 2, 0, 0, 0, []) := by decide +kernel
theorem t_104_6 : tb_in 104 6 = some (.iload_n 3, 0, 0, 0, []) := by decide +kernel
theorem t_104_7 : tb_in 104 7 = some (.invokevirtual 15, 4, 4, 0, []) := by decide +kernel
theorem t_104_10 : tb_in 104 10 = some (.ifCond .eq 7, 17, 0, 0, []) := by decide +kernel
theorem t_104_13 : tb_in 104 13 = some (.lconst 1, 0, 0, 0, []) := by decide +kernel
theorem t_104_14 : tb_in 104 14 = some (.goto 4, 18, 0, 0, []) := by decide +kernel
theorem t_104_17 : tb_in 104 17 = some (.lconst 0, 0, 0, 0, []) := by decide +kernel
theorem t_104_18 : tb_in 104 18 = some (.lastore, 0, 0, 0, []) := by decide +kernel
theorem t_104_19 : tb_in 104 19 = some (.goto 7, 26, 0, 0, []) := by decide +kernel
theorem t_104_22 : tb_in 104 22 = some (.astore 5, 0, 0, 0, []) := by decide +kernel
theorem t_104_24 : tb_in 104 24 = some (.iconst 1, 0, 0, 1, []) := by decide +kernel
theorem t_104_25 : tb_in 104 25 = some (.ireturn, 0, 0, 0, []) := by decide +kernel
theorem t_104_26 : tb_in 104 26 = some (.iconst 0, 0, 0, 0, []) := by decide +kernel
theorem t_104_27 : tb_in 104 27 = some (.ireturn, 0, 0, 0, []) := by decide +kernel
theorem t_105_0 : tb_in 105 0 = some (.aload_n 3, 0, 0, 0, []) := by decide +kernel
theorem t_105_1 : tb_in 105 1 = some (.iconst 0, 0, 0, 0, []) := by decide +kernel
theorem t_105_2 : tb_in 105 2 = some (.aload_n 0, 0, 0, 0, []) := by decide +kernel
theorem t_105_3 : tb_in 105 3 = some (.iload_n 1, 0, 0, 0, []) := by decide +kernel
theorem t_105_4 : tb_in 105 4 = some (.iload_n 2, 0, 0, 0, []) := by decide +kernel
theorem t_105_5 : tb_in 105 5 = some (.invokevirtual 19, 5, 3, 0, []) := by decide +kernel
theorem t_105_8 : tb_in 105 8 = some (.ifCond .eq 7, 15, 0, 0, []) := by decide +kernel
theorem t_105_11 : tb_in 105 11 = some (.lconst 1, 0, 0, 0, []) := by decide +kernel
theorem t_105_12 : tb_in 105 12 = some (.goto 4, 16, 0, 0, []) := by decide +kernel
theorem t_105_15 : tb_in 105 15 = some (.lconst 0, 0, 0, 0, []) := by decide +kernel
theorem t_105_16 : tb_in 105 16 = some (.lastore, 0, 0, 0, []) := by decide +kernel
theorem t_105_17 : tb_in 105 17 = some (.goto 7, 24, 0, 0, []) := by decide +kernel
theorem t_105_20 : tb_in 105 20 = some (.astore 4, 0, 0, 0, []) := by decide +kernel
theorem t_105_22 : tb_in 105 22 = some (.iconst 1, 0, 0, 1, []) := by decide +kernel
theorem t_105_23 : tb_in 105 23 = some (.ireturn, 0, 0, 0, []) := by decide +kernel
theorem t_105_24 : tb_in 105 24 = some (.iconst 0, 0, 0, 0, []) := by decide +kernel
theorem t_105_25 : tb_in 105 25 = some (.ireturn, 0, 0, 0, []) := by decide +kernel
theorem t_106_0 : tb_in 106 0 = some (.aload_n 0, 0, 0, 0, []) := by decide +kernel
theorem t_106_1 : tb_in 106 1 = some (.iload_n 1, 0, 0, 0, []) := by decide +kernel
theorem t_106_2 : tb_in 106 2 = some (.iload_n 2, 0, 0, 0, []) := by decide +kernel
theorem t_106_3 : tb_in 106 3 = some (.invokevirtual 23, 6, 3, 0, []) := by decide +kernel
theorem t_106_6 : tb_in 106 6 = some (.goto 6, 12, 0, 0, []) := by decide +kernel
theorem t_106_9 : tb_in 106 9 = some (.astore_n 3, 0, 0, 0, []) := by decide +kernel
theorem t_106_10 : tb_in 106 10 = some (.iconst 1, 0, 0, 1, []) := by decide +kernel
theorem t_106_11 : tb_in 106 11 = some (.ireturn, 0, 0, 0, []) := by decide +kernel
theorem t_106_12 : tb_in 106 12 = some (.iconst 0, 0, 0, 0, []) := by decide +kernel
theorem t_106_13 : tb_in 106 13 = some (.ireturn, 0, 0, 0, []) := by decide +kernel
theorem t_107_0 : tb_in 107 0 = some (.aload_n 3, 0, 0, 0, []) := by decide +kernel
theorem t_107_1 : tb_in 107 1 = some (.iconst 0, 0, 0, 0, []) := by decide +kernel
theorem t_107_2 : tb_in 107 2 = some (.aload_n 0, 0, 0, 0, []) := by decide +kernel
theorem t_107_3 : tb_in 107 3 = some (.iload_n 1, 0, 0, 0, []) := by decide +kernel
theorem t_107_4 : tb_in 107 4 = some (.iload_n 2, 0, 0, 0, []) := by decide +kernel
theorem t_107_5 : tb_in 107 5 = some (.invokevirtual 27, 7, 3, 0, []) := by decide +kernel
theorem t_107_8 : tb_in 107 8 = some (.i2l, 0, 0, 0, []) := by decide +kernel
theorem t_107_9 : tb_in 107 9 = some (.lastore, 0, 0, 0, []) := by decide +kernel
theorem t_107_10 : tb_in 107 10 = some (.goto 11, 21, 0, 0, []) := by decide +kernel
theorem t_107_13 : tb_in 107 13 = some (.astore 4, 0, 0, 0, []) := by decide +kernel
theorem t_107_15 : tb_in 107 15 = some (.iconst 1, 0, 0, 1, []) := by decide +kernel
theorem t_107_16 : tb_in 107 16 = some (.ireturn, 0, 0, 0, []) := by decide +kernel
theorem t_107_17 : tb_in 107 17 = some (.astore 4, 0, 0, 0, []) := by decide +kernel
theorem t_107_19 : tb_in 107 19 = some (.iconst 2, 0, 0, 2, []) := by decide +kernel
theorem t_107_20 : tb_in 107 20 = some (.ireturn, 0, 0, 0, []) := by decide +kernel
theorem t_107_21 : tb_in 107 21 = some (.iconst 0, 0, 0, 0, []) := by decide +kernel
theorem t_107_22 : tb_in 107 22 = some (.ireturn, 0, 0, 0, []) := by decide +kernel
theorem t_108_0 : tb_in 108 0 = some (.aload_n 3, 0, 0, 0, []) := by decide +kernel
theorem t_108_1 : tb_in 108 1 = some (.iconst 0, 0, 0, 0, []) := by decide +kernel
theorem t_108_2 : tb_in 108 2 = some (.aload_n 0, 0, 0, 0, []) := by decide +kernel
theorem t_108_3 : tb_in 108 3 = some (.iload_n 1, 0, 0, 0, []) := by decide +kernel
theorem t_108_4 : tb_in 108 4 = some (.iload_n 2, 0, 0, 0, []) := by decide +kernel
theorem t_108_5 : tb_in 108 5 = some (.invokevirtual 33, 9, 3, 0, []) := by decide +kernel
theorem t_108_8 : tb_in 108 8 = some (.ifCond .eq 7, 15, 0, 0, []) := by decide +kernel
theorem t_108_11 : tb_in 108 11 = some (.lconst 1, 0, 0, 0, []) := by decide +kernel
theorem t_108_12 : tb_in 108 12 = some (.goto 4, 16, 0, 0, []) := by decide +kernel
theorem t_108_15 : tb_in 108 15 = some (.lconst 0, 0, 0, 0, []) := by decide +kernel
theorem t_108_16 : tb_in 108 16 = some (.lastore, 0, 0, 0, []) := by decide +kernel
theorem t_108_17 : tb_in 108 17 = some (.goto 7, 24, 0, 0, []) := by decide +kernel
theorem t_108_20 : tb_in 108 20 = some (.astore 4, 0, 0, 0, []) := by decide +kernel
theorem t_108_22 : tb_in 108 22 = some (.iconst 1, 0, 0, 1, []) := by decide +kernel
theorem t_108_23 : tb_in 108 23 = some (.ireturn, 0, 0, 0, []) := by decide +kernel
theorem t_108_24 : tb_in 108 24 = some (.iconst 0, 0, 0, 0, []) := by decide +kernel
theorem t_108_25 : tb_in 108 25 = some (.ireturn, 0, 0, 0, []) := by decide +kernel
theorem t_109_0 : tb_in 109 0 = some (.aload 4, 0, 0, 0, []) := by decide +kernel
theorem t_109_2 : tb_in 109 2 = some (.iconst 0, 0, 0, 0, []) := by decide +kernel
theorem t_109_3 : tb_in 109 3 = some (.aload_n 0, 0, 0, 0, []) := by decide +kernel
theorem t_109_4 : tb_in 109 4 = some (.iload_n 1, 0, 0, 0, []) := by decide +kernel
theorem t_109_5 : tb_in 109 5 = some (.iload_n 2, 0, 0, 0, []) := by decide +kernel
theorem t_109_6 : tb_in 109 6 = some (.iload_n 3, 0, 0, 0, []) := by decide +kernel
theorem t_109_7 : tb_in 109 7 = some (.invokevirtual 36, 10, 4, 0, []) := by decide +kernel
theorem t_109_10 : tb_in 109 10 = some (.i2l, 0, 0, 0, []) := by decide +kernel
theorem t_109_11 : tb_in 109 11 = some (.lastore, 0, 0, 0, []) := by decide +kernel
theorem t_109_12 : tb_in 109 12 = some (.goto 11, 23, 0, 0, []) := by decide +kernel
theorem t_109_15 : tb_in 109 15 = some (.astore 5, 0, 0, 0, []) := by decide +kernel
theorem t_109_17 : tb_in 109 17 = some (.iconst 1, 0, 0, 1, []) := by decide +kernel
theorem t_109_18 : tb_in 109 18 = some (.ireturn, 0, 0, 0, []) := by decide +kernel
theorem t_109_19 : tb_in 109 19 = some (.astore 5, 0, 0, 0, []) := by decide +kernel
theorem t_109_21 : tb_in 109 21 = some (.iconst 2, 0, 0, 2, []) := by decide +kernel
theorem t_109_22 : tb_in 109 22 = some (.ireturn, 0, 0, 0, []) := by decide +kernel
theorem t_109_23 : tb_in 109 23 = some (.iconst 0, 0, 0, 0, []) := by decide +kernel
theorem t_109_24 : tb_in 109 24 = some (.ireturn, 0, 0, 0, []) := by decide +kernel
theorem t_110_0 : tb_in 110 0 = some (.aload 4, 0, 0, 0, []) := by decide +kernel
theorem t_110_2 : tb_in 110 2 = some (.iconst 0, 0, 0, 0, []) := by decide +kernel
theorem t_110_3 : tb_in 110 3 = some (.aload_n 0, 0, 0, 0, []) := by decide +kernel
theorem t_110_4 : tb_in 110 4 = some (.iload_n 1, 0, 0, 0, []) := by decide +kernel
theorem t_110_5 : tb_in 110 5 = some (.iload_n 2, 0, 0, 0, []) := by decide +kernel
theorem t_110_6 : tb_in 110 6 = some (.iload_n 3, 0, 0, 0, []) := by decide +kernel
theorem t_110_7 : tb_in 110 7 = some (.invokevirtual 42, 11, 4, 0, []) := by decide +kernel
theorem t_110_10 : tb_in 110 10 = some (.i2l, 0, 0, 0, []) := by decide +kernel
theorem t_110_11 : tb_in 110 11 = some (.lastore, 0, 0, 0, []) := by decide +kernel
theorem t_110_12 : tb_in 110 12 = some (.goto 11, 23, 0, 0, []) := by decide +kernel
theorem t_110_15 : tb_in 110 15 = some (.astore 5, 0, 0, 0, []) := by decide +kernel
theorem t_110_17 : tb_in 110 17 = some (.iconst 1, 0, 0, 1, []) := by decide +kernel
theorem t_110_18 : tb_in 110 18 = some (.ireturn, 0, 0, 0, []) := by decide +kernel
theorem t_110_19 : tb_in 110 19 = some (.astore 5, 0, 0, 0, []) := by decide +kernel
theorem t_110_21 : tb_in 110 21 = some (.iconst 2, 0, 0, 2, []) := by decide +kernel
theorem t_110_22 : tb_in 110 22 = some (.ireturn, 0, 0, 0, []) := by decide +kernel
theorem t_110_23 : tb_in 110 23 = some (.iconst 0, 0, 0, 0, []) := by decide +kernel
theorem t_110_24 : tb_in 110 24 = some (.ireturn, 0, 0, 0, []) := by decide +kernel
theorem t_111_0 : tb_in 111 0 = some (.aload_n 2, 0, 0, 0, []) := by decide +kernel
theorem t_111_1 : tb_in 111 1 = some (.iconst 0, 0, 0, 0, []) := by decide +kernel
theorem t_111_2 : tb_in 111 2 = some (.aload_n 0, 0, 0, 0, []) := by decide +kernel
theorem t_111_3 : tb_in 111 3 = some (.iload_n 1, 0, 0, 0, []) := by decide +kernel
theorem t_111_4 : tb_in 111 4 = some (.invokevirtual 45, 13, 2, 0, []) := by decide +kernel
theorem t_111_7 : tb_in 111 7 = some (.i2l, 0, 0, 0, []) := by decide +kernel
theorem t_111_8 : tb_in 111 8 = some (.lastore, 0, 0, 0, []) := by decide +kernel
theorem t_111_9 : tb_in 111 9 = some (.goto 6, 15, 0, 0, []) := by decide +kernel
theorem t_111_12 : tb_in 111 12 = some (.astore_n 3, 0, 0, 0, []) := by decide +kernel
theorem t_111_13 : tb_in 111 13 = some (.iconst 1, 0, 0, 1, []) := by decide +kernel
theorem t_111_14 : tb_in 111 14 = some (.ireturn, 0, 0, 0, []) := by decide +kernel
theorem t_111_15 : tb_in 111 15 = some (.iconst 0, 0, 0, 0, []) := by decide +kernel
theorem t_111_16 : tb_in 111 16 = some (.ireturn, 0, 0, 0, []) := by decide +kernel
theorem t_112_0 : tb_in 112 0 = some (.aload_n 3, 0, 0, 0, []) := by decide +kernel
theorem t_112_1 : tb_in 112 1 = some (.iconst 0, 0, 0, 0, []) := by decide +kernel
theorem t_112_2 : tb_in 112 2 = some (.aload_n 0, 0, 0, 0, []) := by decide +kernel
theorem t_112_3 : tb_in 112 3 = some (.iload_n 1, 0, 0, 0, []) := by decide +kernel
theorem t_112_4 : tb_in 112 4 = some (.iload_n 2, 0, 0, 0, []) := by decide +kernel
theorem t_112_5 : tb_in 112 5 = some (.invokevirtual 48, 14, 3, 0, []) := by decide +kernel
theorem t_112_8 : tb_in 112 8 = some (.ifCond .eq 7, 15, 0, 0, []) := by decide +kernel
theorem t_112_11 : tb_in 112 11 = some (.lconst 1, 0, 0, 0, []) := by decide +kernel
theorem t_112_12 : tb_in 112 12 = some (.goto 4, 16, 0, 0, []) := by decide +kernel
theorem t_112_15 : tb_in 112 15 = some (.lconst 0, 0, 0, 0, []) := by decide +kernel
theorem t_112_16 : tb_in 112 16 = some (.lastore, 0, 0, 0, []) := by decide +kernel
theorem t_112_17 : tb_in 112 17 = some (.goto 7, 24, 0, 0, []) := by decide +kernel
theorem t_112_20 : tb_in 112 20 = some (.astore 4, 0, 0, 0, []) := by decide +kernel
theorem t_112_22 : tb_in 112 22 = some (.iconst 1, 0, 0, 1, []) := by decide +kernel
theorem t_112_23 : tb_in 112 23 = some (.ireturn, 0, 0, 0, []) := by decide +kernel
theorem t_112_24 : tb_in 112 24 = some (.iconst 0, 0, 0, 0, []) := by decide +kernel
theorem t_112_25 : tb_in 112 25 = some (.ireturn, 0, 0, 0, []) := by decide +kernel
theorem t_113_0 : tb_in 113 0 = some (.new 8, 6, 0, 0, []) := by decide +kernel
theorem t_113_3 : tb_in 113 3 = some (.dup, 0, 0, 0, []) := by decide +kernel
theorem t_113_4 : tb_in 113 4 = some (.invokespecial 51, 0, 1, 0, []) := by decide +kernel
theorem t_113_7 : tb_in 113 7 = some (.astore_n 1, 0, 0, 0, []) := by decide +kernel
theorem t_113_8 : tb_in 113 8 = some (.new 52, 7, 0, 0, []) := by decide +kernel
theorem t_113_11 : tb_in 113 11 = some (.dup, 0, 0, 0, []) := by decide +kernel
theorem t_113_12 : tb_in 113 12 = some (.invokespecial 54, 39, 1, 0, []) := by decide +kernel
theorem t_113_15 : tb_in 113 15 = some (.astore_n 2, 0, 0, 0, []) := by decide +kernel
theorem t_113_16 : tb_in 113 16 = some (.iconst 1, 0, 0, 1, []) := by decide +kernel
theorem t_113_17 : tb_in 113 17 = some (.newarray .long, 0, 0, 0, []) := by decide +kernel
theorem t_113_19 : tb_in 113 19 = some (.astore_n 3, 0, 0, 0, []) := by decide +kernel
theorem t_113_20 : tb_in 113 20 = some (.iconst 0, 0, 0, 0, []) := by decide +kernel
theorem t_113_21 : tb_in 113 21 = some (.istore 4, 0, 0, 0, []) := by decide +kernel
theorem t_113_23 : tb_in 113 23 = some (.iload 4, 0, 0, 0, []) := by decide +kernel
theorem t_113_25 : tb_in 113 25 = some (.aload_n 0, 0, 0, 0, []) := by decide +kernel
theorem t_113_26 : tb_in 113 26 = some (.arraylength, 0, 0, 0, []) := by decide +kernel
theorem t_113_27 : tb_in 113 27 = some (.iconst 4, 0, 0, 4, []) := by decide +kernel
theorem t_113_28 : tb_in 113 28 = some (.isub, 0, 0, 0, []) := by decide +kernel
theorem t_113_29 : tb_in 113 29 = some (.if_icmp .gt 905, 934, 0, 0, []) := by decide +kernel
theorem t_113_32 : tb_in 113 32 = some (.aload_n 0, 0, 0, 0, []) := by decide +kernel
theorem t_113_33 : tb_in 113 33 = some (.iload 4, 0, 0, 0, []) := by decide +kernel
theorem t_113_35 : tb_in 113 35 = some (.iaload, 0, 0, 0, []) := by decide +kernel
theorem t_113_36 : tb_in 113 36 = some (.bipush 15, 0, 0, 15, []) := by decide +kernel
theorem t_113_38 : tb_in 113 38 = some (.iand, 0, 0, 0, []) := by decide +kernel
theorem t_113_39 : tb_in 113 39 = some (.tableswitch 889 0 13 #[69, 126, 139, 195, 282, 357, 405, 473, 498, 573, 653, 733, 758, 814], 928, 69, 0, [108, 165, 178, 234, 321, 396, 444, 512, 537, 612, 692, 772, 797, 853]) := by decide +kernel
theorem t_113_108 : tb_in 113 108 = some (.aload_n 1, 0, 0, 0, []) := by decide +kernel
theorem t_113_109 : tb_in 113 109 = some (.aload_n 0, 0, 0, 0, []) := by decide +kernel
theorem t_113_110 : tb_in 113 110 = some (.iload 4, 0, 0, 0, []) := by decide +kernel
theorem t_113_112 : tb_in 113 112 = some (.iconst 1, 0, 0, 1, []) := by decide +kernel
theorem t_113_113 : tb_in 113 113 = some (.iadd, 0, 0, 0, []) := by decide +kernel
theorem t_113_114 : tb_in 113 114 = some (.iaload, 0, 0, 0, []) := by decide +kernel
theorem t_113_115 : tb_in 113 115 = some (.i2l, 0, 0, 0, []) := by decide +kernel
theorem t_113_116 : tb_in 113 116 = some (.bipush 32, 0, 0, 32, []) := by decide +kernel
theorem t_113_118 : tb_in 113 118 = some (.lshl, 0, 0, 0, []) := by decide +kernel
theorem t_113_119 : tb_in 113 119 = some (.aload_n 0, 0, 0, 0, []) := by decide +kernel
theorem t_113_120 : tb_in 113 120 = some (.iload 4, 0, 0, 0, []) := by decide +kernel
theorem t_113_122 : tb_in 113 122 = some (.iconst 2, 0, 0, 2, []) := by decide +kernel
theorem t_113_123 : tb_in 113 123 = some (.iadd, 0, 0, 0, []) := by decide +kernel
theorem t_113_124 : tb_in 113 124 = some (.iaload, 0, 0, 0, []) := by decide +kernel
theorem t_113_125 : tb_in 113 125 = some (.i2l, 0, 0, 0, []) := by decide +kernel
theorem t_113_126 : tb_in 113 126 = some (.ldc2_w 55, 4294967295, 0, 0, []) := by decide +kernel
theorem t_113_129 : tb_in 113 129 = some (.land, 0, 0, 0, []) := by decide +kernel
theorem t_113_130 : tb_in 113 130 = some (.lor, 0, 0, 0, []) := by decide +kernel
theorem t_113_131 : tb_in 113 131 = some (.invokevirtual 57, 1, 2, 0, []) := by decide +kernel
theorem t_113_134 : tb_in 113 134 = some (.aload_n 2, 0, 0, 0, []) := by decide +kernel
theorem t_113_135 : tb_in 113 135 = some (.aload_n 0, 0, 0, 0, []) := by decide +kernel
theorem t_113_136 : tb_in 113 136 = some (.iload 4, 0, 0, 0, []) := by decide +kernel
theorem t_113_138 : tb_in 113 138 = some (.iconst 1, 0, 0, 1, []) := by decide +kernel
theorem t_113_139 : tb_in 113 139 = some (.iadd, 0, 0, 0, []) := by decide +kernel
theorem t_113_140 : tb_in 113 140 = some (.iaload, 0, 0, 0, []) := by decide +kernel
theorem t_113_141 : tb_in 113 141 = some (.i2l, 0, 0, 0, []) := by decide +kernel
theorem t_113_142 : tb_in 113 142 = some (.bipush 32, 0, 0, 32, []) := by decide +kernel
theorem t_113_144 : tb_in 113 144 = some (.lshl, 0, 0, 0, []) := by decide +kernel
theorem t_113_145 : tb_in 113 145 = some (.aload_n 0, 0, 0, 0, []) := by decide +kernel
theorem t_113_146 : tb_in 113 146 = some (.iload 4, 0, 0, 0, []) := by decide +kernel
theorem t_113_148 : tb_in 113 148 = some (.iconst 2, 0, 0, 2, []) := by decide +kernel
theorem t_113_149 : tb_in 113 149 = some (.iadd, 0, 0, 0, []) := by decide +kernel
theorem t_113_150 : tb_in 113 150 = some (.iaload, 0, 0, 0, []) := by decide +kernel
theorem t_113_151 : tb_in 113 151 = some (.i2l, 0, 0, 0, []) := by decide +kernel
theorem t_113_152 : tb_in 113 152 = some (.ldc2_w 55, 4294967295, 0, 0, []) := by decide +kernel
theorem t_113_155 : tb_in 113 155 = some (.land, 0, 0, 0, []) := by decide +kernel
theorem t_113_156 : tb_in 113 156 = some (.lor, 0, 0, 0, []) := by decide +kernel
theorem t_113_157 : tb_in 113 157 = some (.invokevirtual 61, 41, 2, 0, []) := by decide +kernel
theorem t_113_160 : tb_in 113 160 = some (.if_icmp .eq 768, 928, 0, 0, []) := by decide +kernel
theorem t_113_163 : tb_in 113 163 = some (.iconst 0, 0, 0, 0, []) := by decide +kernel
theorem t_113_164 : tb_in 113 164 = some (.ireturn, 0, 0, 0, []) := by decide +kernel
theorem t_113_165 : tb_in 113 165 = some (.aload_n 1, 0, 0, 0, []) := by decide +kernel
theorem t_113_166 : tb_in 113 166 = some (.invokevirtual 62, 2, 1, 0, []) := by decide +kernel
theorem t_113_169 : tb_in 113 169 = some (.aload_n 2, 0, 0, 0, []) := by decide +kernel
theorem t_113_170 : tb_in 113 170 = some (.invokevirtual 66, 42, 1, 0, []) := by decide +kernel
theorem t_113_173 : tb_in 113 173 = some (.if_icmp .eq 755, 928, 0, 0, []) := by decide +kernel
theorem t_113_176 : tb_in 113 176 = some (.iconst 0, 0, 0, 0, []) := by decide +kernel
theorem t_113_177 : tb_in 113 177 = some (.ireturn, 0, 0, 0, []) := by decide +kernel
theorem t_113_178 : tb_in 113 178 = some (.aload_n 1, 0, 0, 0, []) := by decide +kernel
theorem t_113_179 : tb_in 113 179 = some (.aload_n 0, 0, 0, 0, []) := by decide +kernel
theorem t_113_180 : tb_in 113 180 = some (.iload 4, 0, 0, 0, []) := by decide +kernel
theorem t_113_182 : tb_in 113 182 = some (.iconst 1, 0, 0, 1, []) := by decide +kernel
theorem t_113_183 : tb_in 113 183 = some (.iadd, 0, 0, 0, []) := by decide +kernel
theorem t_113_184 : tb_in 113 184 = some (.iaload, 0, 0, 0, []) := by decide +kernel
theorem t_113_185 : tb_in 113 185 = some (.aload_n 3, 0, 0, 0, []) := by decide +kernel
theorem t_113_186 : tb_in 113 186 = some (.invokestatic 67, 103, 3, 0, []) := by decide +kernel
theorem t_113_189 : tb_in 113 189 = some (.istore 5, 0, 0, 0, []) := by decide +kernel
theorem t_113_191 : tb_in 113 191 = some (.aload_n 2, 0, 0, 0, []) := by decide +kernel
theorem t_113_192 : tb_in 113 192 = some (.aload_n 0, 0, 0, 0, []) := by decide +kernel
theorem t_113_193 : tb_in 113 193 = some (.iload 4, 0, 0, 0, []) := by decide +kernel
theorem t_113_195 : tb_in 113 195 = some (.iconst 1, 0, 0, 1, []) := by decide +kernel
theorem t_113_196 : tb_in 113 196 = some (.iadd, 0, 0, 0, []) := by decide +kernel
theorem t_113_197 : tb_in 113 197 = some (.iaload, 0, 0, 0, []) := by decide +kernel
theorem t_113_198 : tb_in 113 198 = some (.invokevirtual 72, 45, 2, 0, []) := by decide +kernel
theorem t_113_201 : tb_in 113 201 = some (.istore 6, 0, 0, 0, []) := by decide +kernel
theorem t_113_203 : tb_in 113 203 = some (.aload_n 2, 0, 0, 0, []) := by decide +kernel
theorem t_113_204 : tb_in 113 204 = some (.invokevirtual 73, 40, 1, 0, []) := by decide +kernel
theorem t_113_207 : tb_in 113 207 = some (.iload 5, 0, 0, 0, []) := by decide +kernel
theorem t_113_209 : tb_in 113 209 = some (.if_icmp .eq 5, 214, 0, 0, []) := by decide +kernel
theorem t_113_212 : tb_in 113 212 = some (.iconst 0, 0, 0, 0, []) := by decide +kernel
theorem t_113_213 : tb_in 113 213 = some (.ireturn, 0, 0, 0, []) := by decide +kernel
theorem t_113_214 : tb_in 113 214 = some (.iload 5, 0, 0, 0, []) := by decide +kernel
theorem t_113_216 : tb_in 113 216 = some (.ifCond .ne 15, 231, 0, 0, []) := by decide +kernel
theorem t_113_219 : tb_in 113 219 = some (.aload_n 3, 0, 0, 0, []) := by decide +kernel
theorem t_113_220 : tb_in 113 220 = some (.iconst 0, 0, 0, 0, []) := by decide +kernel
theorem t_113_221 : tb_in 113 221 = some (.laload, 0, 0, 0, []) := by decide +kernel
theorem t_113_222 : tb_in 113 222 = some (.iload 6, 0, 0, 0, []) := by decide +kernel
theorem t_113_224 : tb_in 113 224 = some (.i2l, 0, 0, 0, []) := by decide +kernel
theorem t_113_225 : tb_in 113 225 = some (.lcmp, 0, 0, 0, []) := by decide +kernel
theorem t_113_226 : tb_in 113 226 = some (.ifCond .eq 5, 231, 0, 0, []) := by decide +kernel
theorem t_113_229 : tb_in 113 229 = some (.iconst 0, 0, 0, 0, []) := by decide +kernel
theorem t_113_230 : tb_in 113 230 = some (.ireturn, 0, 0, 0, []) := by decide +kernel
theorem t_113_231 : tb_in 113 231 = some (.goto 697, 928, 0, 0, []) := by decide +kernel
theorem t_113_234 : tb_in 113 234 = some (.aload_n 1, 0, 0, 0, []) := by decide +kernel
theorem t_113_235 : tb_in 113 235 = some (.aload_n 0, 0, 0, 0, []) := by decide +kernel
theorem t_113_236 : tb_in 113 236 = some (.iload 4, 0, 0, 0, []) := by decide +kernel
theorem t_113_238 : tb_in 113 238 = some (.iconst 1, 0, 0, 1, []) := by decide +kernel
theorem t_113_239 : tb_in 113 239 = some (.iadd, 0, 0, 0, []) := by decide +kernel
theorem t_113_240 : tb_in 113 240 = some (.iaload, 0, 0, 0, []) := by decide +kernel
theorem t_113_241 : tb_in 113 241 = some (.aload_n 0, 0, 0, 0, []) := by decide +kernel
theorem t_113_242 : tb_in 113 242 = some (.iload 4, 0, 0, 0, []) := by decide +kernel
theorem t_113_244 : tb_in 113 244 = some (.iconst 2, 0, 0, 2, []) := by decide +kernel
theorem t_113_245 : tb_in 113 245 = some (.iadd, 0, 0, 0, []) := by decide +kernel
theorem t_113_246 : tb_in 113 246 = some (.iaload, 0, 0, 0, []) := by decide +kernel
theorem t_113_247 : tb_in 113 247 = some (.aload_n 0, 0, 0, 0, []) := by decide +kernel
theorem t_113_248 : tb_in 113 248 = some (.iload 4, 0, 0, 0, []) := by decide +kernel
theorem t_113_250 : tb_in 113 250 = some (.iconst 3, 0, 0, 3, []) := by decide +kernel
theorem t_113_251 : tb_in 113 251 = some (.iadd, 0, 0, 0, []) := by decide +kernel
theorem t_113_252 : tb_in 113 252 = some (.iaload, 0, 0, 0, []) := by decide +kernel
theorem t_113_253 : tb_in 113 253 = some (.aload_n 3, 0, 0, 0, []) := by decide +kernel
theorem t_113_254 : tb_in 113 254 = some (.invokestatic 76, 104, 5, 0, []) := by decide +kernel
theorem t_113_257 : tb_in 113 257 = some (.istore 5, 0, 0, 0, []) := by decide +kernel
theorem t_113_259 : tb_in 113 259 = some (.aload_n 2, 0, 0, 0, []) := by decide +kernel
theorem t_113_260 : tb_in 113 260 = some (.aload_n 0, 0, 0, 0, []) := by decide +kernel
theorem t_113_261 : tb_in 113 261 = some (.iload 4, 0, 0, 0, []) := by decide +kernel
theorem t_113_263 : tb_in 113 263 = some (.iconst 1, 0, 0, 1, []) := by decide +kernel
theorem t_113_264 : tb_in 113 264 = some (.iadd, 0, 0, 0, []) := by decide +kernel
theorem t_113_265 : tb_in 113 265 = some (.iaload, 0, 0, 0, []) := by decide +kernel
theorem t_113_266 : tb_in 113 266 = some (.aload_n 0, 0, 0, 0, []) := by decide +kernel
theorem t_113_267 : tb_in 113 267 = some (.iload 4, 0, 0, 0, []) := by decide +kernel
theorem t_113_269 : tb_in 113 269 = some (.iconst 2, 0, 0, 2, []) := by decide +kernel
theorem t_113_270 : tb_in 113 270 = some (.iadd, 0, 0, 0, []) := by decide +kernel
theorem t_113_271 : tb_in 113 271 = some (.iaload, 0, 0, 0, []) := by decide +kernel
theorem t_113_272 : tb_in 113 272 = some (.aload_n 0, 0, 0, 0, []) := by decide +kernel
theorem t_113_273 : tb_in 113 273 = some (.iload 4, 0, 0, 0, []) := by decide +kernel
theorem t_113_275 : tb_in 113 275 = some (.iconst 3, 0, 0, 3, []) := by decide +kernel
theorem t_113_276 : tb_in 113 276 = some (.iadd, 0, 0, 0, []) := by decide +kernel
theorem t_113_277 : tb_in 113 277 = some (.iaload, 0, 0, 0, []) := by decide +kernel
theorem t_113_278 : tb_in 113 278 = some (.invokevirtual 79, 48, 4, 0, []) := by decide +kernel
theorem t_113_281 : tb_in 113 281 = some (.istore 6, 0, 0, 0, []) := by decide +kernel
theorem t_113_283 : tb_in 113 283 = some (.aload_n 2, 0, 0, 0, []) := by decide +kernel
theorem t_113_284 : tb_in 113 284 = some (.invokevirtual 73, 40, 1, 0, []) := by decide +kernel
theorem t_113_287 : tb_in 113 287 = some (.iload 5, 0, 0, 0, []) := by decide +kernel
theorem t_113_289 : tb_in 113 289 = some (.if_icmp .eq 5, 294, 0, 0, []) := by decide +kernel
theorem t_113_292 : tb_in 113 292 = some (.iconst 0, 0, 0, 0, []) := by decide +kernel
theorem t_113_293 : tb_in 113 293 = some (.ireturn, 0, 0, 0, []) := by decide +kernel
theorem t_113_294 : tb_in 113 294 = some (.iload 5, 0, 0, 0, []) := by decide +kernel
theorem t_113_296 : tb_in 113 296 = some (.ifCond .ne 22, 318, 0, 0, []) := by decide +kernel
theorem t_113_299 : tb_in 113 299 = some (.aload_n 3, 0, 0, 0, []) := by decide +kernel
theorem t_113_300 : tb_in 113 300 = some (.iconst 0, 0, 0, 0, []) := by decide +kernel
theorem t_113_301 : tb_in 113 301 = some (.laload, 0, 0, 0, []) := by decide +kernel
theorem t_113_302 : tb_in 113 302 = some (.iload 6, 0, 0, 0, []) := by decide +kernel
theorem t_113_304 : tb_in 113 304 = some (.ifCond .eq 7, 311, 0, 0, []) := by decide +kernel
theorem t_113_307 : tb_in 113 307 = some (.lconst 1, 0, 0, 0, []) := by decide +kernel
theorem t_113_308 : tb_in 113 308 = some (.goto 4, 312, 0, 0, []) := by decide +kernel
theorem t_113_311 : tb_in 113 311 = some (.lconst 0, 0, 0, 0, []) := by decide +kernel
theorem t_113_312 : tb_in 113 312 = some (.lcmp, 0, 0, 0, []) := by decide +kernel
theorem t_113_313 : tb_in 113 313 = some (.ifCond .eq 5, 318, 0, 0, []) := by decide +kernel
theorem t_113_316 : tb_in 113 316 = some (.iconst 0, 0, 0, 0, []) := by decide +kernel
theorem t_113_317 : tb_in 113 317 = some (.ireturn, 0, 0, 0, []) := by decide +kernel
theorem t_113_318 : tb_in 113 318 = some (.goto 610, 928, 0, 0, []) := by decide +kernel
theorem t_113_321 : tb_in 113 321 = some (.aload_n 1, 0, 0, 0, []) := by decide +kernel
theorem t_113_322 : tb_in 113 322 = some (.aload_n 0, 0, 0, 0, []) := by decide +kernel
theorem t_113_323 : tb_in 113 323 = some (.iload 4, 0, 0, 0, []) := by decide +kernel
theorem t_113_325 : tb_in 113 325 = some (.iconst 1, 0, 0, 1, []) := by decide +kernel
theorem t_113_326 : tb_in 113 326 = some (.iadd, 0, 0, 0, []) := by decide +kernel
theorem t_113_327 : tb_in 113 327 = some (.iaload, 0, 0, 0, []) := by decide +kernel
theorem t_113_328 : tb_in 113 328 = some (.aload_n 0, 0, 0, 0, []) := by decide +kernel
theorem t_113_329 : tb_in 113 329 = some (.iload 4, 0, 0, 0, []) := by decide +kernel
theorem t_113_331 : tb_in 113 331 = some (.iconst 2, 0, 0, 2, []) := by decide +kernel
theorem t_113_332 : tb_in 113 332 = some (.iadd, 0, 0, 0, []) := by decide +kernel
theorem t_113_333 : tb_in 113 333 = some (.iaload, 0, 0, 0, []) := by decide +kernel
theorem t_113_334 : tb_in 113 334 = some (.aload_n 3, 0, 0, 0, []) := by decide +kernel
theorem t_113_335 : tb_in 113 335 = some (.invokestatic 80, 105, 4, 0, []) := by decide +kernel
theorem t_113_338 : tb_in 113 338 = some (.istore 5, 0, 0, 0, []) := by decide +kernel
theorem t_113_340 : tb_in 113 340 = some (.aload_n 2, 0, 0, 0, []) := by decide +kernel
theorem t_113_341 : tb_in 113 341 = some (.aload_n 0, 0, 0, 0, []) := by decide +kernel
theorem t_113_342 : tb_in 113 342 = some (.iload 4, 0, 0, 0, []) := by decide +kernel
theorem t_113_344 : tb_in 113 344 = some (.iconst 1, 0, 0, 1, []) := by decide +kernel
theorem t_113_345 : tb_in 113 345 = some (.iadd, 0, 0, 0, []) := by decide +kernel
theorem t_113_346 : tb_in 113 346 = some (.iaload, 0, 0, 0, []) := by decide +kernel
theorem t_113_347 : tb_in 113 347 = some (.aload_n 0, 0, 0, 0, []) := by decide +kernel
theorem t_113_348 : tb_in 113 348 = some (.iload 4, 0, 0, 0, []) := by decide +kernel
theorem t_113_350 : tb_in 113 350 = some (.iconst 2, 0, 0, 2, []) := by decide +kernel
theorem t_113_351 : tb_in 113 351 = some (.iadd, 0, 0, 0, []) := by decide +kernel
theorem t_113_352 : tb_in 113 352 = some (.iaload, 0, 0, 0, []) := by decide +kernel
theorem t_113_353 : tb_in 113 353 = some (.invokevirtual 83, 49, 3, 0, []) := by decide +kernel
theorem t_113_356 : tb_in 113 356 = some (.istore 6, 0, 0, 0, []) := by decide +kernel
theorem t_113_358 : tb_in 113 358 = some (.aload_n 2, 0, 0, 0, []) := by decide +kernel
theorem t_113_359 : tb_in 113 359 = some (.invokevirtual 73, 40, 1, 0, []) := by decide +kernel
theorem t_113_362 : tb_in 113 362 = some (.iload 5, 0, 0, 0, []) := by decide +kernel
theorem t_113_364 : tb_in 113 364 = some (.if_icmp .eq 5, 369, 0, 0, []) := by decide +kernel
theorem t_113_367 : tb_in 113 367 = some (.iconst 0, 0, 0, 0, []) := by decide +kernel
theorem t_113_368 : tb_in 113 368 = some (.ireturn, 0, 0, 0, []) := by decide +kernel
theorem t_113_369 : tb_in 113 369 = some (.iload 5, 0, 0, 0, []) := by decide +kernel
theorem t_113_371 : tb_in 113 371 = some (.ifCond .ne 22, 393, 0, 0, []) := by decide +kernel
theorem t_113_374 : tb_in 113 374 = some (.aload_n 3, 0, 0, 0, []) := by decide +kernel
theorem t_113_375 : tb_in 113 375 = some (.iconst 0, 0, 0, 0, []) := by decide +kernel
theorem t_113_376 : tb_in 113 376 = some (.laload, 0, 0, 0, []) := by decide +kernel
theorem t_113_377 : tb_in 113 377 = some (.iload 6, 0, 0, 0, []) := by decide +kernel
theorem t_113_379 : tb_in 113 379 = some (.ifCond .eq 7, 386, 0, 0, []) := by decide +kernel
theorem t_113_382 : tb_in 113 382 = some (.lconst 1, 0, 0, 0, []) := by decide +kernel
theorem t_113_383 : tb_in 113 383 = some (.goto 4, 387, 0, 0, []) := by decide +kernel
theorem t_113_386 : tb_in 113 386 = some (.lconst 0, 0, 0, 0, []) := by decide +kernel
theorem t_113_387 : tb_in 113 387 = some (.lcmp, 0, 0, 0, []) := by decide +kernel
theorem t_113_388 : tb_in 113 388 = some (.ifCond .eq 5, 393, 0, 0, []) := by decide +kernel
theorem t_113_391 : tb_in 113 391 = some (.iconst 0, 0, 0, 0, []) := by decide +kernel
theorem t_113_392 : tb_in 113 392 = some (.ireturn, 0, 0, 0, []) := by decide +kernel
theorem t_113_393 : tb_in 113 393 = some (.goto 535, 928, 0, 0, []) := by decide +kernel
theorem t_113_396 : tb_in 113 396 = some (.aload_n 1, 0, 0, 0, []) := by decide +kernel
theorem t_113_397 : tb_in 113 397 = some (.aload_n 0, 0, 0, 0, []) := by decide +kernel
theorem t_113_398 : tb_in 113 398 = some (.iload 4, 0, 0, 0, []) := by decide +kernel
theorem t_113_400 : tb_in 113 400 = some (.iconst 1, 0, 0, 1, []) := by decide +kernel
theorem t_113_401 : tb_in 113 401 = some (.iadd, 0, 0, 0, []) := by decide +kernel
theorem t_113_402 : tb_in 113 402 = some (.iaload, 0, 0, 0, []) := by decide +kernel
theorem t_113_403 : tb_in 113 403 = some (.aload_n 0, 0, 0, 0, []) := by decide +kernel
theorem t_113_404 : tb_in 113 404 = some (.iload 4, 0, 0, 0, []) := by decide +kernel
theorem t_113_406 : tb_in 113 406 = some (.iconst 2, 0, 0, 2, []) := by decide +kernel
theorem t_113_407 : tb_in 113 407 = some (.iadd, 0, 0, 0, []) := by decide +kernel
theorem t_113_408 : tb_in 113 408 = some (.iaload, 0, 0, 0, []) := by decide +kernel
theorem t_113_409 : tb_in 113 409 = some (.invokestatic 84, 106, 3, 0, []) := by decide +kernel
theorem t_113_412 : tb_in 113 412 = some (.istore 5, 0, 0, 0, []) := by decide +kernel
theorem t_113_414 : tb_in 113 414 = some (.aload_n 2, 0, 0, 0, []) := by decide +kernel
theorem t_113_415 : tb_in 113 415 = some (.aload_n 0, 0, 0, 0, []) := by decide +kernel
theorem t_113_416 : tb_in 113 416 = some (.iload 4, 0, 0, 0, []) := by decide +kernel
theorem t_113_418 : tb_in 113 418 = some (.iconst 1, 0, 0, 1, []) := by decide +kernel
theorem t_113_419 : tb_in 113 419 = some (.iadd, 0, 0, 0, []) := by decide +kernel
theorem t_113_420 : tb_in 113 420 = some (.iaload, 0, 0, 0, []) := by decide +kernel
theorem t_113_421 : tb_in 113 421 = some (.aload_n 0, 0, 0, 0, []) := by decide +kernel
theorem t_113_422 : tb_in 113 422 = some (.iload 4, 0, 0, 0, []) := by decide +kernel
theorem t_113_424 : tb_in 113 424 = some (.iconst 2, 0, 0, 2, []) := by decide +kernel
theorem t_113_425 : tb_in 113 425 = some (.iadd, 0, 0, 0, []) := by decide +kernel
theorem t_113_426 : tb_in 113 426 = some (.iaload, 0, 0, 0, []) := by decide +kernel
theorem t_113_427 : tb_in 113 427 = some (.invokevirtual 87, 50, 3, 0, []) := by decide +kernel
theorem t_113_430 : tb_in 113 430 = some (.aload_n 2, 0, 0, 0, []) := by decide +kernel
theorem t_113_431 : tb_in 113 431 = some (.invokevirtual 73, 40, 1, 0, []) := by decide +kernel
theorem t_113_434 : tb_in 113 434 = some (.iload 5, 0, 0, 0, []) := by decide +kernel
theorem t_113_436 : tb_in 113 436 = some (.if_icmp .eq 5, 441, 0, 0, []) := by decide +kernel
theorem t_113_439 : tb_in 113 439 = some (.iconst 0, 0, 0, 0, []) := by decide +kernel
theorem t_113_440 : tb_in 113 440 = some (.ireturn, 0, 0, 0, []) := by decide +kernel
theorem t_113_441 : tb_in 113 441 = some (.goto 487, 928, 0, 0, []) := by decide +kernel
theorem t_113_444 : tb_in 113 444 = some (.aload_n 1, 0, 0, 0, []) := by decide +kernel
theorem t_113_445 : tb_in 113 445 = some (.aload_n 0, 0, 0, 0, []) := by decide +kernel
theorem t_113_446 : tb_in 113 446 = some (.iload 4, 0, 0, 0, []) := by decide +kernel
theorem t_113_448 : tb_in 113 448 = some (.iconst 1, 0, 0, 1, []) := by decide +kernel
theorem t_113_449 : tb_in 113 449 = some (.iadd, 0, 0, 0, []) := by decide +kernel
theorem t_113_450 : tb_in 113 450 = some (.iaload, 0, 0, 0, []) := by decide +kernel
theorem t_113_451 : tb_in 113 451 = some (.aload_n 0, 0, 0, 0, []) := by decide +kernel
theorem t_113_452 : tb_in 113 452 = some (.iload 4, 0, 0, 0, []) := by decide +kernel
theorem t_113_454 : tb_in 113 454 = some (.iconst 2, 0, 0, 2, []) := by decide +kernel
theorem t_113_455 : tb_in 113 455 = some (.iadd, 0, 0, 0, []) := by decide +kernel
theorem t_113_456 : tb_in 113 456 = some (.iaload, 0, 0, 0, []) := by decide +kernel
theorem t_113_457 : tb_in 113 457 = some (.aload_n 3, 0, 0, 0, []) := by decide +kernel
theorem t_113_458 : tb_in 113 458 = some (.invokestatic 88, 107, 4, 0, []) := by decide +kernel
theorem t_113_461 : tb_in 113 461 = some (.istore 5, 0, 0, 0, []) := by decide +kernel
theorem t_113_463 : tb_in 113 463 = some (.aload_n 2, 0, 0, 0, []) := by decide +kernel
theorem t_113_464 : tb_in 113 464 = some (.aload_n 0, 0, 0, 0, []) := by decide +kernel
theorem t_113_465 : tb_in 113 465 = some (.iload 4, 0, 0, 0, []) := by decide +kernel
theorem t_113_467 : tb_in 113 467 = some (.iconst 1, 0, 0, 1, []) := by decide +kernel
theorem t_113_468 : tb_in 113 468 = some (.iadd, 0, 0, 0, []) := by decide +kernel
theorem t_113_469 : tb_in 113 469 = some (.iaload, 0, 0, 0, []) := by decide +kernel
theorem t_113_470 : tb_in 113 470 = some (.aload_n 0, 0, 0, 0, []) := by decide +kernel
theorem t_113_471 : tb_in 113 471 = some (.iload 4, 0, 0, 0, []) := by decide +kernel
theorem t_113_473 : tb_in 113 473 = some (.iconst 2, 0, 0, 2, []) := by decide +kernel
theorem t_113_474 : tb_in 113 474 = some (.iadd, 0, 0, 0, []) := by decide +kernel
theorem t_113_475 : tb_in 113 475 = some (.iaload, 0, 0, 0, []) := by decide +kernel
theorem t_113_476 : tb_in 113 476 = some (.invokevirtual 90, 67, 3, 0, []) := by decide +kernel
theorem t_113_479 : tb_in 113 479 = some (.istore 6, 0, 0, 0, []) := by decide +kernel
theorem t_113_481 : tb_in 113 481 = some (.aload_n 2, 0, 0, 0, []) := by decide +kernel
theorem t_113_482 : tb_in 113 482 = some (.invokevirtual 73, 40, 1, 0, []) := by decide +kernel
theorem t_113_485 : tb_in 113 485 = some (.iload 5, 0, 0, 0, []) := by decide +kernel
theorem t_113_487 : tb_in 113 487 = some (.if_icmp .eq 5, 492, 0, 0, []) := by decide +kernel
theorem t_113_490 : tb_in 113 490 = some (.iconst 0, 0, 0, 0, []) := by decide +kernel
theorem t_113_491 : tb_in 113 491 = some (.ireturn, 0, 0, 0, []) := by decide +kernel
theorem t_113_492 : tb_in 113 492 = some (.iload 5, 0, 0, 0, []) := by decide +kernel
theorem t_113_494 : tb_in 113 494 = some (.ifCond .ne 15, 509, 0, 0, []) := by decide +kernel
theorem t_113_497 : tb_in 113 497 = some (.aload_n 3, 0, 0, 0, []) := by decide +kernel
theorem t_113_498 : tb_in 113 498 = some (.iconst 0, 0, 0, 0, []) := by decide +kernel
theorem t_113_499 : tb_in 113 499 = some (.laload, 0, 0, 0, []) := by decide +kernel
theorem t_113_500 : tb_in 113 500 = some (.iload 6, 0, 0, 0, []) := by decide +kernel
theorem t_113_502 : tb_in 113 502 = some (.i2l, 0, 0, 0, []) := by decide +kernel
theorem t_113_503 : tb_in 113 503 = some (.lcmp, 0, 0, 0, []) := by decide +kernel
theorem t_113_504 : tb_in 113 504 = some (.ifCond .eq 5, 509, 0, 0, []) := by decide +kernel
theorem t_113_507 : tb_in 113 507 = some (.iconst 0, 0, 0, 0, []) := by decide +kernel
theorem t_113_508 : tb_in 113 508 = some (.ireturn, 0, 0, 0, []) := by decide +kernel
theorem t_113_509 : tb_in 113 509 = some (.goto 419, 928, 0, 0, []) := by decide +kernel
theorem t_113_512 : tb_in 113 512 = some (.aload_n 1, 0, 0, 0, []) := by decide +kernel
theorem t_113_513 : tb_in 113 513 = some (.aload_n 0, 0, 0, 0, []) := by decide +kernel
theorem t_113_514 : tb_in 113 514 = some (.iload 4, 0, 0, 0, []) := by decide +kernel
theorem t_113_516 : tb_in 113 516 = some (.iconst 1, 0, 0, 1, []) := by decide +kernel
theorem t_113_517 : tb_in 113 517 = some (.iadd, 0, 0, 0, []) := by decide +kernel
theorem t_113_518 : tb_in 113 518 = some (.iaload, 0, 0, 0, []) := by decide +kernel
theorem t_113_519 : tb_in 113 519 = some (.invokevirtual 91, 8, 2, 0, []) := by decide +kernel
theorem t_113_522 : tb_in 113 522 = some (.aload_n 2, 0, 0, 0, []) := by decide +kernel
theorem t_113_523 : tb_in 113 523 = some (.aload_n 0, 0, 0, 0, []) := by decide +kernel
theorem t_113_524 : tb_in 113 524 = some (.iload 4, 0, 0, 0, []) := by decide +kernel
theorem t_113_526 : tb_in 113 526 = some (.iconst 1, 0, 0, 1, []) := by decide +kernel
theorem t_113_527 : tb_in 113 527 = some (.iadd, 0, 0, 0, []) := by decide +kernel
theorem t_113_528 : tb_in 113 528 = some (.iaload, 0, 0, 0, []) := by decide +kernel
theorem t_113_529 : tb_in 113 529 = some (.invokevirtual 94, 68, 2, 0, []) := by decide +kernel
theorem t_113_532 : tb_in 113 532 = some (.if_icmp .eq 396, 928, 0, 0, []) := by decide +kernel
theorem t_113_535 : tb_in 113 535 = some (.iconst 0, 0, 0, 0, []) := by decide +kernel
theorem t_113_536 : tb_in 113 536 = some (.ireturn, 0, 0, 0, []) := by decide +kernel
theorem t_113_537 : tb_in 113 537 = some (.aload_n 1, 0, 0, 0, []) := by decide +kernel
theorem t_113_538 : tb_in 113 538 = some (.aload_n 0, 0, 0, 0, []) := by decide +kernel
theorem t_113_539 : tb_in 113 539 = some (.iload 4, 0, 0, 0, []) := by decide +kernel
theorem t_113_541 : tb_in 113 541 = some (.iconst 1, 0, 0, 1, []) := by decide +kernel
theorem t_113_542 : tb_in 113 542 = some (.iadd, 0, 0, 0, []) := by decide +kernel
theorem t_113_543 : tb_in 113 543 = some (.iaload, 0, 0, 0, []) := by decide +kernel
theorem t_113_544 : tb_in 113 544 = some (.aload_n 0, 0, 0, 0, []) := by decide +kernel
theorem t_113_545 : tb_in 113 545 = some (.iload 4, 0, 0, 0, []) := by decide +kernel
theorem t_113_547 : tb_in 113 547 = some (.iconst 2, 0, 0, 2, []) := by decide +kernel
theorem t_113_548 : tb_in 113 548 = some (.iadd, 0, 0, 0, []) := by decide +kernel
theorem t_113_549 : tb_in 113 549 = some (.iaload, 0, 0, 0, []) := by decide +kernel
theorem t_113_550 : tb_in 113 550 = some (.aload_n 3, 0, 0, 0, []) := by decide +kernel
theorem t_113_551 : tb_in 113 551 = some (.invokestatic 95, 108, 4, 0, []) := by decide +kernel
theorem t_113_554 : tb_in 113 554 = some (.istore 5, 0, 0, 0, []) := by decide +kernel
theorem t_113_556 : tb_in 113 556 = some (.aload_n 2, 0, 0, 0, []) := by decide +kernel
theorem t_113_557 : tb_in 113 557 = some (.aload_n 0, 0, 0, 0, []) := by decide +kernel
theorem t_113_558 : tb_in 113 558 = some (.iload 4, 0, 0, 0, []) := by decide +kernel
theorem t_113_560 : tb_in 113 560 = some (.iconst 1, 0, 0, 1, []) := by decide +kernel
theorem t_113_561 : tb_in 113 561 = some (.iadd, 0, 0, 0, []) := by decide +kernel
theorem t_113_562 : tb_in 113 562 = some (.iaload, 0, 0, 0, []) := by decide +kernel
theorem t_113_563 : tb_in 113 563 = some (.aload_n 0, 0, 0, 0, []) := by decide +kernel
theorem t_113_564 : tb_in 113 564 = some (.iload 4, 0, 0, 0, []) := by decide +kernel
theorem t_113_566 : tb_in 113 566 = some (.iconst 2, 0, 0, 2, []) := by decide +kernel
theorem t_113_567 : tb_in 113 567 = some (.iadd, 0, 0, 0, []) := by decide +kernel
theorem t_113_568 : tb_in 113 568 = some (.iaload, 0, 0, 0, []) := by decide +kernel
theorem t_113_569 : tb_in 113 569 = some (.invokevirtual 97, 69, 3, 0, []) := by decide +kernel
theorem t_113_572 : tb_in 113 572 = some (.istore 6, 0, 0, 0, []) := by decide +kernel
theorem t_113_574 : tb_in 113 574 = some (.aload_n 2, 0, 0, 0, []) := by decide +kernel
theorem t_113_575 : tb_in 113 575 = some (.invokevirtual 73, 40, 1, 0, []) := by decide +kernel
theorem t_113_578 : tb_in 113 578 = some (.iload 5, 0, 0, 0, []) := by decide +kernel
theorem t_113_580 : tb_in 113 580 = some (.if_icmp .eq 5, 585, 0, 0, []) := by decide +kernel
theorem t_113_583 : tb_in 113 583 = some (.iconst 0, 0, 0, 0, []) := by decide +kernel
theorem t_113_584 : tb_in 113 584 = some (.ireturn, 0, 0, 0, []) := by decide +kernel
theorem t_113_585 : tb_in 113 585 = some (.iload 5, 0, 0, 0, []) := by decide +kernel
theorem t_113_587 : tb_in 113 587 = some (.ifCond .ne 22, 609, 0, 0, []) := by decide +kernel
theorem t_113_590 : tb_in 113 590 = some (.aload_n 3, 0, 0, 0, []) := by decide +kernel
theorem t_113_591 : tb_in 113 591 = some (.iconst 0, 0, 0, 0, []) := by decide +kernel
theorem t_113_592 : tb_in 113 592 = some (.laload, 0, 0, 0, []) := by decide +kernel
theorem t_113_593 : tb_in 113 593 = some (.iload 6, 0, 0, 0, []) := by decide +kernel
theorem t_113_595 : tb_in 113 595 = some (.ifCond .eq 7, 602, 0, 0, []) := by decide +kernel
theorem t_113_598 : tb_in 113 598 = some (.lconst 1, 0, 0, 0, []) := by decide +kernel
theorem t_113_599 : tb_in 113 599 = some (.goto 4, 603, 0, 0, []) := by decide +kernel
theorem t_113_602 : tb_in 113 602 = some (.lconst 0, 0, 0, 0, []) := by decide +kernel
theorem t_113_603 : tb_in 113 603 = some (.lcmp, 0, 0, 0, []) := by decide +kernel
theorem t_113_604 : tb_in 113 604 = some (.ifCond .eq 5, 609, 0, 0, []) := by decide +kernel
theorem t_113_607 : tb_in 113 607 = some (.iconst 0, 0, 0, 0, []) := by decide +kernel
theorem t_113_608 : tb_in 113 608 = some (.ireturn, 0, 0, 0, []) := by decide +kernel
theorem t_113_609 : tb_in 113 609 = some (.goto 319, 928, 0, 0, []) := by decide +kernel
theorem t_113_612 : tb_in 113 612 = some (.aload_n 1, 0, 0, 0, []) := by decide +kernel
theorem t_113_613 : tb_in 113 613 = some (.aload_n 0, 0, 0, 0, []) := by decide +kernel
theorem t_113_614 : tb_in 113 614 = some (.iload 4, 0, 0, 0, []) := by decide +kernel
theorem t_113_616 : tb_in 113 616 = some (.iconst 1, 0, 0, 1, []) := by decide +kernel
theorem t_113_617 : tb_in 113 617 = some (.iadd, 0, 0, 0, []) := by decide +kernel
theorem t_113_618 : tb_in 113 618 = some (.iaload, 0, 0, 0, []) := by decide +kernel
theorem t_113_619 : tb_in 113 619 = some (.aload_n 0, 0, 0, 0, []) := by decide +kernel
theorem t_113_620 : tb_in 113 620 = some (.iload 4, 0, 0, 0, []) := by decide +kernel
theorem t_113_622 : tb_in 113 622 = some (.iconst 2, 0, 0, 2, []) := by decide +kernel
theorem t_113_623 : tb_in 113 623 = some (.iadd, 0, 0, 0, []) := by decide +kernel
theorem t_113_624 : tb_in 113 624 = some (.iaload, 0, 0, 0, []) := by decide +kernel
theorem t_113_625 : tb_in 113 625 = some (.aload_n 0, 0, 0, 0, []) := by decide +kernel
theorem t_113_626 : tb_in 113 626 = some (.iload 4, 0, 0, 0, []) := by decide +kernel
theorem t_113_628 : tb_in 113 628 = some (.iconst 3, 0, 0, 3, []) := by decide +kernel
theorem t_113_629 : tb_in 113 629 = some (.iadd, 0, 0, 0, []) := by decide +kernel
theorem t_113_630 : tb_in 113 630 = some (.iaload, 0, 0, 0, []) := by decide +kernel
theorem t_113_631 : tb_in 113 631 = some (.aload_n 3, 0, 0, 0, []) := by decide +kernel
theorem t_113_632 : tb_in 113 632 = some (.invokestatic 98, 109, 5, 0, []) := by decide +kernel
theorem t_113_635 : tb_in 113 635 = some (.istore 5, 0, 0, 0, []) := by decide +kernel
theorem t_113_637 : tb_in 113 637 = some (.aload_n 2, 0, 0, 0, []) := by decide +kernel
theorem t_113_638 : tb_in 113 638 = some (.aload_n 0, 0, 0, 0, []) := by decide +kernel
theorem t_113_639 : tb_in 113 639 = some (.iload 4, 0, 0, 0, []) := by decide +kernel
theorem t_113_641 : tb_in 113 641 = some (.iconst 1, 0, 0, 1, []) := by decide +kernel
theorem t_113_642 : tb_in 113 642 = some (.iadd, 0, 0, 0, []) := by decide +kernel
theorem t_113_643 : tb_in 113 643 = some (.iaload, 0, 0, 0, []) := by decide +kernel
theorem t_113_644 : tb_in 113 644 = some (.aload_n 0, 0, 0, 0, []) := by decide +kernel
theorem t_113_645 : tb_in 113 645 = some (.iload 4, 0, 0, 0, []) := by decide +kernel
theorem t_113_647 : tb_in 113 647 = some (.iconst 2, 0, 0, 2, []) := by decide +kernel
theorem t_113_648 : tb_in 113 648 = some (.iadd, 0, 0, 0, []) := by decide +kernel
theorem t_113_649 : tb_in 113 649 = some (.iaload, 0, 0, 0, []) := by decide +kernel
theorem t_113_650 : tb_in 113 650 = some (.aload_n 0, 0, 0, 0, []) := by decide +kernel
theorem t_113_651 : tb_in 113 651 = some (.iload 4, 0, 0, 0, []) := by decide +kernel
theorem t_113_653 : tb_in 113 653 = some (.iconst 3, 0, 0, 3, []) := by decide +kernel
theorem t_113_654 : tb_in 113 654 = some (.iadd, 0, 0, 0, []) := by decide +kernel
theorem t_113_655 : tb_in 113 655 = some (.iaload, 0, 0, 0, []) := by decide +kernel
theorem t_113_656 : tb_in 113 656 = some (.invokevirtual 100, 70, 4, 0, []) := by decide +kernel
theorem t_113_659 : tb_in 113 659 = some (.istore 6, 0, 0, 0, []) := by decide +kernel
theorem t_113_661 : tb_in 113 661 = some (.aload_n 2, 0, 0, 0, []) := by decide +kernel
theorem t_113_662 : tb_in 113 662 = some (.invokevirtual 73, 40, 1, 0, []) := by decide +kernel
theorem t_113_665 : tb_in 113 665 = some (.iload 5, 0, 0, 0, []) := by decide +kernel
theorem t_113_667 : tb_in 113 667 = some (.if_icmp .eq 5, 672, 0, 0, []) := by decide +kernel
theorem t_113_670 : tb_in 113 670 = some (.iconst 0, 0, 0, 0, []) := by decide +kernel
theorem t_113_671 : tb_in 113 671 = some (.ireturn, 0, 0, 0, []) := by decide +kernel
theorem t_113_672 : tb_in 113 672 = some (.iload 5, 0, 0, 0, []) := by decide +kernel
theorem t_113_674 : tb_in 113 674 = some (.ifCond .ne 15, 689, 0, 0, []) := by decide +kernel
theorem t_113_677 : tb_in 113 677 = some (.aload_n 3, 0, 0, 0, []) := by decide +kernel
theorem t_113_678 : tb_in 113 678 = some (.iconst 0, 0, 0, 0, []) := by decide +kernel
theorem t_113_679 : tb_in 113 679 = some (.laload, 0, 0, 0, []) := by decide +kernel
theorem t_113_680 : tb_in 113 680 = some (.iload 6, 0, 0, 0, []) := by decide +kernel
theorem t_113_682 : tb_in 113 682 = some (.i2l, 0, 0, 0, []) := by decide +kernel
theorem t_113_683 : tb_in 113 683 = some (.lcmp, 0, 0, 0, []) := by decide +kernel
theorem t_113_684 : tb_in 113 684 = some (.ifCond .eq 5, 689, 0, 0, []) := by decide +kernel
theorem t_113_687 : tb_in 113 687 = some (.iconst 0, 0, 0, 0, []) := by decide +kernel
theorem t_113_688 : tb_in 113 688 = some (.ireturn, 0, 0, 0, []) := by decide +kernel
theorem t_113_689 : tb_in 113 689 = some (.goto 239, 928, 0, 0, []) := by decide +kernel
theorem t_113_692 : tb_in 113 692 = some (.aload_n 1, 0, 0, 0, []) := by decide +kernel
theorem t_113_693 : tb_in 113 693 = some (.aload_n 0, 0, 0, 0, []) := by decide +kernel
theorem t_113_694 : tb_in 113 694 = some (.iload 4, 0, 0, 0, []) := by decide +kernel
theorem t_113_696 : tb_in 113 696 = some (.iconst 1, 0, 0, 1, []) := by decide +kernel
theorem t_113_697 : tb_in 113 697 = some (.iadd, 0, 0, 0, []) := by decide +kernel
theorem t_113_698 : tb_in 113 698 = some (.iaload, 0, 0, 0, []) := by decide +kernel
theorem t_113_699 : tb_in 113 699 = some (.aload_n 0, 0, 0, 0, []) := by decide +kernel
theorem t_113_700 : tb_in 113 700 = some (.iload 4, 0, 0, 0, []) := by decide +kernel
theorem t_113_702 : tb_in 113 702 = some (.iconst 2, 0, 0, 2, []) := by decide +kernel
theorem t_113_703 : tb_in 113 703 = some (.iadd, 0, 0, 0, []) := by decide +kernel
theorem t_113_704 : tb_in 113 704 = some (.iaload, 0, 0, 0, []) := by decide +kernel
theorem t_113_705 : tb_in 113 705 = some (.aload_n 0, 0, 0, 0, []) := by decide +kernel
theorem t_113_706 : tb_in 113 706 = some (.iload 4, 0, 0, 0, []) := by decide +kernel
theorem t_113_708 : tb_in 113 708 = some (.iconst 3, 0, 0, 3, []) := by decide +kernel
theorem t_113_709 : tb_in 113 709 = some (.iadd, 0, 0, 0, []) := by decide +kernel
theorem t_113_710 : tb_in 113 710 = some (.iaload, 0, 0, 0, []) := by decide +kernel
theorem t_113_711 : tb_in 113 711 = some (.aload_n 3, 0, 0, 0, []) := by decide +kernel
theorem t_113_712 : tb_in 113 712 = some (.invokestatic 101, 110, 5, 0, []) := by decide +kernel
theorem t_113_715 : tb_in 113 715 = some (.istore 5, 0, 0, 0, []) := by decide +kernel
theorem t_113_717 : tb_in 113 717 = some (.aload_n 2, 0, 0, 0, []) := by decide +kernel
theorem t_113_718 : tb_in 113 718 = some (.aload_n 0, 0, 0, 0, []) := by decide +kernel
theorem t_113_719 : tb_in 113 719 = some (.iload 4, 0, 0, 0, []) := by decide +kernel
theorem t_113_721 : tb_in 113 721 = some (.iconst 1, 0, 0, 1, []) := by decide +kernel
theorem t_113_722 : tb_in 113 722 = some (.iadd, 0, 0, 0, []) := by decide +kernel
theorem t_113_723 : tb_in 113 723 = some (.iaload, 0, 0, 0, []) := by decide +kernel
theorem t_113_724 : tb_in 113 724 = some (.aload_n 0, 0, 0, 0, []) := by decide +kernel
theorem t_113_725 : tb_in 113 725 = some (.iload 4, 0, 0, 0, []) := by decide +kernel
theorem t_113_727 : tb_in 113 727 = some (.iconst 2, 0, 0, 2, []) := by decide +kernel
theorem t_113_728 : tb_in 113 728 = some (.iadd, 0, 0, 0, []) := by decide +kernel
theorem t_113_729 : tb_in 113 729 = some (.iaload, 0, 0, 0, []) := by decide +kernel
theorem t_113_730 : tb_in 113 730 = some (.aload_n 0, 0, 0, 0, []) := by decide +kernel
theorem t_113_731 : tb_in 113 731 = some (.iload 4, 0, 0, 0, []) := by decide +kernel
theorem t_113_733 : tb_in 113 733 = some (.iconst 3, 0, 0, 3, []) := by decide +kernel
theorem t_113_734 : tb_in 113 734 = some (.iadd, 0, 0, 0, []) := by decide +kernel
theorem t_113_735 : tb_in 113 735 = some (.iaload, 0, 0, 0, []) := by decide +kernel
theorem t_113_736 : tb_in 113 736 = some (.invokevirtual 103, 71, 4, 0, []) := by decide +kernel
theorem t_113_739 : tb_in 113 739 = some (.istore 6, 0, 0, 0, []) := by decide +kernel
theorem t_113_741 : tb_in 113 741 = some (.aload_n 2, 0, 0, 0, []) := by decide +kernel
theorem t_113_742 : tb_in 113 742 = some (.invokevirtual 73, 40, 1, 0, []) := by decide +kernel
theorem t_113_745 : tb_in 113 745 = some (.iload 5, 0, 0, 0, []) := by decide +kernel
theorem t_113_747 : tb_in 113 747 = some (.if_icmp .eq 5, 752, 0, 0, []) := by decide +kernel
theorem t_113_750 : tb_in 113 750 = some (.iconst 0, 0, 0, 0, []) := by decide +kernel
theorem t_113_751 : tb_in 113 751 = some (.ireturn, 0, 0, 0, []) := by decide +kernel
theorem t_113_752 : tb_in 113 752 = some (.iload 5, 0, 0, 0, []) := by decide +kernel
theorem t_113_754 : tb_in 113 754 = some (.ifCond .ne 15, 769, 0, 0, []) := by decide +kernel
theorem t_113_757 : tb_in 113 757 = some (.aload_n 3, 0, 0, 0, []) := by decide +kernel
theorem t_113_758 : tb_in 113 758 = some (.iconst 0, 0, 0, 0, []) := by decide +kernel
theorem t_113_759 : tb_in 113 759 = some (.laload, 0, 0, 0, []) := by decide +kernel
theorem t_113_760 : tb_in 113 760 = some (.iload 6, 0, 0, 0, []) := by decide +kernel
theorem t_113_762 : tb_in 113 762 = some (.i2l, 0, 0, 0, []) := by decide +kernel
theorem t_113_763 : tb_in 113 763 = some (.lcmp, 0, 0, 0, []) := by decide +kernel
theorem t_113_764 : tb_in 113 764 = some (.ifCond .eq 5, 769, 0, 0, []) := by decide +kernel
theorem t_113_767 : tb_in 113 767 = some (.iconst 0, 0, 0, 0, []) := by decide +kernel
theorem t_113_768 : tb_in 113 768 = some (.ireturn, 0, 0, 0, []) := by decide +kernel
theorem t_113_769 : tb_in 113 769 = some (.goto 159, 928, 0, 0, []) := by decide +kernel
theorem t_113_772 : tb_in 113 772 = some (.aload_n 1, 0, 0, 0, []) := by decide +kernel
theorem t_113_773 : tb_in 113 773 = some (.aload_n 0, 0, 0, 0, []) := by decide +kernel
theorem t_113_774 : tb_in 113 774 = some (.iload 4, 0, 0, 0, []) := by decide +kernel
theorem t_113_776 : tb_in 113 776 = some (.iconst 1, 0, 0, 1, []) := by decide +kernel
theorem t_113_777 : tb_in 113 777 = some (.iadd, 0, 0, 0, []) := by decide +kernel
theorem t_113_778 : tb_in 113 778 = some (.iaload, 0, 0, 0, []) := by decide +kernel
theorem t_113_779 : tb_in 113 779 = some (.invokevirtual 104, 12, 2, 0, []) := by decide +kernel
theorem t_113_782 : tb_in 113 782 = some (.aload_n 2, 0, 0, 0, []) := by decide +kernel
theorem t_113_783 : tb_in 113 783 = some (.aload_n 0, 0, 0, 0, []) := by decide +kernel
theorem t_113_784 : tb_in 113 784 = some (.iload 4, 0, 0, 0, []) := by decide +kernel
theorem t_113_786 : tb_in 113 786 = some (.iconst 1, 0, 0, 1, []) := by decide +kernel
theorem t_113_787 : tb_in 113 787 = some (.iadd, 0, 0, 0, []) := by decide +kernel
theorem t_113_788 : tb_in 113 788 = some (.iaload, 0, 0, 0, []) := by decide +kernel
theorem t_113_789 : tb_in 113 789 = some (.invokevirtual 107, 72, 2, 0, []) := by decide +kernel
theorem t_113_792 : tb_in 113 792 = some (.if_icmp .eq 136, 928, 0, 0, []) := by decide +kernel
theorem t_113_795 : tb_in 113 795 = some (.iconst 0, 0, 0, 0, []) := by decide +kernel
theorem t_113_796 : tb_in 113 796 = some (.ireturn, 0, 0, 0, []) := by decide +kernel
theorem t_113_797 : tb_in 113 797 = some (.aload_n 1, 0, 0, 0, []) := by decide +kernel
theorem t_113_798 : tb_in 113 798 = some (.aload_n 0, 0, 0, 0, []) := by decide +kernel
theorem t_113_799 : tb_in 113 799 = some (.iload 4, 0, 0, 0, []) := by decide +kernel
theorem t_113_801 : tb_in 113 801 = some (.iconst 1, 0, 0, 1, []) := by decide +kernel
theorem t_113_802 : tb_in 113 802 = some (.iadd, 0, 0, 0, []) := by decide +kernel
theorem t_113_803 : tb_in 113 803 = some (.iaload, 0, 0, 0, []) := by decide +kernel
theorem t_113_804 : tb_in 113 804 = some (.aload_n 3, 0, 0, 0, []) := by decide +kernel
theorem t_113_805 : tb_in 113 805 = some (.invokestatic 108, 111, 3, 0, []) := by decide +kernel
theorem t_113_808 : tb_in 113 808 = some (.istore 5, 0, 0, 0, []) := by decide +kernel
theorem t_113_810 : tb_in 113 810 = some (.aload_n 2, 0, 0, 0, []) := by decide +kernel
theorem t_113_811 : tb_in 113 811 = some (.aload_n 0, 0, 0, 0, []) := by decide +kernel
theorem t_113_812 : tb_in 113 812 = some (.iload 4, 0, 0, 0, []) := by decide +kernel
theorem t_113_814 : tb_in 113 814 = some (.iconst 1, 0, 0, 1, []) := by decide +kernel
theorem t_113_815 : tb_in 113 815 = some (.iadd, 0, 0, 0, []) := by decide +kernel
theorem t_113_816 : tb_in 113 816 = some (.iaload, 0, 0, 0, []) := by decide +kernel
theorem t_113_817 : tb_in 113 817 = some (.invokevirtual 110, 73, 2, 0, []) := by decide +kernel
theorem t_113_820 : tb_in 113 820 = some (.istore 6, 0, 0, 0, []) := by decide +kernel
theorem t_113_822 : tb_in 113 822 = some (.aload_n 2, 0, 0, 0, []) := by decide +kernel
theorem t_113_823 : tb_in 113 823 = some (.invokevirtual 73, 40, 1, 0, []) := by decide +kernel
theorem t_113_826 : tb_in 113 826 = some (.iload 5, 0, 0, 0, []) := by decide +kernel
theorem t_113_828 : tb_in 113 828 = some (.if_icmp .eq 5, 833, 0, 0, []) := by decide +kernel
theorem t_113_831 : tb_in 113 831 = some (.iconst 0, 0, 0, 0, []) := by decide +kernel
theorem t_113_832 : tb_in 113 832 = some (.ireturn, 0, 0, 0, []) := by decide +kernel
theorem t_113_833 : tb_in 113 833 = some (.iload 5, 0, 0, 0, []) := by decide +kernel
theorem t_113_835 : tb_in 113 835 = some (.ifCond .ne 15, 850, 0, 0, []) := by decide +kernel
theorem t_113_838 : tb_in 113 838 = some (.aload_n 3, 0, 0, 0, []) := by decide +kernel
theorem t_113_839 : tb_in 113 839 = some (.iconst 0, 0, 0, 0, []) := by decide +kernel
theorem t_113_840 : tb_in 113 840 = some (.laload, 0, 0, 0, []) := by decide +kernel
theorem t_113_841 : tb_in 113 841 = some (.iload 6, 0, 0, 0, []) := by decide +kernel
theorem t_113_843 : tb_in 113 843 = some (.i2l, 0, 0, 0, []) := by decide +kernel
theorem t_113_844 : tb_in 113 844 = some (.lcmp, 0, 0, 0, []) := by decide +kernel
theorem t_113_845 : tb_in 113 845 = some (.ifCond .eq 5, 850, 0, 0, []) := by decide +kernel
theorem t_113_848 : tb_in 113 848 = some (.iconst 0, 0, 0, 0, []) := by decide +kernel
theorem t_113_849 : tb_in 113 849 = some (.ireturn, 0, 0, 0, []) := by decide +kernel
theorem t_113_850 : tb_in 113 850 = some (.goto 78, 928, 0, 0, []) := by decide +kernel
theorem t_113_853 : tb_in 113 853 = some (.aload_n 1, 0, 0, 0, []) := by decide +kernel
theorem t_113_854 : tb_in 113 854 = some (.aload_n 0, 0, 0, 0, []) := by decide +kernel
theorem t_113_855 : tb_in 113 855 = some (.iload 4, 0, 0, 0, []) := by decide +kernel
theorem t_113_857 : tb_in 113 857 = some (.iconst 1, 0, 0, 1, []) := by decide +kernel
theorem t_113_858 : tb_in 113 858 = some (.iadd, 0, 0, 0, []) := by decide +kernel
theorem t_113_859 : tb_in 113 859 = some (.iaload, 0, 0, 0, []) := by decide +kernel
theorem t_113_860 : tb_in 113 860 = some (.aload_n 0, 0, 0, 0, []) := by decide +kernel
theorem t_113_861 : tb_in 113 861 = some (.iload 4, 0, 0, 0, []) := by decide +kernel
theorem t_113_863 : tb_in 113 863 = some (.iconst 2, 0, 0, 2, []) := by decide +kernel
theorem t_113_864 : tb_in 113 864 = some (.iadd, 0, 0, 0, []) := by decide +kernel
theorem t_113_865 : tb_in 113 865 = some (.iaload, 0, 0, 0, []) := by decide +kernel
theorem t_113_866 : tb_in 113 866 = some (.aload_n 3, 0, 0, 0, []) := by decide +kernel
theorem t_113_867 : tb_in 113 867 = some (.invokestatic 111, 112, 4, 0, []) := by decide +kernel
theorem t_113_870 : tb_in 113 870 = some (.istore 5, 0, 0, 0, []) := by decide +kernel
theorem t_113_872 : tb_in 113 872 = some (.aload_n 2, 0, 0, 0, []) := by decide +kernel
theorem t_113_873 : tb_in 113 873 = some (.aload_n 0, 0, 0, 0, []) := by decide +kernel
theorem t_113_874 : tb_in 113 874 = some (.iload 4, 0, 0, 0, []) := by decide +kernel
theorem t_113_876 : tb_in 113 876 = some (.iconst 1, 0, 0, 1, []) := by decide +kernel
theorem t_113_877 : tb_in 113 877 = some (.iadd, 0, 0, 0, []) := by decide +kernel
theorem t_113_878 : tb_in 113 878 = some (.iaload, 0, 0, 0, []) := by decide +kernel
theorem t_113_879 : tb_in 113 879 = some (.aload_n 0, 0, 0, 0, []) := by decide +kernel
theorem t_113_880 : tb_in 113 880 = some (.iload 4, 0, 0, 0, []) := by decide +kernel
theorem t_113_882 : tb_in 113 882 = some (.iconst 2, 0, 0, 2, []) := by decide +kernel
theorem t_113_883 : tb_in 113 883 = some (.iadd, 0, 0, 0, []) := by decide +kernel
theorem t_113_884 : tb_in 113 884 = some (.iaload, 0, 0, 0, []) := by decide +kernel
theorem t_113_885 : tb_in 113 885 = some (.invokevirtual 113, 74, 3, 0, []) := by decide +kernel
theorem t_113_888 : tb_in 113 888 = some (.istore 6, 0, 0, 0, []) := by decide +kernel
theorem t_113_890 : tb_in 113 890 = some (.aload_n 2, 0, 0, 0, []) := by decide +kernel
theorem t_113_891 : tb_in 113 891 = some (.invokevirtual 73, 40, 1, 0, []) := by decide +kernel
theorem t_113_894 : tb_in 113 894 = some (.iload 5, 0, 0, 0, []) := by decide +kernel
theorem t_113_896 : tb_in 113 896 = some (.if_icmp .eq 5, 901, 0, 0, []) := by decide +kernel
theorem t_113_899 : tb_in 113 899 = some (.iconst 0, 0, 0, 0, []) := by decide +kernel
theorem t_113_900 : tb_in 113 900 = some (.ireturn, 0, 0, 0, []) := by decide +kernel
theorem t_113_901 : tb_in 113 901 = some (.iload 5, 0, 0, 0, []) := by decide +kernel
theorem t_113_903 : tb_in 113 903 = some (.ifCond .ne 22, 925, 0, 0, []) := by decide +kernel
theorem t_113_906 : tb_in 113 906 = some (.aload_n 3, 0, 0, 0, []) := by decide +kernel
theorem t_113_907 : tb_in 113 907 = some (.iconst 0, 0, 0, 0, []) := by decide +kernel
theorem t_113_908 : tb_in 113 908 = some (.laload, 0, 0, 0, []) := by decide +kernel
theorem t_113_909 : tb_in 113 909 = some (.iload 6, 0, 0, 0, []) := by decide +kernel
theorem t_113_911 : tb_in 113 911 = some (.ifCond .eq 7, 918, 0, 0, []) := by decide +kernel
theorem t_113_914 : tb_in 113 914 = some (.lconst 1, 0, 0, 0, []) := by decide +kernel
theorem t_113_915 : tb_in 113 915 = some (.goto 4, 919, 0, 0, []) := by decide +kernel
theorem t_113_918 : tb_in 113 918 = some (.lconst 0, 0, 0, 0, []) := by decide +kernel
theorem t_113_919 : tb_in 113 919 = some (.lcmp, 0, 0, 0, []) := by decide +kernel
theorem t_113_920 : tb_in 113 920 = some (.ifCond .eq 5, 925, 0, 0, []) := by decide +kernel
theorem t_113_923 : tb_in 113 923 = some (.iconst 0, 0, 0, 0, []) := by decide +kernel
theorem t_113_924 : tb_in 113 924 = some (.ireturn, 0, 0, 0, []) := by decide +kernel
theorem t_113_925 : tb_in 113 925 = some (.goto 3, 928, 0, 0, []) := by decide +kernel
theorem t_113_928 : tb_in 113 928 = some (.iinc 4 4, 0, 0, 4, []) := by decide +kernel
theorem t_113_931 : tb_in 113 931 = some (.goto (-908), 23, 0, 0, []) := by decide +kernel
theorem t_113_934 : tb_in 113 934 = some (.iconst 1, 0, 0, 1, []) := by decide +kernel
theorem t_113_935 : tb_in 113 935 = some (.ireturn, 0, 0, 0, []) := by decide +kernel
end
section
/-! The class's objects as they lie behind its constructor: pointers 8 .. 369. -/
def fMR (r : Nat → Int32) : List Value := [.ref 9, .ref 11, .ref 12, .ref 13, .ref 17, .ref 19, .ref 20, .int (r 7), .ref 24, .ref 25, .int (r 10), .int (r 11), .int (r 12), .int (r 13), .int (r 14)]
def fTx (p : Nat) (r : Nat → Int32) : List Value := [.ref (p + 1), .int (r 1)]
def fCe (p : Nat) (r : Nat → Int32) : List Value := [.int (r 0), .ref (p + 1), .int (r 2), .int (r 3), .int (r 4), .int (r 5), .int (r 6)]
def fIn (_ : Nat → Int32) : List Value := [.ref 14, .ref 15, .ref 16]
def fEd (r : Nat → Int32) : List Value := [.int (r 0), .ref 18]
def fRO (r : Nat → Int32) : List Value := [.int (r 0), .ref 21, .ref 22, .ref 23]
def fWo (p : Nat) (r : Nat → Int32) : List Value := [.int (r 0), .int (r 1), .ref (p + 1), .int (r 3), .ref (r 4).toNatClampNeg, .int (r 5), .int (r 6), .ref (p + 4), .ref (p + 5), .ref (p + 6), .int (r 10)]
def aI (n : Nat) (r : Nat → Int32) : pm_E := .inl (.int, n, fun j => .int (r j))
def aC (n : Nat) (r : Nat → Int32) : pm_E := .inl (.char, n, fun j => .int (r j))
def aZ (n : Nat) (r : Nat → Int32) : pm_E := .inl (.boolean, n, fun j => .int (r j))
def sh0 : Nat → (Nat → Int32) → pm_E
  | 8, r => .inr (6, fMR r)
  | 9, r => .inr (4, fTx 9 r)
  | 10, r => aC 24 r
  | 11, _ => .inl (.object "MemoRuntime$Text", 6, fun f => .ref (26 + 2 * f))
  | 12, r => aI 6 r
  | 13, r => .inr (2, fIn r)
  | 14, r => aI 48 r
  | 15, r => aI 48 r
  | 16, r => aI 3 r
  | 17, r => .inr (1, fEd r)
  | 18, r => aI 3 r
  | 19, _ => .inl (.object "MemoRuntime$Cell", 96, fun n => .ref (38 + 2 * n))
  | 20, r => .inr (3, fRO r)
  | 21, r => aZ 96 r
  | 22, r => aI 97 r
  | 23, r => aI 97 r
  | 24, r => aI 20 r
  | 25, _ => .inl (.object "MemoRuntime$Working", 20, fun w => .ref (230 + 7 * w))
  | _, r => aI 0 r
def shW (p : Nat) (r : Nat → Int32) : Nat → pm_E
  | 0 => .inr (5, fWo p r)
  | 1 => aI 24 r
  | 2 => .inr (4, fTx p r)
  | 3 => aC 24 r
  | 4 => aC 24 r
  | 5 => aZ 24 r
  | _ => aI 24 r
def shC (p : Nat) (r : Nat → Int32) : pm_E :=
  if p < 26 then sh0 p r
  else if p < 38 then (if p % 2 = 0 then .inr (4, fTx p r) else aC 24 r)
  else if p < 230 then (if p % 2 = 0 then .inr (0, fCe p r) else aI 24 r)
  else shW p r ((p - 230) % 7)
abbrev sC (M : pm_M) (σ : Nat → Nat → Int32) : pm_M := sl 8 370 shC M σ
/-- a text's place, its characters behind it -/
def isTx (p : Nat) : Prop := p = 9 ∨ (∃ f, f < 6 ∧ p = 26 + 2 * f) ∨ ∃ w, w < 20 ∧ p = 232 + 7 * w
theorem o_MR : ob 8 370 shC 8 6 fMR := ⟨by decide, fun _ => rfl⟩
theorem o_In : ob 8 370 shC 13 2 fIn := ⟨by decide, fun _ => rfl⟩
theorem o_Ed : ob 8 370 shC 17 1 fEd := ⟨by decide, fun _ => rfl⟩
theorem o_RO : ob 8 370 shC 20 3 fRO := ⟨by decide, fun _ => rfl⟩
theorem r_TA : rr 8 370 shC 11 (.object "MemoRuntime$Text") 6 (fun f => .ref (26 + 2 * f)) := ⟨by decide, by decide, fun _ => rfl⟩
theorem r_CA : rr 8 370 shC 19 (.object "MemoRuntime$Cell") 96 (fun n => .ref (38 + 2 * n)) := ⟨by decide, by decide, fun _ => rfl⟩
theorem r_WA : rr 8 370 shC 25 (.object "MemoRuntime$Working") 20 (fun w => .ref (230 + 7 * w)) := ⟨by decide, by decide, fun _ => rfl⟩
theorem a_CV : ar 8 370 shC 12 .int 6 := ⟨by decide, by decide, fun _ => rfl⟩
theorem a_iv : ar 8 370 shC 14 .int 48 := ⟨by decide, by decide, fun _ => rfl⟩
theorem a_ic : ar 8 370 shC 15 .int 48 := ⟨by decide, by decide, fun _ => rfl⟩
theorem a_ik : ar 8 370 shC 16 .int 3 := ⟨by decide, by decide, fun _ => rfl⟩
theorem a_el : ar 8 370 shC 18 .int 3 := ⟨by decide, by decide, fun _ => rfl⟩
theorem a_he : ar 8 370 shC 21 .boolean 96 := ⟨by decide, by decide, fun _ => rfl⟩
theorem a_be : ar 8 370 shC 22 .int 97 := ⟨by decide, by decide, fun _ => rfl⟩
theorem a_af : ar 8 370 shC 23 .int 97 := ⟨by decide, by decide, fun _ => rfl⟩
theorem a_uw : ar 8 370 shC 24 .int 20 := ⟨by decide, by decide, fun _ => rfl⟩
theorem o_Ce {n : Nat} (h : n < 96) : ob 8 370 shC (38 + 2 * n) 0 (fCe (38 + 2 * n)) := ⟨⟨by omega, by omega, by omega⟩, fun r => by
  unfold shC
  rw [if_neg (by omega), if_neg (by omega), if_pos (by omega), if_pos (by omega)]⟩
theorem a_rd {n : Nat} (h : n < 96) : ar 8 370 shC (38 + 2 * n + 1) .int 24 := ⟨⟨by omega, by omega, by omega⟩, by decide, fun r => by
  unfold shC
  rw [if_neg (by omega), if_neg (by omega), if_pos (by omega), if_neg (by omega)]
  rfl⟩
theorem o_Tx {p : Nat} (h : isTx p) : ob 8 370 shC p 4 (fTx p) := by
  rcases h with rfl | ⟨f, hf, rfl⟩ | ⟨w, hw, rfl⟩
  · exact ⟨by decide, fun _ => rfl⟩
  · exact ⟨⟨by omega, by omega, by omega⟩, fun r => by
      unfold shC
      rw [if_neg (by omega), if_pos (by omega), if_pos (by omega)]⟩
  · exact ⟨⟨by omega, by omega, by omega⟩, fun r => by
      unfold shC
      rw [if_neg (by omega), if_neg (by omega), if_neg (by omega), show (232 + 7 * w - 230) % 7 = 2 by omega]
      rfl⟩
theorem a_ch {p : Nat} (h : isTx p) : ar 8 370 shC (p + 1) .char 24 := by
  rcases h with rfl | ⟨f, hf, rfl⟩ | ⟨w, hw, rfl⟩
  · exact ⟨by decide, by decide, fun _ => rfl⟩
  · exact ⟨⟨by omega, by omega, by omega⟩, by decide, fun r => by
      unfold shC
      rw [if_neg (by omega), if_pos (by omega), if_neg (by omega)]
      rfl⟩
  · exact ⟨⟨by omega, by omega, by omega⟩, by decide, fun r => by
      unfold shC
      rw [if_neg (by omega), if_neg (by omega), if_neg (by omega), show (232 + 7 * w + 1 - 230) % 7 = 3 by omega]
      rfl⟩
theorem o_Wo {w : Nat} (h : w < 20) : ob 8 370 shC (230 + 7 * w) 5 (fWo (230 + 7 * w)) := ⟨⟨by omega, by omega, by omega⟩, fun r => by
  unfold shC
  rw [if_neg (by omega), if_neg (by omega), if_neg (by omega), show (230 + 7 * w - 230) % 7 = 0 by omega]
  rfl⟩
theorem a_wr {w : Nat} (h : w < 20) : ar 8 370 shC (230 + 7 * w + 1) .int 24 := ⟨⟨by omega, by omega, by omega⟩, by decide, fun r => by
  unfold shC
  rw [if_neg (by omega), if_neg (by omega), if_neg (by omega), show (230 + 7 * w + 1 - 230) % 7 = 1 by omega]
  rfl⟩
theorem a_ww {w : Nat} (h : w < 20) : ar 8 370 shC (230 + 7 * w + 4) .char 24 := ⟨⟨by omega, by omega, by omega⟩, by decide, fun r => by
  unfold shC
  rw [if_neg (by omega), if_neg (by omega), if_neg (by omega), show (230 + 7 * w + 4 - 230) % 7 = 4 by omega]
  rfl⟩
theorem a_wh {w : Nat} (h : w < 20) : ar 8 370 shC (230 + 7 * w + 5) .boolean 24 := ⟨⟨by omega, by omega, by omega⟩, by decide, fun r => by
  unfold shC
  rw [if_neg (by omega), if_neg (by omega), if_neg (by omega), show (230 + 7 * w + 5 - 230) % 7 = 5 by omega]
  rfl⟩
theorem a_wl {w : Nat} (h : w < 20) : ar 8 370 shC (230 + 7 * w + 6) .int 24 := ⟨⟨by omega, by omega, by omega⟩, by decide, fun r => by
  unfold shC
  rw [if_neg (by omega), if_neg (by omega), if_neg (by omega), show (230 + 7 * w + 6 - 230) % 7 = 6 by omega]
  rfl⟩
end
