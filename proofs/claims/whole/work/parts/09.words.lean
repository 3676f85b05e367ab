/-! The tables' words, each where the claim has it. Written by program. -/
def tb_on : Nat → String
  | 0 => "MemoRuntime$Cell"
  | 1 => "MemoRuntime$Edits"
  | 2 => "MemoRuntime$Inputs"
  | 3 => "MemoRuntime$RecentOrder"
  | 4 => "MemoRuntime$Text"
  | 5 => "MemoRuntime$Working"
  | 6 => "MemoRuntime"
  | 7 => "MemoRuntimeModel"
  | 8 => "MemoRuntimeLaw"
  | _ => ""
def tb_ow : Nat → Nat
  | 0 => 6
  | 1 => 6
  | 2 => 6
  | 3 => 6
  | 4 => 6
  | 5 => 6
  | 6 => 6
  | 7 => 6
  | 8 => 6
  | 9 => 6
  | 10 => 6
  | 11 => 6
  | 12 => 6
  | 13 => 6
  | 14 => 6
  | 15 => 6
  | 16 => 6
  | 17 => 6
  | 18 => 6
  | 19 => 6
  | 20 => 6
  | 21 => 6
  | 22 => 6
  | 23 => 6
  | 24 => 6
  | 25 => 6
  | 26 => 6
  | 27 => 6
  | 28 => 6
  | 29 => 6
  | 30 => 6
  | 31 => 6
  | 32 => 6
  | 33 => 6
  | 34 => 6
  | 35 => 6
  | 36 => 6
  | 37 => 6
  | 38 => 6
  | 39 => 7
  | 40 => 7
  | 41 => 7
  | 42 => 7
  | 43 => 7
  | 44 => 7
  | 45 => 7
  | 46 => 7
  | 47 => 7
  | 48 => 7
  | 49 => 7
  | 50 => 7
  | 51 => 7
  | 52 => 7
  | 53 => 7
  | 54 => 7
  | 55 => 7
  | 56 => 7
  | 57 => 7
  | 58 => 7
  | 59 => 7
  | 60 => 7
  | 61 => 7
  | 62 => 7
  | 63 => 7
  | 64 => 7
  | 65 => 7
  | 66 => 7
  | 67 => 7
  | 68 => 7
  | 69 => 7
  | 70 => 7
  | 71 => 7
  | 72 => 7
  | 73 => 7
  | 74 => 7
  | 75 => 0
  | 76 => 1
  | 77 => 1
  | 78 => 1
  | 79 => 2
  | 80 => 3
  | 81 => 3
  | 82 => 3
  | 83 => 3
  | 84 => 3
  | 85 => 3
  | 86 => 3
  | 87 => 4
  | 88 => 4
  | 89 => 4
  | 90 => 4
  | 91 => 4
  | 92 => 4
  | 93 => 5
  | 94 => 5
  | 95 => 5
  | 96 => 5
  | 97 => 5
  | 98 => 5
  | 99 => 5
  | 100 => 5
  | 101 => 5
  | 102 => 5
  | 103 => 8
  | 104 => 8
  | 105 => 8
  | 106 => 8
  | 107 => 8
  | 108 => 8
  | 109 => 8
  | 110 => 8
  | 111 => 8
  | 112 => 8
  | 113 => 8
  | _ => 100
def pk_ok (w : Cond) : Bool := match w with
  | .arrayOver _ => true
  | .arrayClass _ => true
  | w => w.onTables
def pk_Y (s0 : State) : Prop := ∀ w ∈ lw_tbl, pk_ok w = true → w.before #[] s0 = true
theorem pk_cw {s0 : State} {y : MethodName} {bs : ByteArray} {n : Nat} {r : Option FieldType} (h : (Cond.code y bs n r).before #[] s0 = true) : (Cond.codeWith y bs n r []).before #[] s0 = true := by
  simp only [Cond.before, Cond.holds] at h ⊢
  rw [← Cond.code_iff_codeWith_nil]
  exact h
theorem wm_0 : Jvm.Cond.initialized "MemoRuntimeLaw" ∈ lw_tbl := List.mem_append_right _ (List.mem_of_getElem? (i := 0) (by decide +kernel))
theorem wm_1 : Jvm.Cond.initialized "MemoRuntime" ∈ lw_tbl := List.mem_append_right _ (List.mem_of_getElem? (i := 1) (by decide +kernel))
theorem wm_2 : Jvm.Cond.initialized "MemoRuntime$Text" ∈ lw_tbl := List.mem_append_right _ (List.mem_of_getElem? (i := 2) (by decide +kernel))
theorem wm_3 : Jvm.Cond.initialized "MemoRuntime$Inputs" ∈ lw_tbl := List.mem_append_right _ (List.mem_of_getElem? (i := 3) (by decide +kernel))
theorem wm_4 : Jvm.Cond.initialized "MemoRuntime$Edits" ∈ lw_tbl := List.mem_append_right _ (List.mem_of_getElem? (i := 4) (by decide +kernel))
theorem wm_5 : Jvm.Cond.initialized "MemoRuntime$RecentOrder" ∈ lw_tbl := List.mem_append_right _ (List.mem_of_getElem? (i := 5) (by decide +kernel))
theorem wm_6 : Jvm.Cond.initialized "MemoRuntime$Cell" ∈ lw_tbl := List.mem_append_right _ (List.mem_of_getElem? (i := 6) (by decide +kernel))
theorem wm_7 : Jvm.Cond.initialized "MemoRuntime$Working" ∈ lw_tbl := List.mem_append_right _ (List.mem_of_getElem? (i := 7) (by decide +kernel))
theorem wm_8 : Jvm.Cond.initialized "MemoRuntimeModel" ∈ lw_tbl := List.mem_append_right _ (List.mem_of_getElem? (i := 8) (by decide +kernel))
theorem wm_15 : Jvm.Cond.initialized "java/lang/Math" ∈ lw_tbl := List.mem_append_right _ (List.mem_of_getElem? (i := 15) (by decide +kernel))
theorem wm_16 : Jvm.Cond.initialized "java/lang/System" ∈ lw_tbl := List.mem_append_right _ (List.mem_of_getElem? (i := 16) (by decide +kernel))
theorem wm_19 : Jvm.Cond.classLink "MemoRuntimeLaw" (8 : Nat) "MemoRuntime" ∈ lw_tbl := List.mem_append_right _ (List.mem_of_getElem? (i := 19) (by decide +kernel))
theorem wm_20 : Jvm.Cond.instantiable "MemoRuntime" (15 : Nat) ∈ lw_tbl := List.mem_append_right _ (List.mem_of_getElem? (i := 20) (by decide +kernel))
theorem wm_21 : Jvm.Cond.methodLink "MemoRuntimeLaw" (51 : Nat) ({ cls := "MemoRuntime", name := "<init>", desc := "()V" } : Jvm.MethodName) ∈ lw_tbl := List.mem_append_right _ (List.mem_of_getElem? (i := 21) (by decide +kernel))
theorem wm_22 : Jvm.Cond.instanceMethod ({ cls := "MemoRuntime", name := "<init>", desc := "()V" } : Jvm.MethodName) ∈ lw_tbl := List.mem_append_right _ (List.mem_of_getElem? (i := 22) (by decide +kernel))
theorem wm_23 : Jvm.Cond.code ({ cls := "MemoRuntime", name := "<init>", desc := "()V" } : Jvm.MethodName) prog_1_method_1_code (2 : Nat) (Option.none : Option Jvm.ClassFile.FieldType) ∈ lw_tbl := List.mem_append_right _ (List.mem_of_getElem? (i := 23) (by decide +kernel))
theorem wm_24 : Jvm.Cond.methodLink "MemoRuntime" (1 : Nat) ({ cls := "java/lang/Object", name := "<init>", desc := "()V" } : Jvm.MethodName) ∈ lw_tbl := List.mem_append_right _ (List.mem_of_getElem? (i := 24) (by decide +kernel))
theorem wm_25 : Jvm.Cond.instanceMethod ({ cls := "java/lang/Object", name := "<init>", desc := "()V" } : Jvm.MethodName) ∈ lw_tbl := List.mem_append_right _ (List.mem_of_getElem? (i := 25) (by decide +kernel))
theorem wm_27 : Jvm.Cond.classLink "MemoRuntime" (7 : Nat) "MemoRuntime$Text" ∈ lw_tbl := List.mem_append_right _ (List.mem_of_getElem? (i := 27) (by decide +kernel))
theorem wm_28 : Jvm.Cond.instantiable "MemoRuntime$Text" (2 : Nat) ∈ lw_tbl := List.mem_append_right _ (List.mem_of_getElem? (i := 28) (by decide +kernel))
theorem wm_29 : Jvm.Cond.methodLinkNest "MemoRuntime" (9 : Nat) ({ cls := "MemoRuntime$Text", name := "<init>", desc := "()V" } : Jvm.MethodName) "MemoRuntime" ∈ lw_tbl := List.mem_append_right _ (List.mem_of_getElem? (i := 29) (by decide +kernel))
theorem wm_30 : Jvm.Cond.instanceMethod ({ cls := "MemoRuntime$Text", name := "<init>", desc := "()V" } : Jvm.MethodName) ∈ lw_tbl := List.mem_append_right _ (List.mem_of_getElem? (i := 30) (by decide +kernel))
theorem wm_31 : Jvm.Cond.code ({ cls := "MemoRuntime$Text", name := "<init>", desc := "()V" } : Jvm.MethodName) prog_7_method_1_code (1 : Nat) (Option.none : Option Jvm.ClassFile.FieldType) ∈ lw_tbl := List.mem_append_right _ (List.mem_of_getElem? (i := 31) (by decide +kernel))
theorem wm_32 : Jvm.Cond.methodLink "MemoRuntime$Text" (3 : Nat) ({ cls := "java/lang/Object", name := "<init>", desc := "()V" } : Jvm.MethodName) ∈ lw_tbl := List.mem_append_right _ (List.mem_of_getElem? (i := 32) (by decide +kernel))
theorem wm_33 : Jvm.Cond.fieldLink "MemoRuntime$Text" (9 : Nat) "MemoRuntime$Text" "characters" "[C" ∈ lw_tbl := List.mem_append_right _ (List.mem_of_getElem? (i := 33) (by decide +kernel))
theorem wm_34 : Jvm.Cond.fieldLink "MemoRuntime$Working" (55 : Nat) "MemoRuntime$Text" "characters" "[C" ∈ lw_tbl := List.mem_append_right _ (List.mem_of_getElem? (i := 34) (by decide +kernel))
theorem wm_35 : Jvm.Cond.fieldLink "MemoRuntime$Text" (15 : Nat) "MemoRuntime$Text" "length" "I" ∈ lw_tbl := List.mem_append_right _ (List.mem_of_getElem? (i := 35) (by decide +kernel))
theorem wm_36 : Jvm.Cond.fieldLink "MemoRuntime" (85 : Nat) "MemoRuntime$Text" "length" "I" ∈ lw_tbl := List.mem_append_right _ (List.mem_of_getElem? (i := 36) (by decide +kernel))
theorem wm_37 : Jvm.Cond.fieldLink "MemoRuntime$Working" (52 : Nat) "MemoRuntime$Text" "length" "I" ∈ lw_tbl := List.mem_append_right _ (List.mem_of_getElem? (i := 37) (by decide +kernel))
theorem wm_43 : Jvm.Cond.arrayClass Jvm.ClassFile.FieldType.char ∈ lw_tbl := List.mem_append_right _ (List.mem_of_getElem? (i := 43) (by decide +kernel))
theorem wm_44 : Jvm.Cond.arrayOver (Jvm.ClassFile.FieldType.object "MemoRuntime$Text") ∈ lw_tbl := List.mem_append_right _ (List.mem_of_getElem? (i := 44) (by decide +kernel))
theorem wm_45 : Jvm.Cond.classLink "MemoRuntime" (24 : Nat) "MemoRuntime$Inputs" ∈ lw_tbl := List.mem_append_right _ (List.mem_of_getElem? (i := 45) (by decide +kernel))
theorem wm_46 : Jvm.Cond.instantiable "MemoRuntime$Inputs" (3 : Nat) ∈ lw_tbl := List.mem_append_right _ (List.mem_of_getElem? (i := 46) (by decide +kernel))
theorem wm_47 : Jvm.Cond.methodLinkNest "MemoRuntime" (26 : Nat) ({ cls := "MemoRuntime$Inputs", name := "<init>", desc := "()V" } : Jvm.MethodName) "MemoRuntime" ∈ lw_tbl := List.mem_append_right _ (List.mem_of_getElem? (i := 47) (by decide +kernel))
theorem wm_48 : Jvm.Cond.instanceMethod ({ cls := "MemoRuntime$Inputs", name := "<init>", desc := "()V" } : Jvm.MethodName) ∈ lw_tbl := List.mem_append_right _ (List.mem_of_getElem? (i := 48) (by decide +kernel))
theorem wm_49 : Jvm.Cond.code ({ cls := "MemoRuntime$Inputs", name := "<init>", desc := "()V" } : Jvm.MethodName) prog_4_method_1_code (1 : Nat) (Option.none : Option Jvm.ClassFile.FieldType) ∈ lw_tbl := List.mem_append_right _ (List.mem_of_getElem? (i := 49) (by decide +kernel))
theorem wm_50 : Jvm.Cond.methodLink "MemoRuntime$Inputs" (3 : Nat) ({ cls := "java/lang/Object", name := "<init>", desc := "()V" } : Jvm.MethodName) ∈ lw_tbl := List.mem_append_right _ (List.mem_of_getElem? (i := 50) (by decide +kernel))
theorem wm_51 : Jvm.Cond.fieldLink "MemoRuntime$Inputs" (9 : Nat) "MemoRuntime$Inputs" "values" "[I" ∈ lw_tbl := List.mem_append_right _ (List.mem_of_getElem? (i := 51) (by decide +kernel))
theorem wm_52 : Jvm.Cond.fieldLink "MemoRuntime" (117 : Nat) "MemoRuntime$Inputs" "values" "[I" ∈ lw_tbl := List.mem_append_right _ (List.mem_of_getElem? (i := 52) (by decide +kernel))
theorem wm_53 : Jvm.Cond.fieldLink "MemoRuntime$Inputs" (15 : Nat) "MemoRuntime$Inputs" "changed" "[I" ∈ lw_tbl := List.mem_append_right _ (List.mem_of_getElem? (i := 53) (by decide +kernel))
theorem wm_54 : Jvm.Cond.fieldLink "MemoRuntime" (126 : Nat) "MemoRuntime$Inputs" "changed" "[I" ∈ lw_tbl := List.mem_append_right _ (List.mem_of_getElem? (i := 54) (by decide +kernel))
theorem wm_55 : Jvm.Cond.fieldLink "MemoRuntime$Inputs" (18 : Nat) "MemoRuntime$Inputs" "classes" "[I" ∈ lw_tbl := List.mem_append_right _ (List.mem_of_getElem? (i := 55) (by decide +kernel))
theorem wm_56 : Jvm.Cond.fieldLink "MemoRuntime" (120 : Nat) "MemoRuntime$Inputs" "classes" "[I" ∈ lw_tbl := List.mem_append_right _ (List.mem_of_getElem? (i := 56) (by decide +kernel))
theorem wm_64 : Jvm.Cond.arrayClass Jvm.ClassFile.FieldType.int ∈ lw_tbl := List.mem_append_right _ (List.mem_of_getElem? (i := 64) (by decide +kernel))
theorem wm_65 : Jvm.Cond.classLink "MemoRuntime" (31 : Nat) "MemoRuntime$Edits" ∈ lw_tbl := List.mem_append_right _ (List.mem_of_getElem? (i := 65) (by decide +kernel))
theorem wm_66 : Jvm.Cond.instantiable "MemoRuntime$Edits" (2 : Nat) ∈ lw_tbl := List.mem_append_right _ (List.mem_of_getElem? (i := 66) (by decide +kernel))
theorem wm_67 : Jvm.Cond.methodLinkNest "MemoRuntime" (33 : Nat) ({ cls := "MemoRuntime$Edits", name := "<init>", desc := "()V" } : Jvm.MethodName) "MemoRuntime" ∈ lw_tbl := List.mem_append_right _ (List.mem_of_getElem? (i := 67) (by decide +kernel))
theorem wm_68 : Jvm.Cond.instanceMethod ({ cls := "MemoRuntime$Edits", name := "<init>", desc := "()V" } : Jvm.MethodName) ∈ lw_tbl := List.mem_append_right _ (List.mem_of_getElem? (i := 68) (by decide +kernel))
theorem wm_69 : Jvm.Cond.code ({ cls := "MemoRuntime$Edits", name := "<init>", desc := "()V" } : Jvm.MethodName) prog_3_method_1_code (1 : Nat) (Option.none : Option Jvm.ClassFile.FieldType) ∈ lw_tbl := List.mem_append_right _ (List.mem_of_getElem? (i := 69) (by decide +kernel))
theorem wm_70 : Jvm.Cond.methodLink "MemoRuntime$Edits" (3 : Nat) ({ cls := "java/lang/Object", name := "<init>", desc := "()V" } : Jvm.MethodName) ∈ lw_tbl := List.mem_append_right _ (List.mem_of_getElem? (i := 70) (by decide +kernel))
theorem wm_71 : Jvm.Cond.fieldLink "MemoRuntime$Edits" (9 : Nat) "MemoRuntime$Edits" "revision" "I" ∈ lw_tbl := List.mem_append_right _ (List.mem_of_getElem? (i := 71) (by decide +kernel))
theorem wm_72 : Jvm.Cond.fieldLink "MemoRuntime" (129 : Nat) "MemoRuntime$Edits" "revision" "I" ∈ lw_tbl := List.mem_append_right _ (List.mem_of_getElem? (i := 72) (by decide +kernel))
theorem wm_73 : Jvm.Cond.fieldLink "MemoRuntime$Edits" (15 : Nat) "MemoRuntime$Edits" "last" "[I" ∈ lw_tbl := List.mem_append_right _ (List.mem_of_getElem? (i := 73) (by decide +kernel))
theorem wm_79 : Jvm.Cond.classLink "MemoRuntime" (38 : Nat) "MemoRuntime$Cell" ∈ lw_tbl := List.mem_append_right _ (List.mem_of_getElem? (i := 79) (by decide +kernel))
theorem wm_80 : Jvm.Cond.arrayOver (Jvm.ClassFile.FieldType.object "MemoRuntime$Cell") ∈ lw_tbl := List.mem_append_right _ (List.mem_of_getElem? (i := 80) (by decide +kernel))
theorem wm_81 : Jvm.Cond.classLink "MemoRuntime" (44 : Nat) "MemoRuntime$RecentOrder" ∈ lw_tbl := List.mem_append_right _ (List.mem_of_getElem? (i := 81) (by decide +kernel))
theorem wm_82 : Jvm.Cond.instantiable "MemoRuntime$RecentOrder" (4 : Nat) ∈ lw_tbl := List.mem_append_right _ (List.mem_of_getElem? (i := 82) (by decide +kernel))
theorem wm_83 : Jvm.Cond.methodLink "MemoRuntime" (46 : Nat) ({ cls := "MemoRuntime$RecentOrder", name := "<init>", desc := "()V" } : Jvm.MethodName) ∈ lw_tbl := List.mem_append_right _ (List.mem_of_getElem? (i := 83) (by decide +kernel))
theorem wm_84 : Jvm.Cond.instanceMethod ({ cls := "MemoRuntime$RecentOrder", name := "<init>", desc := "()V" } : Jvm.MethodName) ∈ lw_tbl := List.mem_append_right _ (List.mem_of_getElem? (i := 84) (by decide +kernel))
theorem wm_85 : Jvm.Cond.code ({ cls := "MemoRuntime$RecentOrder", name := "<init>", desc := "()V" } : Jvm.MethodName) prog_6_method_1_code (1 : Nat) (Option.none : Option Jvm.ClassFile.FieldType) ∈ lw_tbl := List.mem_append_right _ (List.mem_of_getElem? (i := 85) (by decide +kernel))
theorem wm_86 : Jvm.Cond.methodLink "MemoRuntime$RecentOrder" (3 : Nat) ({ cls := "java/lang/Object", name := "<init>", desc := "()V" } : Jvm.MethodName) ∈ lw_tbl := List.mem_append_right _ (List.mem_of_getElem? (i := 86) (by decide +kernel))
theorem wm_87 : Jvm.Cond.fieldLink "MemoRuntime$RecentOrder" (9 : Nat) "MemoRuntime$RecentOrder" "size" "I" ∈ lw_tbl := List.mem_append_right _ (List.mem_of_getElem? (i := 87) (by decide +kernel))
theorem wm_88 : Jvm.Cond.fieldLink "MemoRuntime" (168 : Nat) "MemoRuntime$RecentOrder" "size" "I" ∈ lw_tbl := List.mem_append_right _ (List.mem_of_getElem? (i := 88) (by decide +kernel))
theorem wm_89 : Jvm.Cond.fieldLink "MemoRuntime$RecentOrder" (15 : Nat) "MemoRuntime$RecentOrder" "held" "[Z" ∈ lw_tbl := List.mem_append_right _ (List.mem_of_getElem? (i := 89) (by decide +kernel))
theorem wm_90 : Jvm.Cond.fieldLink "MemoRuntime$RecentOrder" (19 : Nat) "MemoRuntime$RecentOrder" "before" "[I" ∈ lw_tbl := List.mem_append_right _ (List.mem_of_getElem? (i := 90) (by decide +kernel))
theorem wm_91 : Jvm.Cond.fieldLink "MemoRuntime$RecentOrder" (23 : Nat) "MemoRuntime$RecentOrder" "after" "[I" ∈ lw_tbl := List.mem_append_right _ (List.mem_of_getElem? (i := 91) (by decide +kernel))
theorem wm_101 : Jvm.Cond.arrayClass Jvm.ClassFile.FieldType.boolean ∈ lw_tbl := List.mem_append_right _ (List.mem_of_getElem? (i := 101) (by decide +kernel))
theorem wm_102 : Jvm.Cond.classLink "MemoRuntime" (58 : Nat) "MemoRuntime$Working" ∈ lw_tbl := List.mem_append_right _ (List.mem_of_getElem? (i := 102) (by decide +kernel))
theorem wm_103 : Jvm.Cond.arrayOver (Jvm.ClassFile.FieldType.object "MemoRuntime$Working") ∈ lw_tbl := List.mem_append_right _ (List.mem_of_getElem? (i := 103) (by decide +kernel))
theorem wm_104 : Jvm.Cond.methodLink "MemoRuntime" (79 : Nat) ({ cls := "MemoRuntime$Text", name := "append", desc := "(C)V" } : Jvm.MethodName) ∈ lw_tbl := List.mem_append_right _ (List.mem_of_getElem? (i := 104) (by decide +kernel))
theorem wm_105 : Jvm.Cond.instanceMethod ({ cls := "MemoRuntime$Text", name := "append", desc := "(C)V" } : Jvm.MethodName) ∈ lw_tbl := List.mem_append_right _ (List.mem_of_getElem? (i := 105) (by decide +kernel))
theorem wm_106 : Jvm.Cond.selects "MemoRuntime$Text" ({ cls := "MemoRuntime$Text", name := "append", desc := "(C)V" } : Jvm.MethodName) ({ cls := "MemoRuntime$Text", name := "append", desc := "(C)V" } : Jvm.MethodName) ∈ lw_tbl := List.mem_append_right _ (List.mem_of_getElem? (i := 106) (by decide +kernel))
theorem wm_107 : Jvm.Cond.code ({ cls := "MemoRuntime$Text", name := "append", desc := "(C)V" } : Jvm.MethodName) prog_7_method_3_code (2 : Nat) (Option.none : Option Jvm.ClassFile.FieldType) ∈ lw_tbl := List.mem_append_right _ (List.mem_of_getElem? (i := 107) (by decide +kernel))
theorem wm_108 : Jvm.Cond.instantiable "MemoRuntime$Cell" (7 : Nat) ∈ lw_tbl := List.mem_append_right _ (List.mem_of_getElem? (i := 108) (by decide +kernel))
theorem wm_109 : Jvm.Cond.methodLinkNest "MemoRuntime" (83 : Nat) ({ cls := "MemoRuntime$Cell", name := "<init>", desc := "()V" } : Jvm.MethodName) "MemoRuntime" ∈ lw_tbl := List.mem_append_right _ (List.mem_of_getElem? (i := 109) (by decide +kernel))
theorem wm_110 : Jvm.Cond.instanceMethod ({ cls := "MemoRuntime$Cell", name := "<init>", desc := "()V" } : Jvm.MethodName) ∈ lw_tbl := List.mem_append_right _ (List.mem_of_getElem? (i := 110) (by decide +kernel))
theorem wm_111 : Jvm.Cond.code ({ cls := "MemoRuntime$Cell", name := "<init>", desc := "()V" } : Jvm.MethodName) prog_2_method_1_code (1 : Nat) (Option.none : Option Jvm.ClassFile.FieldType) ∈ lw_tbl := List.mem_append_right _ (List.mem_of_getElem? (i := 111) (by decide +kernel))
theorem wm_112 : Jvm.Cond.methodLink "MemoRuntime$Cell" (3 : Nat) ({ cls := "java/lang/Object", name := "<init>", desc := "()V" } : Jvm.MethodName) ∈ lw_tbl := List.mem_append_right _ (List.mem_of_getElem? (i := 112) (by decide +kernel))
theorem wm_113 : Jvm.Cond.fieldLink "MemoRuntime$Cell" (9 : Nat) "MemoRuntime$Cell" "value" "I" ∈ lw_tbl := List.mem_append_right _ (List.mem_of_getElem? (i := 113) (by decide +kernel))
theorem wm_114 : Jvm.Cond.fieldLink "MemoRuntime" (165 : Nat) "MemoRuntime$Cell" "value" "I" ∈ lw_tbl := List.mem_append_right _ (List.mem_of_getElem? (i := 114) (by decide +kernel))
theorem wm_115 : Jvm.Cond.fieldLink "MemoRuntime$Cell" (15 : Nat) "MemoRuntime$Cell" "reads" "[I" ∈ lw_tbl := List.mem_append_right _ (List.mem_of_getElem? (i := 115) (by decide +kernel))
theorem wm_116 : Jvm.Cond.fieldLink "MemoRuntime" (194 : Nat) "MemoRuntime$Cell" "reads" "[I" ∈ lw_tbl := List.mem_append_right _ (List.mem_of_getElem? (i := 116) (by decide +kernel))
theorem wm_117 : Jvm.Cond.fieldLink "MemoRuntime$Cell" (19 : Nat) "MemoRuntime$Cell" "readCount" "I" ∈ lw_tbl := List.mem_append_right _ (List.mem_of_getElem? (i := 117) (by decide +kernel))
theorem wm_118 : Jvm.Cond.fieldLink "MemoRuntime" (191 : Nat) "MemoRuntime$Cell" "readCount" "I" ∈ lw_tbl := List.mem_append_right _ (List.mem_of_getElem? (i := 118) (by decide +kernel))
theorem wm_119 : Jvm.Cond.fieldLink "MemoRuntime$Cell" (22 : Nat) "MemoRuntime$Cell" "good" "I" ∈ lw_tbl := List.mem_append_right _ (List.mem_of_getElem? (i := 119) (by decide +kernel))
theorem wm_120 : Jvm.Cond.fieldLink "MemoRuntime" (179 : Nat) "MemoRuntime$Cell" "good" "I" ∈ lw_tbl := List.mem_append_right _ (List.mem_of_getElem? (i := 120) (by decide +kernel))
theorem wm_121 : Jvm.Cond.fieldLink "MemoRuntime$Cell" (25 : Nat) "MemoRuntime$Cell" "changed" "I" ∈ lw_tbl := List.mem_append_right _ (List.mem_of_getElem? (i := 121) (by decide +kernel))
theorem wm_122 : Jvm.Cond.fieldLink "MemoRuntime" (182 : Nat) "MemoRuntime$Cell" "changed" "I" ∈ lw_tbl := List.mem_append_right _ (List.mem_of_getElem? (i := 122) (by decide +kernel))
theorem wm_123 : Jvm.Cond.fieldLink "MemoRuntime$Cell" (28 : Nat) "MemoRuntime$Cell" "leastClass" "I" ∈ lw_tbl := List.mem_append_right _ (List.mem_of_getElem? (i := 123) (by decide +kernel))
theorem wm_124 : Jvm.Cond.fieldLink "MemoRuntime" (184 : Nat) "MemoRuntime$Cell" "leastClass" "I" ∈ lw_tbl := List.mem_append_right _ (List.mem_of_getElem? (i := 124) (by decide +kernel))
theorem wm_125 : Jvm.Cond.fieldLink "MemoRuntime$Cell" (31 : Nat) "MemoRuntime$Cell" "ofCircle" "Z" ∈ lw_tbl := List.mem_append_right _ (List.mem_of_getElem? (i := 125) (by decide +kernel))
theorem wm_126 : Jvm.Cond.fieldLink "MemoRuntime" (187 : Nat) "MemoRuntime$Cell" "ofCircle" "Z" ∈ lw_tbl := List.mem_append_right _ (List.mem_of_getElem? (i := 126) (by decide +kernel))
theorem wm_142 : Jvm.Cond.instantiable "MemoRuntime$Working" (11 : Nat) ∈ lw_tbl := List.mem_append_right _ (List.mem_of_getElem? (i := 142) (by decide +kernel))
theorem wm_143 : Jvm.Cond.methodLinkNest "MemoRuntime" (84 : Nat) ({ cls := "MemoRuntime$Working", name := "<init>", desc := "()V" } : Jvm.MethodName) "MemoRuntime" ∈ lw_tbl := List.mem_append_right _ (List.mem_of_getElem? (i := 143) (by decide +kernel))
theorem wm_144 : Jvm.Cond.instanceMethod ({ cls := "MemoRuntime$Working", name := "<init>", desc := "()V" } : Jvm.MethodName) ∈ lw_tbl := List.mem_append_right _ (List.mem_of_getElem? (i := 144) (by decide +kernel))
theorem wm_145 : Jvm.Cond.code ({ cls := "MemoRuntime$Working", name := "<init>", desc := "()V" } : Jvm.MethodName) prog_8_method_1_code (1 : Nat) (Option.none : Option Jvm.ClassFile.FieldType) ∈ lw_tbl := List.mem_append_right _ (List.mem_of_getElem? (i := 145) (by decide +kernel))
theorem wm_146 : Jvm.Cond.methodLink "MemoRuntime$Working" (3 : Nat) ({ cls := "java/lang/Object", name := "<init>", desc := "()V" } : Jvm.MethodName) ∈ lw_tbl := List.mem_append_right _ (List.mem_of_getElem? (i := 146) (by decide +kernel))
theorem wm_147 : Jvm.Cond.classLink "MemoRuntime$Working" (25 : Nat) "MemoRuntime$Text" ∈ lw_tbl := List.mem_append_right _ (List.mem_of_getElem? (i := 147) (by decide +kernel))
theorem wm_148 : Jvm.Cond.methodLinkNest "MemoRuntime$Working" (27 : Nat) ({ cls := "MemoRuntime$Text", name := "<init>", desc := "()V" } : Jvm.MethodName) "MemoRuntime" ∈ lw_tbl := List.mem_append_right _ (List.mem_of_getElem? (i := 148) (by decide +kernel))
theorem wm_149 : Jvm.Cond.fieldLink "MemoRuntime$Working" (9 : Nat) "MemoRuntime$Working" "wanted" "I" ∈ lw_tbl := List.mem_append_right _ (List.mem_of_getElem? (i := 149) (by decide +kernel))
theorem wm_150 : Jvm.Cond.fieldLink "MemoRuntime" (273 : Nat) "MemoRuntime$Working" "wanted" "I" ∈ lw_tbl := List.mem_append_right _ (List.mem_of_getElem? (i := 150) (by decide +kernel))
theorem wm_151 : Jvm.Cond.fieldLink "MemoRuntime$Working" (15 : Nat) "MemoRuntime$Working" "value" "I" ∈ lw_tbl := List.mem_append_right _ (List.mem_of_getElem? (i := 151) (by decide +kernel))
theorem wm_152 : Jvm.Cond.fieldLink "MemoRuntime" (286 : Nat) "MemoRuntime$Working" "value" "I" ∈ lw_tbl := List.mem_append_right _ (List.mem_of_getElem? (i := 152) (by decide +kernel))
theorem wm_153 : Jvm.Cond.fieldLink "MemoRuntime$Working" (18 : Nat) "MemoRuntime$Working" "reads" "[I" ∈ lw_tbl := List.mem_append_right _ (List.mem_of_getElem? (i := 153) (by decide +kernel))
theorem wm_154 : Jvm.Cond.fieldLink "MemoRuntime" (288 : Nat) "MemoRuntime$Working" "reads" "[I" ∈ lw_tbl := List.mem_append_right _ (List.mem_of_getElem? (i := 154) (by decide +kernel))
theorem wm_155 : Jvm.Cond.fieldLink "MemoRuntime$Working" (22 : Nat) "MemoRuntime$Working" "readCount" "I" ∈ lw_tbl := List.mem_append_right _ (List.mem_of_getElem? (i := 155) (by decide +kernel))
theorem wm_156 : Jvm.Cond.fieldLink "MemoRuntime" (287 : Nat) "MemoRuntime$Working" "readCount" "I" ∈ lw_tbl := List.mem_append_right _ (List.mem_of_getElem? (i := 156) (by decide +kernel))
theorem wm_157 : Jvm.Cond.fieldLink "MemoRuntime$Working" (28 : Nat) "MemoRuntime$Working" "text" "LMemoRuntime$Text;" ∈ lw_tbl := List.mem_append_right _ (List.mem_of_getElem? (i := 157) (by decide +kernel))
theorem wm_158 : Jvm.Cond.fieldLink "MemoRuntime$Working" (32 : Nat) "MemoRuntime$Working" "key" "I" ∈ lw_tbl := List.mem_append_right _ (List.mem_of_getElem? (i := 158) (by decide +kernel))
theorem wm_159 : Jvm.Cond.fieldLink "MemoRuntime$Working" (35 : Nat) "MemoRuntime$Working" "at" "I" ∈ lw_tbl := List.mem_append_right _ (List.mem_of_getElem? (i := 159) (by decide +kernel))
theorem wm_160 : Jvm.Cond.fieldLink "MemoRuntime$Working" (38 : Nat) "MemoRuntime$Working" "waiting" "[C" ∈ lw_tbl := List.mem_append_right _ (List.mem_of_getElem? (i := 160) (by decide +kernel))
theorem wm_161 : Jvm.Cond.fieldLink "MemoRuntime$Working" (42 : Nat) "MemoRuntime$Working" "hasLeft" "[Z" ∈ lw_tbl := List.mem_append_right _ (List.mem_of_getElem? (i := 161) (by decide +kernel))
theorem wm_162 : Jvm.Cond.fieldLink "MemoRuntime$Working" (46 : Nat) "MemoRuntime$Working" "left" "[I" ∈ lw_tbl := List.mem_append_right _ (List.mem_of_getElem? (i := 162) (by decide +kernel))
theorem wm_163 : Jvm.Cond.fieldLink "MemoRuntime$Working" (49 : Nat) "MemoRuntime$Working" "waits" "I" ∈ lw_tbl := List.mem_append_right _ (List.mem_of_getElem? (i := 163) (by decide +kernel))
theorem wm_187 : Jvm.Cond.fieldLink "MemoRuntime" (10 : Nat) "MemoRuntime" "draft" "LMemoRuntime$Text;" ∈ lw_tbl := List.mem_append_right _ (List.mem_of_getElem? (i := 187) (by decide +kernel))
theorem wm_188 : Jvm.Cond.fieldLink "MemoRuntime" (16 : Nat) "MemoRuntime" "texts" "[LMemoRuntime$Text;" ∈ lw_tbl := List.mem_append_right _ (List.mem_of_getElem? (i := 188) (by decide +kernel))
theorem wm_189 : Jvm.Cond.fieldLink "MemoRuntime" (20 : Nat) "MemoRuntime" "circleValues" "[I" ∈ lw_tbl := List.mem_append_right _ (List.mem_of_getElem? (i := 189) (by decide +kernel))
theorem wm_190 : Jvm.Cond.fieldLink "MemoRuntime" (27 : Nat) "MemoRuntime" "inputs" "LMemoRuntime$Inputs;" ∈ lw_tbl := List.mem_append_right _ (List.mem_of_getElem? (i := 190) (by decide +kernel))
theorem wm_191 : Jvm.Cond.fieldLink "MemoRuntime" (34 : Nat) "MemoRuntime" "edits" "LMemoRuntime$Edits;" ∈ lw_tbl := List.mem_append_right _ (List.mem_of_getElem? (i := 191) (by decide +kernel))
theorem wm_192 : Jvm.Cond.fieldLink "MemoRuntime" (40 : Nat) "MemoRuntime" "cells" "[LMemoRuntime$Cell;" ∈ lw_tbl := List.mem_append_right _ (List.mem_of_getElem? (i := 192) (by decide +kernel))
theorem wm_193 : Jvm.Cond.fieldLink "MemoRuntime" (47 : Nat) "MemoRuntime" "order" "LMemoRuntime$RecentOrder;" ∈ lw_tbl := List.mem_append_right _ (List.mem_of_getElem? (i := 193) (by decide +kernel))
theorem wm_194 : Jvm.Cond.fieldLink "MemoRuntime" (51 : Nat) "MemoRuntime" "mayBeKept" "I" ∈ lw_tbl := List.mem_append_right _ (List.mem_of_getElem? (i := 194) (by decide +kernel))
theorem wm_195 : Jvm.Cond.fieldLink "MemoRuntime" (55 : Nat) "MemoRuntime" "underWay" "[I" ∈ lw_tbl := List.mem_append_right _ (List.mem_of_getElem? (i := 195) (by decide +kernel))
theorem wm_196 : Jvm.Cond.fieldLink "MemoRuntime" (60 : Nat) "MemoRuntime" "workings" "[LMemoRuntime$Working;" ∈ lw_tbl := List.mem_append_right _ (List.mem_of_getElem? (i := 196) (by decide +kernel))
theorem wm_197 : Jvm.Cond.fieldLink "MemoRuntime" (64 : Nat) "MemoRuntime" "depth" "I" ∈ lw_tbl := List.mem_append_right _ (List.mem_of_getElem? (i := 197) (by decide +kernel))
theorem wm_198 : Jvm.Cond.fieldLink "MemoRuntime" (67 : Nat) "MemoRuntime" "runs" "I" ∈ lw_tbl := List.mem_append_right _ (List.mem_of_getElem? (i := 198) (by decide +kernel))
theorem wm_199 : Jvm.Cond.fieldLink "MemoRuntime" (70 : Nat) "MemoRuntime" "verifications" "I" ∈ lw_tbl := List.mem_append_right _ (List.mem_of_getElem? (i := 199) (by decide +kernel))
theorem wm_200 : Jvm.Cond.fieldLink "MemoRuntime" (73 : Nat) "MemoRuntime" "skips" "I" ∈ lw_tbl := List.mem_append_right _ (List.mem_of_getElem? (i := 200) (by decide +kernel))
theorem wm_201 : Jvm.Cond.fieldLink "MemoRuntime" (76 : Nat) "MemoRuntime" "circleAnswers" "I" ∈ lw_tbl := List.mem_append_right _ (List.mem_of_getElem? (i := 201) (by decide +kernel))
theorem wm_233 : Jvm.Cond.methodLink "MemoRuntimeLaw" (57 : Nat) ({ cls := "MemoRuntime", name := "write", desc := "(J)I" } : Jvm.MethodName) ∈ lw_tbl := List.mem_append_right _ (List.mem_of_getElem? (i := 233) (by decide +kernel))
theorem wm_234 : Jvm.Cond.instanceMethod ({ cls := "MemoRuntime", name := "write", desc := "(J)I" } : Jvm.MethodName) ∈ lw_tbl := List.mem_append_right _ (List.mem_of_getElem? (i := 234) (by decide +kernel))
theorem wm_235 : Jvm.Cond.selects "MemoRuntime" ({ cls := "MemoRuntime", name := "write", desc := "(J)I" } : Jvm.MethodName) ({ cls := "MemoRuntime", name := "write", desc := "(J)I" } : Jvm.MethodName) ∈ lw_tbl := List.mem_append_right _ (List.mem_of_getElem? (i := 235) (by decide +kernel))
theorem wm_236 : Jvm.Cond.code ({ cls := "MemoRuntime", name := "write", desc := "(J)I" } : Jvm.MethodName) prog_1_method_2_code (5 : Nat) (Option.some Jvm.ClassFile.FieldType.int) ∈ lw_tbl := List.mem_append_right _ (List.mem_of_getElem? (i := 236) (by decide +kernel))
theorem wm_237 : Jvm.Cond.methodLink "MemoRuntime" (88 : Nat) ({ cls := "MemoRuntime", name := "charactersIn", desc := "(J)I" } : Jvm.MethodName) ∈ lw_tbl := List.mem_append_right _ (List.mem_of_getElem? (i := 237) (by decide +kernel))
theorem wm_238 : Jvm.Cond.static ({ cls := "MemoRuntime", name := "charactersIn", desc := "(J)I" } : Jvm.MethodName) ∈ lw_tbl := List.mem_append_right _ (List.mem_of_getElem? (i := 238) (by decide +kernel))
theorem wm_239 : Jvm.Cond.code ({ cls := "MemoRuntime", name := "charactersIn", desc := "(J)I" } : Jvm.MethodName) prog_1_method_23_code (4 : Nat) (Option.some Jvm.ClassFile.FieldType.int) ∈ lw_tbl := List.mem_append_right _ (List.mem_of_getElem? (i := 239) (by decide +kernel))
theorem wm_240 : Jvm.Cond.methodLink "MemoRuntime" (92 : Nat) ({ cls := "MemoRuntime", name := "characterAt", desc := "(JI)C" } : Jvm.MethodName) ∈ lw_tbl := List.mem_append_right _ (List.mem_of_getElem? (i := 240) (by decide +kernel))
theorem wm_241 : Jvm.Cond.static ({ cls := "MemoRuntime", name := "characterAt", desc := "(JI)C" } : Jvm.MethodName) ∈ lw_tbl := List.mem_append_right _ (List.mem_of_getElem? (i := 241) (by decide +kernel))
theorem wm_242 : Jvm.Cond.code ({ cls := "MemoRuntime", name := "characterAt", desc := "(JI)C" } : Jvm.MethodName) prog_1_method_22_code (3 : Nat) (Option.some Jvm.ClassFile.FieldType.char) ∈ lw_tbl := List.mem_append_right _ (List.mem_of_getElem? (i := 242) (by decide +kernel))
theorem wm_243 : Jvm.Cond.constantLong "MemoRuntime" (216 : Nat) (255 : Int64) ∈ lw_tbl := List.mem_append_right _ (List.mem_of_getElem? (i := 243) (by decide +kernel))
theorem wm_244 : Jvm.Cond.methodLink "MemoRuntimeLaw" (62 : Nat) ({ cls := "MemoRuntime", name := "wipe", desc := "()I" } : Jvm.MethodName) ∈ lw_tbl := List.mem_append_right _ (List.mem_of_getElem? (i := 244) (by decide +kernel))
theorem wm_245 : Jvm.Cond.instanceMethod ({ cls := "MemoRuntime", name := "wipe", desc := "()I" } : Jvm.MethodName) ∈ lw_tbl := List.mem_append_right _ (List.mem_of_getElem? (i := 245) (by decide +kernel))
theorem wm_246 : Jvm.Cond.selects "MemoRuntime" ({ cls := "MemoRuntime", name := "wipe", desc := "()I" } : Jvm.MethodName) ({ cls := "MemoRuntime", name := "wipe", desc := "()I" } : Jvm.MethodName) ∈ lw_tbl := List.mem_append_right _ (List.mem_of_getElem? (i := 246) (by decide +kernel))
theorem wm_247 : Jvm.Cond.code ({ cls := "MemoRuntime", name := "wipe", desc := "()I" } : Jvm.MethodName) prog_1_method_3_code (2 : Nat) (Option.some Jvm.ClassFile.FieldType.int) ∈ lw_tbl := List.mem_append_right _ (List.mem_of_getElem? (i := 247) (by decide +kernel))
theorem wm_248 : Jvm.Cond.methodLink "MemoRuntimeLaw" (91 : Nat) ({ cls := "MemoRuntime", name := "count", desc := "(I)I" } : Jvm.MethodName) ∈ lw_tbl := List.mem_append_right _ (List.mem_of_getElem? (i := 248) (by decide +kernel))
theorem wm_249 : Jvm.Cond.instanceMethod ({ cls := "MemoRuntime", name := "count", desc := "(I)I" } : Jvm.MethodName) ∈ lw_tbl := List.mem_append_right _ (List.mem_of_getElem? (i := 249) (by decide +kernel))
theorem wm_250 : Jvm.Cond.selects "MemoRuntime" ({ cls := "MemoRuntime", name := "count", desc := "(I)I" } : Jvm.MethodName) ({ cls := "MemoRuntime", name := "count", desc := "(I)I" } : Jvm.MethodName) ∈ lw_tbl := List.mem_append_right _ (List.mem_of_getElem? (i := 250) (by decide +kernel))
theorem wm_251 : Jvm.Cond.code ({ cls := "MemoRuntime", name := "count", desc := "(I)I" } : Jvm.MethodName) prog_1_method_9_code (2 : Nat) (Option.some Jvm.ClassFile.FieldType.int) ∈ lw_tbl := List.mem_append_right _ (List.mem_of_getElem? (i := 251) (by decide +kernel))
theorem wm_252 : Jvm.Cond.methodLink "MemoRuntimeLaw" (104 : Nat) ({ cls := "MemoRuntime", name := "recent", desc := "(I)I" } : Jvm.MethodName) ∈ lw_tbl := List.mem_append_right _ (List.mem_of_getElem? (i := 252) (by decide +kernel))
theorem wm_253 : Jvm.Cond.instanceMethod ({ cls := "MemoRuntime", name := "recent", desc := "(I)I" } : Jvm.MethodName) ∈ lw_tbl := List.mem_append_right _ (List.mem_of_getElem? (i := 253) (by decide +kernel))
theorem wm_254 : Jvm.Cond.selects "MemoRuntime" ({ cls := "MemoRuntime", name := "recent", desc := "(I)I" } : Jvm.MethodName) ({ cls := "MemoRuntime", name := "recent", desc := "(I)I" } : Jvm.MethodName) ∈ lw_tbl := List.mem_append_right _ (List.mem_of_getElem? (i := 254) (by decide +kernel))
theorem wm_255 : Jvm.Cond.code ({ cls := "MemoRuntime", name := "recent", desc := "(I)I" } : Jvm.MethodName) prog_1_method_13_code (2 : Nat) (Option.some Jvm.ClassFile.FieldType.int) ∈ lw_tbl := List.mem_append_right _ (List.mem_of_getElem? (i := 255) (by decide +kernel))
theorem wm_256 : Jvm.Cond.methodLink "MemoRuntime" (197 : Nat) ({ cls := "MemoRuntime$RecentOrder", name := "at", desc := "(I)I" } : Jvm.MethodName) ∈ lw_tbl := List.mem_append_right _ (List.mem_of_getElem? (i := 256) (by decide +kernel))
theorem wm_257 : Jvm.Cond.instanceMethod ({ cls := "MemoRuntime$RecentOrder", name := "at", desc := "(I)I" } : Jvm.MethodName) ∈ lw_tbl := List.mem_append_right _ (List.mem_of_getElem? (i := 257) (by decide +kernel))
theorem wm_258 : Jvm.Cond.selects "MemoRuntime$RecentOrder" ({ cls := "MemoRuntime$RecentOrder", name := "at", desc := "(I)I" } : Jvm.MethodName) ({ cls := "MemoRuntime$RecentOrder", name := "at", desc := "(I)I" } : Jvm.MethodName) ∈ lw_tbl := List.mem_append_right _ (List.mem_of_getElem? (i := 258) (by decide +kernel))
theorem wm_259 : Jvm.Cond.code ({ cls := "MemoRuntime$RecentOrder", name := "at", desc := "(I)I" } : Jvm.MethodName) prog_6_method_6_code (4 : Nat) (Option.some Jvm.ClassFile.FieldType.int) ∈ lw_tbl := List.mem_append_right _ (List.mem_of_getElem? (i := 259) (by decide +kernel))
theorem wm_260 : Jvm.Cond.methodLink "MemoRuntimeLaw" (67 : Nat) ({ cls := "MemoRuntimeLaw", name := "define", desc := "(LMemoRuntime;I[J)I" } : Jvm.MethodName) ∈ lw_tbl := List.mem_append_right _ (List.mem_of_getElem? (i := 260) (by decide +kernel))
theorem wm_261 : Jvm.Cond.static ({ cls := "MemoRuntimeLaw", name := "define", desc := "(LMemoRuntime;I[J)I" } : Jvm.MethodName) ∈ lw_tbl := List.mem_append_right _ (List.mem_of_getElem? (i := 261) (by decide +kernel))
theorem wm_262 : Jvm.Cond.codeWith ({ cls := "MemoRuntimeLaw", name := "define", desc := "(LMemoRuntime;I[J)I" } : Jvm.MethodName) method_3_code (4 : Nat) (Option.some Jvm.ClassFile.FieldType.int) [((0 : Nat), (9 : Nat), (12 : Nat), (13 : Nat))] ∈ lw_tbl := List.mem_append_right _ (List.mem_of_getElem? (i := 262) (by decide +kernel))
theorem wm_264 : Jvm.Cond.methodLink "MemoRuntimeLaw" (7 : Nat) ({ cls := "MemoRuntime", name := "define", desc := "(I)I" } : Jvm.MethodName) ∈ lw_tbl := List.mem_append_right _ (List.mem_of_getElem? (i := 264) (by decide +kernel))
theorem wm_265 : Jvm.Cond.instanceMethod ({ cls := "MemoRuntime", name := "define", desc := "(I)I" } : Jvm.MethodName) ∈ lw_tbl := List.mem_append_right _ (List.mem_of_getElem? (i := 265) (by decide +kernel))
theorem wm_266 : Jvm.Cond.selects "MemoRuntime" ({ cls := "MemoRuntime", name := "define", desc := "(I)I" } : Jvm.MethodName) ({ cls := "MemoRuntime", name := "define", desc := "(I)I" } : Jvm.MethodName) ∈ lw_tbl := List.mem_append_right _ (List.mem_of_getElem? (i := 266) (by decide +kernel))
theorem wm_267 : Jvm.Cond.code ({ cls := "MemoRuntime", name := "define", desc := "(I)I" } : Jvm.MethodName) prog_1_method_4_code (3 : Nat) (Option.some Jvm.ClassFile.FieldType.int) ∈ lw_tbl := List.mem_append_right _ (List.mem_of_getElem? (i := 267) (by decide +kernel))
theorem wm_268 : Jvm.Cond.methodLink "MemoRuntime" (96 : Nat) ({ cls := "MemoRuntime", name := "requireFunction", desc := "(I)V" } : Jvm.MethodName) ∈ lw_tbl := List.mem_append_right _ (List.mem_of_getElem? (i := 268) (by decide +kernel))
theorem wm_269 : Jvm.Cond.static ({ cls := "MemoRuntime", name := "requireFunction", desc := "(I)V" } : Jvm.MethodName) ∈ lw_tbl := List.mem_append_right _ (List.mem_of_getElem? (i := 269) (by decide +kernel))
theorem wm_270 : Jvm.Cond.code ({ cls := "MemoRuntime", name := "requireFunction", desc := "(I)V" } : Jvm.MethodName) prog_1_method_18_code (1 : Nat) (Option.none : Option Jvm.ClassFile.FieldType) ∈ lw_tbl := List.mem_append_right _ (List.mem_of_getElem? (i := 270) (by decide +kernel))
theorem wm_271 : Jvm.Cond.methodLink "MemoRuntime" (132 : Nat) ({ cls := "MemoRuntime", name := "requireWithin", desc := "(II)V" } : Jvm.MethodName) ∈ lw_tbl := List.mem_append_right _ (List.mem_of_getElem? (i := 271) (by decide +kernel))
theorem wm_272 : Jvm.Cond.static ({ cls := "MemoRuntime", name := "requireWithin", desc := "(II)V" } : Jvm.MethodName) ∈ lw_tbl := List.mem_append_right _ (List.mem_of_getElem? (i := 272) (by decide +kernel))
theorem wm_273 : Jvm.Cond.code ({ cls := "MemoRuntime", name := "requireWithin", desc := "(II)V" } : Jvm.MethodName) prog_1_method_16_code (2 : Nat) (Option.none : Option Jvm.ClassFile.FieldType) ∈ lw_tbl := List.mem_append_right _ (List.mem_of_getElem? (i := 273) (by decide +kernel))
theorem wm_342 : Jvm.Cond.methodLink "MemoRuntime" (100 : Nat) ({ cls := "MemoRuntime$Text", name := "firstFault", desc := "()I" } : Jvm.MethodName) ∈ lw_tbl := List.mem_append_right _ (List.mem_of_getElem? (i := 342) (by decide +kernel))
theorem wm_343 : Jvm.Cond.instanceMethod ({ cls := "MemoRuntime$Text", name := "firstFault", desc := "()I" } : Jvm.MethodName) ∈ lw_tbl := List.mem_append_right _ (List.mem_of_getElem? (i := 343) (by decide +kernel))
theorem wm_344 : Jvm.Cond.selects "MemoRuntime$Text" ({ cls := "MemoRuntime$Text", name := "firstFault", desc := "()I" } : Jvm.MethodName) ({ cls := "MemoRuntime$Text", name := "firstFault", desc := "()I" } : Jvm.MethodName) ∈ lw_tbl := List.mem_append_right _ (List.mem_of_getElem? (i := 344) (by decide +kernel))
theorem wm_345 : Jvm.Cond.code ({ cls := "MemoRuntime$Text", name := "firstFault", desc := "()I" } : Jvm.MethodName) prog_7_method_5_code (4 : Nat) (Option.some Jvm.ClassFile.FieldType.int) ∈ lw_tbl := List.mem_append_right _ (List.mem_of_getElem? (i := 345) (by decide +kernel))
theorem wm_346 : Jvm.Cond.methodLink "MemoRuntime$Text" (23 : Nat) ({ cls := "MemoRuntime$Text", name := "operandsOf", desc := "(C)I" } : Jvm.MethodName) ∈ lw_tbl := List.mem_append_right _ (List.mem_of_getElem? (i := 346) (by decide +kernel))
theorem wm_347 : Jvm.Cond.static ({ cls := "MemoRuntime$Text", name := "operandsOf", desc := "(C)I" } : Jvm.MethodName) ∈ lw_tbl := List.mem_append_right _ (List.mem_of_getElem? (i := 347) (by decide +kernel))
theorem wm_348 : Jvm.Cond.code ({ cls := "MemoRuntime$Text", name := "operandsOf", desc := "(C)I" } : Jvm.MethodName) prog_7_method_2_code (1 : Nat) (Option.some Jvm.ClassFile.FieldType.int) ∈ lw_tbl := List.mem_append_right _ (List.mem_of_getElem? (i := 348) (by decide +kernel))
theorem wm_349 : Jvm.Cond.methodLink "MemoRuntime" (104 : Nat) ({ cls := "MemoRuntime$Text", name := "become", desc := "(LMemoRuntime$Text;)V" } : Jvm.MethodName) ∈ lw_tbl := List.mem_append_right _ (List.mem_of_getElem? (i := 349) (by decide +kernel))
theorem wm_350 : Jvm.Cond.instanceMethod ({ cls := "MemoRuntime$Text", name := "become", desc := "(LMemoRuntime$Text;)V" } : Jvm.MethodName) ∈ lw_tbl := List.mem_append_right _ (List.mem_of_getElem? (i := 350) (by decide +kernel))
theorem wm_351 : Jvm.Cond.selects "MemoRuntime$Text" ({ cls := "MemoRuntime$Text", name := "become", desc := "(LMemoRuntime$Text;)V" } : Jvm.MethodName) ({ cls := "MemoRuntime$Text", name := "become", desc := "(LMemoRuntime$Text;)V" } : Jvm.MethodName) ∈ lw_tbl := List.mem_append_right _ (List.mem_of_getElem? (i := 351) (by decide +kernel))
theorem wm_352 : Jvm.Cond.code ({ cls := "MemoRuntime$Text", name := "become", desc := "(LMemoRuntime$Text;)V" } : Jvm.MethodName) prog_7_method_4_code (3 : Nat) (Option.none : Option Jvm.ClassFile.FieldType) ∈ lw_tbl := List.mem_append_right _ (List.mem_of_getElem? (i := 352) (by decide +kernel))
theorem wm_353 : Jvm.Cond.methodLink "MemoRuntime$Text" (19 : Nat) ({ cls := "MemoRuntime$Text", name := "append", desc := "(C)V" } : Jvm.MethodName) ∈ lw_tbl := List.mem_append_right _ (List.mem_of_getElem? (i := 353) (by decide +kernel))
theorem wm_354 : Jvm.Cond.methodLink "MemoRuntime" (108 : Nat) ({ cls := "MemoRuntime$RecentOrder", name := "clear", desc := "()V" } : Jvm.MethodName) ∈ lw_tbl := List.mem_append_right _ (List.mem_of_getElem? (i := 354) (by decide +kernel))
theorem wm_355 : Jvm.Cond.instanceMethod ({ cls := "MemoRuntime$RecentOrder", name := "clear", desc := "()V" } : Jvm.MethodName) ∈ lw_tbl := List.mem_append_right _ (List.mem_of_getElem? (i := 355) (by decide +kernel))
theorem wm_356 : Jvm.Cond.selects "MemoRuntime$RecentOrder" ({ cls := "MemoRuntime$RecentOrder", name := "clear", desc := "()V" } : Jvm.MethodName) ({ cls := "MemoRuntime$RecentOrder", name := "clear", desc := "()V" } : Jvm.MethodName) ∈ lw_tbl := List.mem_append_right _ (List.mem_of_getElem? (i := 356) (by decide +kernel))
theorem wm_357 : Jvm.Cond.code ({ cls := "MemoRuntime$RecentOrder", name := "clear", desc := "()V" } : Jvm.MethodName) prog_6_method_5_code (2 : Nat) (Option.none : Option Jvm.ClassFile.FieldType) ∈ lw_tbl := List.mem_append_right _ (List.mem_of_getElem? (i := 357) (by decide +kernel))
theorem wm_358 : Jvm.Cond.methodLink "MemoRuntime$RecentOrder" (26 : Nat) ({ cls := "MemoRuntime$RecentOrder", name := "remove", desc := "(I)V" } : Jvm.MethodName) ∈ lw_tbl := List.mem_append_right _ (List.mem_of_getElem? (i := 358) (by decide +kernel))
theorem wm_359 : Jvm.Cond.instanceMethod ({ cls := "MemoRuntime$RecentOrder", name := "remove", desc := "(I)V" } : Jvm.MethodName) ∈ lw_tbl := List.mem_append_right _ (List.mem_of_getElem? (i := 359) (by decide +kernel))
theorem wm_360 : Jvm.Cond.selects "MemoRuntime$RecentOrder" ({ cls := "MemoRuntime$RecentOrder", name := "remove", desc := "(I)V" } : Jvm.MethodName) ({ cls := "MemoRuntime$RecentOrder", name := "remove", desc := "(I)V" } : Jvm.MethodName) ∈ lw_tbl := List.mem_append_right _ (List.mem_of_getElem? (i := 360) (by decide +kernel))
theorem wm_361 : Jvm.Cond.code ({ cls := "MemoRuntime$RecentOrder", name := "remove", desc := "(I)V" } : Jvm.MethodName) prog_6_method_4_code (2 : Nat) (Option.none : Option Jvm.ClassFile.FieldType) ∈ lw_tbl := List.mem_append_right _ (List.mem_of_getElem? (i := 361) (by decide +kernel))
theorem wm_362 : Jvm.Cond.methodLink "MemoRuntime$RecentOrder" (30 : Nat) ({ cls := "MemoRuntime$RecentOrder", name := "join", desc := "(II)V" } : Jvm.MethodName) ∈ lw_tbl := List.mem_append_right _ (List.mem_of_getElem? (i := 362) (by decide +kernel))
theorem wm_364 : Jvm.Cond.instanceMethod ({ cls := "MemoRuntime$RecentOrder", name := "join", desc := "(II)V" } : Jvm.MethodName) ∈ lw_tbl := List.mem_append_right _ (List.mem_of_getElem? (i := 364) (by decide +kernel))
theorem wm_365 : Jvm.Cond.code ({ cls := "MemoRuntime$RecentOrder", name := "join", desc := "(II)V" } : Jvm.MethodName) prog_6_method_7_code (3 : Nat) (Option.none : Option Jvm.ClassFile.FieldType) ∈ lw_tbl := List.mem_append_right _ (List.mem_of_getElem? (i := 365) (by decide +kernel))
theorem wm_366 : Jvm.Cond.methodLink "MemoRuntimeLaw" (76 : Nat) ({ cls := "MemoRuntimeLaw", name := "input", desc := "(LMemoRuntime;III[J)I" } : Jvm.MethodName) ∈ lw_tbl := List.mem_append_right _ (List.mem_of_getElem? (i := 366) (by decide +kernel))
theorem wm_367 : Jvm.Cond.static ({ cls := "MemoRuntimeLaw", name := "input", desc := "(LMemoRuntime;III[J)I" } : Jvm.MethodName) ∈ lw_tbl := List.mem_append_right _ (List.mem_of_getElem? (i := 367) (by decide +kernel))
theorem wm_368 : Jvm.Cond.codeWith ({ cls := "MemoRuntimeLaw", name := "input", desc := "(LMemoRuntime;III[J)I" } : Jvm.MethodName) method_4_code (6 : Nat) (Option.some Jvm.ClassFile.FieldType.int) [((0 : Nat), (19 : Nat), (22 : Nat), (13 : Nat))] ∈ lw_tbl := List.mem_append_right _ (List.mem_of_getElem? (i := 368) (by decide +kernel))
theorem wm_369 : Jvm.Cond.methodLink "MemoRuntimeLaw" (15 : Nat) ({ cls := "MemoRuntime", name := "input", desc := "(III)Z" } : Jvm.MethodName) ∈ lw_tbl := List.mem_append_right _ (List.mem_of_getElem? (i := 369) (by decide +kernel))
theorem wm_370 : Jvm.Cond.instanceMethod ({ cls := "MemoRuntime", name := "input", desc := "(III)Z" } : Jvm.MethodName) ∈ lw_tbl := List.mem_append_right _ (List.mem_of_getElem? (i := 370) (by decide +kernel))
theorem wm_371 : Jvm.Cond.selects "MemoRuntime" ({ cls := "MemoRuntime", name := "input", desc := "(III)Z" } : Jvm.MethodName) ({ cls := "MemoRuntime", name := "input", desc := "(III)Z" } : Jvm.MethodName) ∈ lw_tbl := List.mem_append_right _ (List.mem_of_getElem? (i := 371) (by decide +kernel))
theorem wm_372 : Jvm.Cond.code ({ cls := "MemoRuntime", name := "input", desc := "(III)Z" } : Jvm.MethodName) prog_1_method_5_code (5 : Nat) (Option.some Jvm.ClassFile.FieldType.boolean) ∈ lw_tbl := List.mem_append_right _ (List.mem_of_getElem? (i := 372) (by decide +kernel))
theorem wm_373 : Jvm.Cond.methodLink "MemoRuntime" (111 : Nat) ({ cls := "MemoRuntime", name := "requireTable", desc := "(I)V" } : Jvm.MethodName) ∈ lw_tbl := List.mem_append_right _ (List.mem_of_getElem? (i := 373) (by decide +kernel))
theorem wm_374 : Jvm.Cond.static ({ cls := "MemoRuntime", name := "requireTable", desc := "(I)V" } : Jvm.MethodName) ∈ lw_tbl := List.mem_append_right _ (List.mem_of_getElem? (i := 374) (by decide +kernel))
theorem wm_375 : Jvm.Cond.code ({ cls := "MemoRuntime", name := "requireTable", desc := "(I)V" } : Jvm.MethodName) prog_1_method_17_code (1 : Nat) (Option.none : Option Jvm.ClassFile.FieldType) ∈ lw_tbl := List.mem_append_right _ (List.mem_of_getElem? (i := 375) (by decide +kernel))
theorem wm_376 : Jvm.Cond.methodLink "MemoRuntime" (114 : Nat) ({ cls := "MemoRuntime", name := "requireKey", desc := "(I)V" } : Jvm.MethodName) ∈ lw_tbl := List.mem_append_right _ (List.mem_of_getElem? (i := 376) (by decide +kernel))
theorem wm_377 : Jvm.Cond.static ({ cls := "MemoRuntime", name := "requireKey", desc := "(I)V" } : Jvm.MethodName) ∈ lw_tbl := List.mem_append_right _ (List.mem_of_getElem? (i := 377) (by decide +kernel))
theorem wm_378 : Jvm.Cond.code ({ cls := "MemoRuntime", name := "requireKey", desc := "(I)V" } : Jvm.MethodName) prog_1_method_19_code (1 : Nat) (Option.none : Option Jvm.ClassFile.FieldType) ∈ lw_tbl := List.mem_append_right _ (List.mem_of_getElem? (i := 378) (by decide +kernel))
theorem wm_379 : Jvm.Cond.methodLink "MemoRuntime" (123 : Nat) ({ cls := "MemoRuntime", name := "edit", desc := "(I)V" } : Jvm.MethodName) ∈ lw_tbl := List.mem_append_right _ (List.mem_of_getElem? (i := 379) (by decide +kernel))
theorem wm_381 : Jvm.Cond.instanceMethod ({ cls := "MemoRuntime", name := "edit", desc := "(I)V" } : Jvm.MethodName) ∈ lw_tbl := List.mem_append_right _ (List.mem_of_getElem? (i := 381) (by decide +kernel))
theorem wm_382 : Jvm.Cond.code ({ cls := "MemoRuntime", name := "edit", desc := "(I)V" } : Jvm.MethodName) prog_1_method_24_code (3 : Nat) (Option.none : Option Jvm.ClassFile.FieldType) ∈ lw_tbl := List.mem_append_right _ (List.mem_of_getElem? (i := 382) (by decide +kernel))
theorem wm_383 : Jvm.Cond.methodLink "MemoRuntime" (218 : Nat) ({ cls := "MemoRuntime$Edits", name := "add", desc := "(I)V" } : Jvm.MethodName) ∈ lw_tbl := List.mem_append_right _ (List.mem_of_getElem? (i := 383) (by decide +kernel))
theorem wm_384 : Jvm.Cond.instanceMethod ({ cls := "MemoRuntime$Edits", name := "add", desc := "(I)V" } : Jvm.MethodName) ∈ lw_tbl := List.mem_append_right _ (List.mem_of_getElem? (i := 384) (by decide +kernel))
theorem wm_385 : Jvm.Cond.selects "MemoRuntime$Edits" ({ cls := "MemoRuntime$Edits", name := "add", desc := "(I)V" } : Jvm.MethodName) ({ cls := "MemoRuntime$Edits", name := "add", desc := "(I)V" } : Jvm.MethodName) ∈ lw_tbl := List.mem_append_right _ (List.mem_of_getElem? (i := 385) (by decide +kernel))
theorem wm_386 : Jvm.Cond.code ({ cls := "MemoRuntime$Edits", name := "add", desc := "(I)V" } : Jvm.MethodName) prog_3_method_2_code (2 : Nat) (Option.none : Option Jvm.ClassFile.FieldType) ∈ lw_tbl := List.mem_append_right _ (List.mem_of_getElem? (i := 386) (by decide +kernel))
theorem wm_387 : Jvm.Cond.methodLink "MemoRuntime" (206 : Nat) ({ cls := "MemoRuntime$RecentOrder", name := "remove", desc := "(I)V" } : Jvm.MethodName) ∈ lw_tbl := List.mem_append_right _ (List.mem_of_getElem? (i := 387) (by decide +kernel))
theorem wm_388 : Jvm.Cond.methodLink "MemoRuntimeLaw" (80 : Nat) ({ cls := "MemoRuntimeLaw", name := "circle", desc := "(LMemoRuntime;II[J)I" } : Jvm.MethodName) ∈ lw_tbl := List.mem_append_right _ (List.mem_of_getElem? (i := 388) (by decide +kernel))
theorem wm_389 : Jvm.Cond.static ({ cls := "MemoRuntimeLaw", name := "circle", desc := "(LMemoRuntime;II[J)I" } : Jvm.MethodName) ∈ lw_tbl := List.mem_append_right _ (List.mem_of_getElem? (i := 389) (by decide +kernel))
theorem wm_390 : Jvm.Cond.codeWith ({ cls := "MemoRuntimeLaw", name := "circle", desc := "(LMemoRuntime;II[J)I" } : Jvm.MethodName) method_5_code (5 : Nat) (Option.some Jvm.ClassFile.FieldType.int) [((0 : Nat), (17 : Nat), (20 : Nat), (13 : Nat))] ∈ lw_tbl := List.mem_append_right _ (List.mem_of_getElem? (i := 390) (by decide +kernel))
theorem wm_391 : Jvm.Cond.methodLink "MemoRuntimeLaw" (19 : Nat) ({ cls := "MemoRuntime", name := "circle", desc := "(II)Z" } : Jvm.MethodName) ∈ lw_tbl := List.mem_append_right _ (List.mem_of_getElem? (i := 391) (by decide +kernel))
theorem wm_392 : Jvm.Cond.instanceMethod ({ cls := "MemoRuntime", name := "circle", desc := "(II)Z" } : Jvm.MethodName) ∈ lw_tbl := List.mem_append_right _ (List.mem_of_getElem? (i := 392) (by decide +kernel))
theorem wm_393 : Jvm.Cond.selects "MemoRuntime" ({ cls := "MemoRuntime", name := "circle", desc := "(II)Z" } : Jvm.MethodName) ({ cls := "MemoRuntime", name := "circle", desc := "(II)Z" } : Jvm.MethodName) ∈ lw_tbl := List.mem_append_right _ (List.mem_of_getElem? (i := 393) (by decide +kernel))
theorem wm_394 : Jvm.Cond.code ({ cls := "MemoRuntime", name := "circle", desc := "(II)Z" } : Jvm.MethodName) prog_1_method_6_code (3 : Nat) (Option.some Jvm.ClassFile.FieldType.boolean) ∈ lw_tbl := List.mem_append_right _ (List.mem_of_getElem? (i := 394) (by decide +kernel))
theorem wm_395 : Jvm.Cond.methodLink "MemoRuntimeLaw" (84 : Nat) ({ cls := "MemoRuntimeLaw", name := "level", desc := "(LMemoRuntime;II)I" } : Jvm.MethodName) ∈ lw_tbl := List.mem_append_right _ (List.mem_of_getElem? (i := 395) (by decide +kernel))
theorem wm_396 : Jvm.Cond.static ({ cls := "MemoRuntimeLaw", name := "level", desc := "(LMemoRuntime;II)I" } : Jvm.MethodName) ∈ lw_tbl := List.mem_append_right _ (List.mem_of_getElem? (i := 396) (by decide +kernel))
theorem wm_397 : Jvm.Cond.codeWith ({ cls := "MemoRuntimeLaw", name := "level", desc := "(LMemoRuntime;II)I" } : Jvm.MethodName) method_6_code (4 : Nat) (Option.some Jvm.ClassFile.FieldType.int) [((0 : Nat), (6 : Nat), (9 : Nat), (13 : Nat))] ∈ lw_tbl := List.mem_append_right _ (List.mem_of_getElem? (i := 397) (by decide +kernel))
theorem wm_398 : Jvm.Cond.methodLink "MemoRuntimeLaw" (23 : Nat) ({ cls := "MemoRuntime", name := "level", desc := "(II)V" } : Jvm.MethodName) ∈ lw_tbl := List.mem_append_right _ (List.mem_of_getElem? (i := 398) (by decide +kernel))
theorem wm_399 : Jvm.Cond.instanceMethod ({ cls := "MemoRuntime", name := "level", desc := "(II)V" } : Jvm.MethodName) ∈ lw_tbl := List.mem_append_right _ (List.mem_of_getElem? (i := 399) (by decide +kernel))
theorem wm_400 : Jvm.Cond.selects "MemoRuntime" ({ cls := "MemoRuntime", name := "level", desc := "(II)V" } : Jvm.MethodName) ({ cls := "MemoRuntime", name := "level", desc := "(II)V" } : Jvm.MethodName) ∈ lw_tbl := List.mem_append_right _ (List.mem_of_getElem? (i := 400) (by decide +kernel))
theorem wm_401 : Jvm.Cond.code ({ cls := "MemoRuntime", name := "level", desc := "(II)V" } : Jvm.MethodName) prog_1_method_7_code (3 : Nat) (Option.none : Option Jvm.ClassFile.FieldType) ∈ lw_tbl := List.mem_append_right _ (List.mem_of_getElem? (i := 401) (by decide +kernel))
theorem wm_402 : Jvm.Cond.methodLink "MemoRuntimeLaw" (88 : Nat) ({ cls := "MemoRuntimeLaw", name := "demand", desc := "(LMemoRuntime;II[J)I" } : Jvm.MethodName) ∈ lw_tbl := List.mem_append_right _ (List.mem_of_getElem? (i := 402) (by decide +kernel))
theorem wm_403 : Jvm.Cond.static ({ cls := "MemoRuntimeLaw", name := "demand", desc := "(LMemoRuntime;II[J)I" } : Jvm.MethodName) ∈ lw_tbl := List.mem_append_right _ (List.mem_of_getElem? (i := 403) (by decide +kernel))
theorem wm_404 : Jvm.Cond.codeWith ({ cls := "MemoRuntimeLaw", name := "demand", desc := "(LMemoRuntime;II[J)I" } : Jvm.MethodName) method_7_code (5 : Nat) (Option.some Jvm.ClassFile.FieldType.int) [((0 : Nat), (10 : Nat), (13 : Nat), (13 : Nat)), ((0 : Nat), (10 : Nat), (17 : Nat), (31 : Nat))] ∈ lw_tbl := List.mem_append_right _ (List.mem_of_getElem? (i := 404) (by decide +kernel))
theorem wm_406 : Jvm.Cond.methodLink "MemoRuntimeLaw" (27 : Nat) ({ cls := "MemoRuntime", name := "demand", desc := "(II)I" } : Jvm.MethodName) ∈ lw_tbl := List.mem_append_right _ (List.mem_of_getElem? (i := 406) (by decide +kernel))
theorem wm_407 : Jvm.Cond.instanceMethod ({ cls := "MemoRuntime", name := "demand", desc := "(II)I" } : Jvm.MethodName) ∈ lw_tbl := List.mem_append_right _ (List.mem_of_getElem? (i := 407) (by decide +kernel))
theorem wm_408 : Jvm.Cond.selects "MemoRuntime" ({ cls := "MemoRuntime", name := "demand", desc := "(II)I" } : Jvm.MethodName) ({ cls := "MemoRuntime", name := "demand", desc := "(II)I" } : Jvm.MethodName) ∈ lw_tbl := List.mem_append_right _ (List.mem_of_getElem? (i := 408) (by decide +kernel))
theorem wm_409 : Jvm.Cond.code ({ cls := "MemoRuntime", name := "demand", desc := "(II)I" } : Jvm.MethodName) prog_1_method_8_code (6 : Nat) (Option.some Jvm.ClassFile.FieldType.int) ∈ lw_tbl := List.mem_append_right _ (List.mem_of_getElem? (i := 409) (by decide +kernel))
theorem wm_410 : Jvm.Cond.methodLink "MemoRuntime" (136 : Nat) ({ cls := "MemoRuntime", name := "requireCell", desc := "(II)V" } : Jvm.MethodName) ∈ lw_tbl := List.mem_append_right _ (List.mem_of_getElem? (i := 410) (by decide +kernel))
theorem wm_411 : Jvm.Cond.static ({ cls := "MemoRuntime", name := "requireCell", desc := "(II)V" } : Jvm.MethodName) ∈ lw_tbl := List.mem_append_right _ (List.mem_of_getElem? (i := 411) (by decide +kernel))
theorem wm_412 : Jvm.Cond.code ({ cls := "MemoRuntime", name := "requireCell", desc := "(II)V" } : Jvm.MethodName) prog_1_method_20_code (2 : Nat) (Option.none : Option Jvm.ClassFile.FieldType) ∈ lw_tbl := List.mem_append_right _ (List.mem_of_getElem? (i := 412) (by decide +kernel))
theorem wm_413 : Jvm.Cond.fieldLink "MemoRuntime" (139 : Nat) "MemoRuntime$Outcome" "CIRCLE" "LMemoRuntime$Outcome;" ∈ lw_tbl := List.mem_append_right _ (List.mem_of_getElem? (i := 413) (by decide +kernel))
theorem wm_415 : Jvm.Cond.methodLink "MemoRuntime" (145 : Nat) ({ cls := "MemoRuntime", name := "ask", desc := "(I)LMemoRuntime$Outcome;" } : Jvm.MethodName) ∈ lw_tbl := List.mem_append_right _ (List.mem_of_getElem? (i := 415) (by decide +kernel))
theorem wm_417 : Jvm.Cond.instanceMethod ({ cls := "MemoRuntime", name := "ask", desc := "(I)LMemoRuntime$Outcome;" } : Jvm.MethodName) ∈ lw_tbl := List.mem_append_right _ (List.mem_of_getElem? (i := 417) (by decide +kernel))
theorem wm_418 : Jvm.Cond.code ({ cls := "MemoRuntime", name := "ask", desc := "(I)LMemoRuntime$Outcome;" } : Jvm.MethodName) prog_1_method_26_code (4 : Nat) (Option.some (Jvm.ClassFile.FieldType.object "MemoRuntime$Outcome")) ∈ lw_tbl := List.mem_append_right _ (List.mem_of_getElem? (i := 418) (by decide +kernel))
theorem wm_419 : Jvm.Cond.methodLink "MemoRuntime" (227 : Nat) ({ cls := "MemoRuntime", name := "placeUnderWay", desc := "(I)I" } : Jvm.MethodName) ∈ lw_tbl := List.mem_append_right _ (List.mem_of_getElem? (i := 419) (by decide +kernel))
theorem wm_421 : Jvm.Cond.instanceMethod ({ cls := "MemoRuntime", name := "placeUnderWay", desc := "(I)I" } : Jvm.MethodName) ∈ lw_tbl := List.mem_append_right _ (List.mem_of_getElem? (i := 421) (by decide +kernel))
theorem wm_422 : Jvm.Cond.code ({ cls := "MemoRuntime", name := "placeUnderWay", desc := "(I)I" } : Jvm.MethodName) prog_1_method_27_code (3 : Nat) (Option.some Jvm.ClassFile.FieldType.int) ∈ lw_tbl := List.mem_append_right _ (List.mem_of_getElem? (i := 422) (by decide +kernel))
theorem wm_423 : Jvm.Cond.methodLink "MemoRuntime" (230 : Nat) ({ cls := "MemoRuntime", name := "answerCircle", desc := "(I)V" } : Jvm.MethodName) ∈ lw_tbl := List.mem_append_right _ (List.mem_of_getElem? (i := 423) (by decide +kernel))
theorem wm_425 : Jvm.Cond.instanceMethod ({ cls := "MemoRuntime", name := "answerCircle", desc := "(I)V" } : Jvm.MethodName) ∈ lw_tbl := List.mem_append_right _ (List.mem_of_getElem? (i := 425) (by decide +kernel))
theorem wm_426 : Jvm.Cond.code ({ cls := "MemoRuntime", name := "answerCircle", desc := "(I)V" } : Jvm.MethodName) prog_1_method_28_code (5 : Nat) (Option.none : Option Jvm.ClassFile.FieldType) ∈ lw_tbl := List.mem_append_right _ (List.mem_of_getElem? (i := 426) (by decide +kernel))
theorem wm_427 : Jvm.Cond.methodLink "MemoRuntime" (159 : Nat) ({ cls := "MemoRuntime$RecentOrder", name := "putLast", desc := "(I)V" } : Jvm.MethodName) ∈ lw_tbl := List.mem_append_right _ (List.mem_of_getElem? (i := 427) (by decide +kernel))
theorem wm_428 : Jvm.Cond.instanceMethod ({ cls := "MemoRuntime$RecentOrder", name := "putLast", desc := "(I)V" } : Jvm.MethodName) ∈ lw_tbl := List.mem_append_right _ (List.mem_of_getElem? (i := 428) (by decide +kernel))
theorem wm_429 : Jvm.Cond.selects "MemoRuntime$RecentOrder" ({ cls := "MemoRuntime$RecentOrder", name := "putLast", desc := "(I)V" } : Jvm.MethodName) ({ cls := "MemoRuntime$RecentOrder", name := "putLast", desc := "(I)V" } : Jvm.MethodName) ∈ lw_tbl := List.mem_append_right _ (List.mem_of_getElem? (i := 429) (by decide +kernel))
theorem wm_430 : Jvm.Cond.code ({ cls := "MemoRuntime$RecentOrder", name := "putLast", desc := "(I)V" } : Jvm.MethodName) prog_6_method_3_code (3 : Nat) (Option.none : Option Jvm.ClassFile.FieldType) ∈ lw_tbl := List.mem_append_right _ (List.mem_of_getElem? (i := 430) (by decide +kernel))
theorem wm_431 : Jvm.Cond.methodLink "MemoRuntime" (233 : Nat) ({ cls := "MemoRuntime", name := "isGood", desc := "(I)Z" } : Jvm.MethodName) ∈ lw_tbl := List.mem_append_right _ (List.mem_of_getElem? (i := 431) (by decide +kernel))
theorem wm_433 : Jvm.Cond.instanceMethod ({ cls := "MemoRuntime", name := "isGood", desc := "(I)Z" } : Jvm.MethodName) ∈ lw_tbl := List.mem_append_right _ (List.mem_of_getElem? (i := 433) (by decide +kernel))
theorem wm_434 : Jvm.Cond.code ({ cls := "MemoRuntime", name := "isGood", desc := "(I)Z" } : Jvm.MethodName) prog_1_method_29_code (2 : Nat) (Option.some Jvm.ClassFile.FieldType.boolean) ∈ lw_tbl := List.mem_append_right _ (List.mem_of_getElem? (i := 434) (by decide +kernel))
theorem wm_435 : Jvm.Cond.methodLink "MemoRuntime" (171 : Nat) ({ cls := "MemoRuntime$RecentOrder", name := "holds", desc := "(I)Z" } : Jvm.MethodName) ∈ lw_tbl := List.mem_append_right _ (List.mem_of_getElem? (i := 435) (by decide +kernel))
theorem wm_436 : Jvm.Cond.instanceMethod ({ cls := "MemoRuntime$RecentOrder", name := "holds", desc := "(I)Z" } : Jvm.MethodName) ∈ lw_tbl := List.mem_append_right _ (List.mem_of_getElem? (i := 436) (by decide +kernel))
theorem wm_437 : Jvm.Cond.selects "MemoRuntime$RecentOrder" ({ cls := "MemoRuntime$RecentOrder", name := "holds", desc := "(I)Z" } : Jvm.MethodName) ({ cls := "MemoRuntime$RecentOrder", name := "holds", desc := "(I)Z" } : Jvm.MethodName) ∈ lw_tbl := List.mem_append_right _ (List.mem_of_getElem? (i := 437) (by decide +kernel))
theorem wm_438 : Jvm.Cond.code ({ cls := "MemoRuntime$RecentOrder", name := "holds", desc := "(I)Z" } : Jvm.MethodName) prog_6_method_2_code (2 : Nat) (Option.some Jvm.ClassFile.FieldType.boolean) ∈ lw_tbl := List.mem_append_right _ (List.mem_of_getElem? (i := 438) (by decide +kernel))
theorem wm_439 : Jvm.Cond.methodLink "MemoRuntime" (236 : Nat) ({ cls := "MemoRuntime", name := "skip", desc := "(I)Z" } : Jvm.MethodName) ∈ lw_tbl := List.mem_append_right _ (List.mem_of_getElem? (i := 439) (by decide +kernel))
theorem wm_441 : Jvm.Cond.instanceMethod ({ cls := "MemoRuntime", name := "skip", desc := "(I)Z" } : Jvm.MethodName) ∈ lw_tbl := List.mem_append_right _ (List.mem_of_getElem? (i := 441) (by decide +kernel))
theorem wm_442 : Jvm.Cond.code ({ cls := "MemoRuntime", name := "skip", desc := "(I)Z" } : Jvm.MethodName) prog_1_method_30_code (3 : Nat) (Option.some Jvm.ClassFile.FieldType.boolean) ∈ lw_tbl := List.mem_append_right _ (List.mem_of_getElem? (i := 442) (by decide +kernel))
theorem wm_443 : Jvm.Cond.methodLink "MemoRuntime" (252 : Nat) ({ cls := "MemoRuntime$Edits", name := "touched", desc := "(II)Z" } : Jvm.MethodName) ∈ lw_tbl := List.mem_append_right _ (List.mem_of_getElem? (i := 443) (by decide +kernel))
theorem wm_444 : Jvm.Cond.instanceMethod ({ cls := "MemoRuntime$Edits", name := "touched", desc := "(II)Z" } : Jvm.MethodName) ∈ lw_tbl := List.mem_append_right _ (List.mem_of_getElem? (i := 444) (by decide +kernel))
theorem wm_445 : Jvm.Cond.selects "MemoRuntime$Edits" ({ cls := "MemoRuntime$Edits", name := "touched", desc := "(II)Z" } : Jvm.MethodName) ({ cls := "MemoRuntime$Edits", name := "touched", desc := "(II)Z" } : Jvm.MethodName) ∈ lw_tbl := List.mem_append_right _ (List.mem_of_getElem? (i := 445) (by decide +kernel))
theorem wm_446 : Jvm.Cond.code ({ cls := "MemoRuntime$Edits", name := "touched", desc := "(II)Z" } : Jvm.MethodName) prog_3_method_3_code (4 : Nat) (Option.some Jvm.ClassFile.FieldType.boolean) ∈ lw_tbl := List.mem_append_right _ (List.mem_of_getElem? (i := 446) (by decide +kernel))
theorem wm_447 : Jvm.Cond.fieldLink "MemoRuntime" (149 : Nat) "MemoRuntime$Outcome" "ANSWERED" "LMemoRuntime$Outcome;" ∈ lw_tbl := List.mem_append_right _ (List.mem_of_getElem? (i := 447) (by decide +kernel))
theorem wm_449 : Jvm.Cond.fieldLink "MemoRuntime" (239 : Nat) "MemoRuntime$Outcome" "GIVEN_UP" "LMemoRuntime$Outcome;" ∈ lw_tbl := List.mem_append_right _ (List.mem_of_getElem? (i := 449) (by decide +kernel))
theorem wm_451 : Jvm.Cond.methodLink "MemoRuntime" (242 : Nat) ({ cls := "MemoRuntime", name := "verify", desc := "(I)LMemoRuntime$Outcome;" } : Jvm.MethodName) ∈ lw_tbl := List.mem_append_right _ (List.mem_of_getElem? (i := 451) (by decide +kernel))
theorem wm_453 : Jvm.Cond.instanceMethod ({ cls := "MemoRuntime", name := "verify", desc := "(I)LMemoRuntime$Outcome;" } : Jvm.MethodName) ∈ lw_tbl := List.mem_append_right _ (List.mem_of_getElem? (i := 453) (by decide +kernel))
theorem wm_454 : Jvm.Cond.code ({ cls := "MemoRuntime", name := "verify", desc := "(I)LMemoRuntime$Outcome;" } : Jvm.MethodName) prog_1_method_31_code (6 : Nat) (Option.some (Jvm.ClassFile.FieldType.object "MemoRuntime$Outcome")) ∈ lw_tbl := List.mem_append_right _ (List.mem_of_getElem? (i := 454) (by decide +kernel))
theorem wm_455 : Jvm.Cond.fieldLink "MemoRuntime" (245 : Nat) "MemoRuntime$Outcome" "STALE" "LMemoRuntime$Outcome;" ∈ lw_tbl := List.mem_append_right _ (List.mem_of_getElem? (i := 455) (by decide +kernel))
theorem wm_457 : Jvm.Cond.methodLink "MemoRuntime" (256 : Nat) ({ cls := "MemoRuntime", name := "askForRead", desc := "(I)LMemoRuntime$Outcome;" } : Jvm.MethodName) ∈ lw_tbl := List.mem_append_right _ (List.mem_of_getElem? (i := 457) (by decide +kernel))
theorem wm_459 : Jvm.Cond.instanceMethod ({ cls := "MemoRuntime", name := "askForRead", desc := "(I)LMemoRuntime$Outcome;" } : Jvm.MethodName) ∈ lw_tbl := List.mem_append_right _ (List.mem_of_getElem? (i := 459) (by decide +kernel))
theorem wm_460 : Jvm.Cond.code ({ cls := "MemoRuntime", name := "askForRead", desc := "(I)LMemoRuntime$Outcome;" } : Jvm.MethodName) prog_1_method_34_code (2 : Nat) (Option.some (Jvm.ClassFile.FieldType.object "MemoRuntime$Outcome")) ∈ lw_tbl := List.mem_append_right _ (List.mem_of_getElem? (i := 460) (by decide +kernel))
theorem wm_461 : Jvm.Cond.methodLink "MemoRuntime" (295 : Nat) ({ cls := "MemoRuntime", name := "isCellRead", desc := "(I)Z" } : Jvm.MethodName) ∈ lw_tbl := List.mem_append_right _ (List.mem_of_getElem? (i := 461) (by decide +kernel))
theorem wm_462 : Jvm.Cond.static ({ cls := "MemoRuntime", name := "isCellRead", desc := "(I)Z" } : Jvm.MethodName) ∈ lw_tbl := List.mem_append_right _ (List.mem_of_getElem? (i := 462) (by decide +kernel))
theorem wm_463 : Jvm.Cond.code ({ cls := "MemoRuntime", name := "isCellRead", desc := "(I)Z" } : Jvm.MethodName) prog_1_method_35_code (1 : Nat) (Option.some Jvm.ClassFile.FieldType.boolean) ∈ lw_tbl := List.mem_append_right _ (List.mem_of_getElem? (i := 463) (by decide +kernel))
theorem wm_464 : Jvm.Cond.methodLink "MemoRuntime" (259 : Nat) ({ cls := "MemoRuntime", name := "changedOf", desc := "(I)I" } : Jvm.MethodName) ∈ lw_tbl := List.mem_append_right _ (List.mem_of_getElem? (i := 464) (by decide +kernel))
theorem wm_466 : Jvm.Cond.instanceMethod ({ cls := "MemoRuntime", name := "changedOf", desc := "(I)I" } : Jvm.MethodName) ∈ lw_tbl := List.mem_append_right _ (List.mem_of_getElem? (i := 466) (by decide +kernel))
theorem wm_467 : Jvm.Cond.code ({ cls := "MemoRuntime", name := "changedOf", desc := "(I)I" } : Jvm.MethodName) prog_1_method_37_code (2 : Nat) (Option.some Jvm.ClassFile.FieldType.int) ∈ lw_tbl := List.mem_append_right _ (List.mem_of_getElem? (i := 467) (by decide +kernel))
theorem wm_468 : Jvm.Cond.methodLink "MemoRuntime" (262 : Nat) ({ cls := "MemoRuntime", name := "leastClassOfReads", desc := "(LMemoRuntime$Cell;)I" } : Jvm.MethodName) ∈ lw_tbl := List.mem_append_right _ (List.mem_of_getElem? (i := 468) (by decide +kernel))
theorem wm_470 : Jvm.Cond.instanceMethod ({ cls := "MemoRuntime", name := "leastClassOfReads", desc := "(LMemoRuntime$Cell;)I" } : Jvm.MethodName) ∈ lw_tbl := List.mem_append_right _ (List.mem_of_getElem? (i := 470) (by decide +kernel))
theorem wm_471 : Jvm.Cond.code ({ cls := "MemoRuntime", name := "leastClassOfReads", desc := "(LMemoRuntime$Cell;)I" } : Jvm.MethodName) prog_1_method_39_code (4 : Nat) (Option.some Jvm.ClassFile.FieldType.int) ∈ lw_tbl := List.mem_append_right _ (List.mem_of_getElem? (i := 471) (by decide +kernel))
theorem wm_472 : Jvm.Cond.methodLink "MemoRuntime" (298 : Nat) ({ cls := "MemoRuntime", name := "classOf", desc := "(I)I" } : Jvm.MethodName) ∈ lw_tbl := List.mem_append_right _ (List.mem_of_getElem? (i := 472) (by decide +kernel))
theorem wm_474 : Jvm.Cond.instanceMethod ({ cls := "MemoRuntime", name := "classOf", desc := "(I)I" } : Jvm.MethodName) ∈ lw_tbl := List.mem_append_right _ (List.mem_of_getElem? (i := 474) (by decide +kernel))
theorem wm_475 : Jvm.Cond.code ({ cls := "MemoRuntime", name := "classOf", desc := "(I)I" } : Jvm.MethodName) prog_1_method_38_code (2 : Nat) (Option.some Jvm.ClassFile.FieldType.int) ∈ lw_tbl := List.mem_append_right _ (List.mem_of_getElem? (i := 475) (by decide +kernel))
theorem wm_476 : Jvm.Cond.methodLink "MemoRuntime" (301 : Nat) ({ cls := "java/lang/Math", name := "min", desc := "(II)I" } : Jvm.MethodName) ∈ lw_tbl := List.mem_append_right _ (List.mem_of_getElem? (i := 476) (by decide +kernel))
theorem wm_477 : Jvm.Cond.static ({ cls := "java/lang/Math", name := "min", desc := "(II)I" } : Jvm.MethodName) ∈ lw_tbl := List.mem_append_right _ (List.mem_of_getElem? (i := 477) (by decide +kernel))
theorem wm_479 : Jvm.Cond.methodLink "MemoRuntime" (248 : Nat) ({ cls := "MemoRuntime", name := "run", desc := "(ILMemoRuntime$Working;)LMemoRuntime$Outcome;" } : Jvm.MethodName) ∈ lw_tbl := List.mem_append_right _ (List.mem_of_getElem? (i := 479) (by decide +kernel))
theorem wm_481 : Jvm.Cond.instanceMethod ({ cls := "MemoRuntime", name := "run", desc := "(ILMemoRuntime$Working;)LMemoRuntime$Outcome;" } : Jvm.MethodName) ∈ lw_tbl := List.mem_append_right _ (List.mem_of_getElem? (i := 481) (by decide +kernel))
theorem wm_482 : Jvm.Cond.code ({ cls := "MemoRuntime", name := "run", desc := "(ILMemoRuntime$Working;)LMemoRuntime$Outcome;" } : Jvm.MethodName) prog_1_method_32_code (5 : Nat) (Option.some (Jvm.ClassFile.FieldType.object "MemoRuntime$Outcome")) ∈ lw_tbl := List.mem_append_right _ (List.mem_of_getElem? (i := 482) (by decide +kernel))
theorem wm_483 : Jvm.Cond.methodLink "MemoRuntime" (266 : Nat) ({ cls := "MemoRuntime$Working", name := "begin", desc := "(LMemoRuntime$Text;I)V" } : Jvm.MethodName) ∈ lw_tbl := List.mem_append_right _ (List.mem_of_getElem? (i := 483) (by decide +kernel))
theorem wm_484 : Jvm.Cond.instanceMethod ({ cls := "MemoRuntime$Working", name := "begin", desc := "(LMemoRuntime$Text;I)V" } : Jvm.MethodName) ∈ lw_tbl := List.mem_append_right _ (List.mem_of_getElem? (i := 484) (by decide +kernel))
theorem wm_485 : Jvm.Cond.selects "MemoRuntime$Working" ({ cls := "MemoRuntime$Working", name := "begin", desc := "(LMemoRuntime$Text;I)V" } : Jvm.MethodName) ({ cls := "MemoRuntime$Working", name := "begin", desc := "(LMemoRuntime$Text;I)V" } : Jvm.MethodName) ∈ lw_tbl := List.mem_append_right _ (List.mem_of_getElem? (i := 485) (by decide +kernel))
theorem wm_486 : Jvm.Cond.code ({ cls := "MemoRuntime$Working", name := "begin", desc := "(LMemoRuntime$Text;I)V" } : Jvm.MethodName) prog_8_method_2_code (3 : Nat) (Option.none : Option Jvm.ClassFile.FieldType) ∈ lw_tbl := List.mem_append_right _ (List.mem_of_getElem? (i := 486) (by decide +kernel))
theorem wm_487 : Jvm.Cond.methodLink "MemoRuntime" (270 : Nat) ({ cls := "MemoRuntime$Working", name := "goOn", desc := "()V" } : Jvm.MethodName) ∈ lw_tbl := List.mem_append_right _ (List.mem_of_getElem? (i := 487) (by decide +kernel))
theorem wm_488 : Jvm.Cond.instanceMethod ({ cls := "MemoRuntime$Working", name := "goOn", desc := "()V" } : Jvm.MethodName) ∈ lw_tbl := List.mem_append_right _ (List.mem_of_getElem? (i := 488) (by decide +kernel))
theorem wm_489 : Jvm.Cond.selects "MemoRuntime$Working" ({ cls := "MemoRuntime$Working", name := "goOn", desc := "()V" } : Jvm.MethodName) ({ cls := "MemoRuntime$Working", name := "goOn", desc := "()V" } : Jvm.MethodName) ∈ lw_tbl := List.mem_append_right _ (List.mem_of_getElem? (i := 489) (by decide +kernel))
theorem wm_490 : Jvm.Cond.code ({ cls := "MemoRuntime$Working", name := "goOn", desc := "()V" } : Jvm.MethodName) prog_8_method_3_code (3 : Nat) (Option.none : Option Jvm.ClassFile.FieldType) ∈ lw_tbl := List.mem_append_right _ (List.mem_of_getElem? (i := 490) (by decide +kernel))
theorem wm_491 : Jvm.Cond.methodLink "MemoRuntime$Working" (58 : Nat) ({ cls := "MemoRuntime$Text", name := "operandsOf", desc := "(C)I" } : Jvm.MethodName) ∈ lw_tbl := List.mem_append_right _ (List.mem_of_getElem? (i := 491) (by decide +kernel))
theorem wm_492 : Jvm.Cond.methodLink "MemoRuntime$Working" (62 : Nat) ({ cls := "MemoRuntime$Working", name := "letWait", desc := "(C)V" } : Jvm.MethodName) ∈ lw_tbl := List.mem_append_right _ (List.mem_of_getElem? (i := 492) (by decide +kernel))
theorem wm_494 : Jvm.Cond.instanceMethod ({ cls := "MemoRuntime$Working", name := "letWait", desc := "(C)V" } : Jvm.MethodName) ∈ lw_tbl := List.mem_append_right _ (List.mem_of_getElem? (i := 494) (by decide +kernel))
theorem wm_495 : Jvm.Cond.code ({ cls := "MemoRuntime$Working", name := "letWait", desc := "(C)V" } : Jvm.MethodName) prog_8_method_6_code (2 : Nat) (Option.none : Option Jvm.ClassFile.FieldType) ∈ lw_tbl := List.mem_append_right _ (List.mem_of_getElem? (i := 495) (by decide +kernel))
theorem wm_496 : Jvm.Cond.methodLink "MemoRuntime$Working" (66 : Nat) ({ cls := "MemoRuntime$Working", name := "handOver", desc := "(I)V" } : Jvm.MethodName) ∈ lw_tbl := List.mem_append_right _ (List.mem_of_getElem? (i := 496) (by decide +kernel))
theorem wm_498 : Jvm.Cond.instanceMethod ({ cls := "MemoRuntime$Working", name := "handOver", desc := "(I)V" } : Jvm.MethodName) ∈ lw_tbl := List.mem_append_right _ (List.mem_of_getElem? (i := 498) (by decide +kernel))
theorem wm_499 : Jvm.Cond.code ({ cls := "MemoRuntime$Working", name := "handOver", desc := "(I)V" } : Jvm.MethodName) prog_8_method_7_code (4 : Nat) (Option.none : Option Jvm.ClassFile.FieldType) ∈ lw_tbl := List.mem_append_right _ (List.mem_of_getElem? (i := 499) (by decide +kernel))
theorem wm_500 : Jvm.Cond.methodLink "MemoRuntime$Working" (73 : Nat) ({ cls := "MemoRuntime$Text", name := "behind", desc := "(I)I" } : Jvm.MethodName) ∈ lw_tbl := List.mem_append_right _ (List.mem_of_getElem? (i := 500) (by decide +kernel))
theorem wm_501 : Jvm.Cond.instanceMethod ({ cls := "MemoRuntime$Text", name := "behind", desc := "(I)I" } : Jvm.MethodName) ∈ lw_tbl := List.mem_append_right _ (List.mem_of_getElem? (i := 501) (by decide +kernel))
theorem wm_502 : Jvm.Cond.selects "MemoRuntime$Text" ({ cls := "MemoRuntime$Text", name := "behind", desc := "(I)I" } : Jvm.MethodName) ({ cls := "MemoRuntime$Text", name := "behind", desc := "(I)I" } : Jvm.MethodName) ∈ lw_tbl := List.mem_append_right _ (List.mem_of_getElem? (i := 502) (by decide +kernel))
theorem wm_503 : Jvm.Cond.code ({ cls := "MemoRuntime$Text", name := "behind", desc := "(I)I" } : Jvm.MethodName) prog_7_method_6_code (4 : Nat) (Option.some Jvm.ClassFile.FieldType.int) ∈ lw_tbl := List.mem_append_right _ (List.mem_of_getElem? (i := 503) (by decide +kernel))
theorem wm_504 : Jvm.Cond.methodLink "MemoRuntime$Working" (77 : Nat) ({ cls := "MemoRuntime$Working", name := "together", desc := "(CII)I" } : Jvm.MethodName) ∈ lw_tbl := List.mem_append_right _ (List.mem_of_getElem? (i := 504) (by decide +kernel))
theorem wm_505 : Jvm.Cond.static ({ cls := "MemoRuntime$Working", name := "together", desc := "(CII)I" } : Jvm.MethodName) ∈ lw_tbl := List.mem_append_right _ (List.mem_of_getElem? (i := 505) (by decide +kernel))
theorem wm_506 : Jvm.Cond.code ({ cls := "MemoRuntime$Working", name := "together", desc := "(CII)I" } : Jvm.MethodName) prog_8_method_10_code (3 : Nat) (Option.some Jvm.ClassFile.FieldType.int) ∈ lw_tbl := List.mem_append_right _ (List.mem_of_getElem? (i := 506) (by decide +kernel))
theorem wm_507 : Jvm.Cond.methodLink "MemoRuntime$Working" (81 : Nat) ({ cls := "MemoRuntime$Working", name := "takeFirst", desc := "(C)V" } : Jvm.MethodName) ∈ lw_tbl := List.mem_append_right _ (List.mem_of_getElem? (i := 507) (by decide +kernel))
theorem wm_509 : Jvm.Cond.instanceMethod ({ cls := "MemoRuntime$Working", name := "takeFirst", desc := "(C)V" } : Jvm.MethodName) ∈ lw_tbl := List.mem_append_right _ (List.mem_of_getElem? (i := 509) (by decide +kernel))
theorem wm_510 : Jvm.Cond.code ({ cls := "MemoRuntime$Working", name := "takeFirst", desc := "(C)V" } : Jvm.MethodName) prog_8_method_8_code (2 : Nat) (Option.none : Option Jvm.ClassFile.FieldType) ∈ lw_tbl := List.mem_append_right _ (List.mem_of_getElem? (i := 510) (by decide +kernel))
theorem wm_511 : Jvm.Cond.methodLink "MemoRuntime$Working" (84 : Nat) ({ cls := "MemoRuntime$Working", name := "readBy", desc := "(CI)I" } : Jvm.MethodName) ∈ lw_tbl := List.mem_append_right _ (List.mem_of_getElem? (i := 511) (by decide +kernel))
theorem wm_512 : Jvm.Cond.static ({ cls := "MemoRuntime$Working", name := "readBy", desc := "(CI)I" } : Jvm.MethodName) ∈ lw_tbl := List.mem_append_right _ (List.mem_of_getElem? (i := 512) (by decide +kernel))
theorem wm_513 : Jvm.Cond.code ({ cls := "MemoRuntime$Working", name := "readBy", desc := "(CI)I" } : Jvm.MethodName) prog_8_method_9_code (2 : Nat) (Option.some Jvm.ClassFile.FieldType.int) ∈ lw_tbl := List.mem_append_right _ (List.mem_of_getElem? (i := 513) (by decide +kernel))
theorem wm_514 : Jvm.Cond.methodLink "MemoRuntime" (276 : Nat) ({ cls := "MemoRuntime", name := "valueOf", desc := "(I)I" } : Jvm.MethodName) ∈ lw_tbl := List.mem_append_right _ (List.mem_of_getElem? (i := 514) (by decide +kernel))
theorem wm_516 : Jvm.Cond.instanceMethod ({ cls := "MemoRuntime", name := "valueOf", desc := "(I)I" } : Jvm.MethodName) ∈ lw_tbl := List.mem_append_right _ (List.mem_of_getElem? (i := 516) (by decide +kernel))
theorem wm_517 : Jvm.Cond.code ({ cls := "MemoRuntime", name := "valueOf", desc := "(I)I" } : Jvm.MethodName) prog_1_method_36_code (2 : Nat) (Option.some Jvm.ClassFile.FieldType.int) ∈ lw_tbl := List.mem_append_right _ (List.mem_of_getElem? (i := 517) (by decide +kernel))
theorem wm_518 : Jvm.Cond.methodLink "MemoRuntime" (279 : Nat) ({ cls := "MemoRuntime$Working", name := "take", desc := "(I)V" } : Jvm.MethodName) ∈ lw_tbl := List.mem_append_right _ (List.mem_of_getElem? (i := 518) (by decide +kernel))
theorem wm_519 : Jvm.Cond.instanceMethod ({ cls := "MemoRuntime$Working", name := "take", desc := "(I)V" } : Jvm.MethodName) ∈ lw_tbl := List.mem_append_right _ (List.mem_of_getElem? (i := 519) (by decide +kernel))
theorem wm_520 : Jvm.Cond.selects "MemoRuntime$Working" ({ cls := "MemoRuntime$Working", name := "take", desc := "(I)V" } : Jvm.MethodName) ({ cls := "MemoRuntime$Working", name := "take", desc := "(I)V" } : Jvm.MethodName) ∈ lw_tbl := List.mem_append_right _ (List.mem_of_getElem? (i := 520) (by decide +kernel))
theorem wm_521 : Jvm.Cond.code ({ cls := "MemoRuntime$Working", name := "take", desc := "(I)V" } : Jvm.MethodName) prog_8_method_4_code (2 : Nat) (Option.none : Option Jvm.ClassFile.FieldType) ∈ lw_tbl := List.mem_append_right _ (List.mem_of_getElem? (i := 521) (by decide +kernel))
theorem wm_522 : Jvm.Cond.methodLink "MemoRuntime$Working" (70 : Nat) ({ cls := "MemoRuntime$Working", name := "noteRead", desc := "(I)V" } : Jvm.MethodName) ∈ lw_tbl := List.mem_append_right _ (List.mem_of_getElem? (i := 522) (by decide +kernel))
theorem wm_524 : Jvm.Cond.instanceMethod ({ cls := "MemoRuntime$Working", name := "noteRead", desc := "(I)V" } : Jvm.MethodName) ∈ lw_tbl := List.mem_append_right _ (List.mem_of_getElem? (i := 524) (by decide +kernel))
theorem wm_525 : Jvm.Cond.code ({ cls := "MemoRuntime$Working", name := "noteRead", desc := "(I)V" } : Jvm.MethodName) prog_8_method_5_code (3 : Nat) (Option.none : Option Jvm.ClassFile.FieldType) ∈ lw_tbl := List.mem_append_right _ (List.mem_of_getElem? (i := 525) (by decide +kernel))
theorem wm_526 : Jvm.Cond.methodLink "MemoRuntime" (282 : Nat) ({ cls := "MemoRuntime", name := "keep", desc := "(ILMemoRuntime$Working;)V" } : Jvm.MethodName) ∈ lw_tbl := List.mem_append_right _ (List.mem_of_getElem? (i := 526) (by decide +kernel))
theorem wm_528 : Jvm.Cond.instanceMethod ({ cls := "MemoRuntime", name := "keep", desc := "(ILMemoRuntime$Working;)V" } : Jvm.MethodName) ∈ lw_tbl := List.mem_append_right _ (List.mem_of_getElem? (i := 528) (by decide +kernel))
theorem wm_529 : Jvm.Cond.code ({ cls := "MemoRuntime", name := "keep", desc := "(ILMemoRuntime$Working;)V" } : Jvm.MethodName) prog_1_method_33_code (4 : Nat) (Option.none : Option Jvm.ClassFile.FieldType) ∈ lw_tbl := List.mem_append_right _ (List.mem_of_getElem? (i := 529) (by decide +kernel))
theorem wm_530 : Jvm.Cond.methodLink "MemoRuntime" (289 : Nat) ({ cls := "java/lang/System", name := "arraycopy", desc := "(Ljava/lang/Object;ILjava/lang/Object;II)V" } : Jvm.MethodName) ∈ lw_tbl := List.mem_append_right _ (List.mem_of_getElem? (i := 530) (by decide +kernel))
theorem wm_531 : Jvm.Cond.static ({ cls := "java/lang/System", name := "arraycopy", desc := "(Ljava/lang/Object;ILjava/lang/Object;II)V" } : Jvm.MethodName) ∈ lw_tbl := List.mem_append_right _ (List.mem_of_getElem? (i := 531) (by decide +kernel))
theorem wm_532 : Jvm.Cond.native ({ cls := "java/lang/System", name := "arraycopy", desc := "(Ljava/lang/Object;ILjava/lang/Object;II)V" } : Jvm.MethodName) ∈ lw_tbl := List.mem_append_right _ (List.mem_of_getElem? (i := 532) (by decide +kernel))
theorem wm_549 : Jvm.Cond.methodLink "MemoRuntime" (162 : Nat) ({ cls := "MemoRuntime", name := "letFirstGo", desc := "()I" } : Jvm.MethodName) ∈ lw_tbl := List.mem_append_right _ (List.mem_of_getElem? (i := 549) (by decide +kernel))
theorem wm_551 : Jvm.Cond.instanceMethod ({ cls := "MemoRuntime", name := "letFirstGo", desc := "()I" } : Jvm.MethodName) ∈ lw_tbl := List.mem_append_right _ (List.mem_of_getElem? (i := 551) (by decide +kernel))
theorem wm_552 : Jvm.Cond.code ({ cls := "MemoRuntime", name := "letFirstGo", desc := "()I" } : Jvm.MethodName) prog_1_method_25_code (3 : Nat) (Option.some Jvm.ClassFile.FieldType.int) ∈ lw_tbl := List.mem_append_right _ (List.mem_of_getElem? (i := 552) (by decide +kernel))
theorem wm_553 : Jvm.Cond.methodLink "MemoRuntime" (221 : Nat) ({ cls := "java/lang/Math", name := "max", desc := "(II)I" } : Jvm.MethodName) ∈ lw_tbl := List.mem_append_right _ (List.mem_of_getElem? (i := 553) (by decide +kernel))
theorem wm_554 : Jvm.Cond.static ({ cls := "java/lang/Math", name := "max", desc := "(II)I" } : Jvm.MethodName) ∈ lw_tbl := List.mem_append_right _ (List.mem_of_getElem? (i := 554) (by decide +kernel))
theorem wm_556 : Jvm.Cond.methodLink "MemoRuntimeLaw" (95 : Nat) ({ cls := "MemoRuntimeLaw", name := "kept", desc := "(LMemoRuntime;II[J)I" } : Jvm.MethodName) ∈ lw_tbl := List.mem_append_right _ (List.mem_of_getElem? (i := 556) (by decide +kernel))
theorem wm_557 : Jvm.Cond.static ({ cls := "MemoRuntimeLaw", name := "kept", desc := "(LMemoRuntime;II[J)I" } : Jvm.MethodName) ∈ lw_tbl := List.mem_append_right _ (List.mem_of_getElem? (i := 557) (by decide +kernel))
theorem wm_558 : Jvm.Cond.codeWith ({ cls := "MemoRuntimeLaw", name := "kept", desc := "(LMemoRuntime;II[J)I" } : Jvm.MethodName) method_8_code (5 : Nat) (Option.some Jvm.ClassFile.FieldType.int) [((0 : Nat), (17 : Nat), (20 : Nat), (13 : Nat))] ∈ lw_tbl := List.mem_append_right _ (List.mem_of_getElem? (i := 558) (by decide +kernel))
theorem wm_559 : Jvm.Cond.methodLink "MemoRuntimeLaw" (33 : Nat) ({ cls := "MemoRuntime", name := "kept", desc := "(II)Z" } : Jvm.MethodName) ∈ lw_tbl := List.mem_append_right _ (List.mem_of_getElem? (i := 559) (by decide +kernel))
theorem wm_560 : Jvm.Cond.instanceMethod ({ cls := "MemoRuntime", name := "kept", desc := "(II)Z" } : Jvm.MethodName) ∈ lw_tbl := List.mem_append_right _ (List.mem_of_getElem? (i := 560) (by decide +kernel))
theorem wm_561 : Jvm.Cond.selects "MemoRuntime" ({ cls := "MemoRuntime", name := "kept", desc := "(II)Z" } : Jvm.MethodName) ({ cls := "MemoRuntime", name := "kept", desc := "(II)Z" } : Jvm.MethodName) ∈ lw_tbl := List.mem_append_right _ (List.mem_of_getElem? (i := 561) (by decide +kernel))
theorem wm_562 : Jvm.Cond.code ({ cls := "MemoRuntime", name := "kept", desc := "(II)Z" } : Jvm.MethodName) prog_1_method_10_code (3 : Nat) (Option.some Jvm.ClassFile.FieldType.boolean) ∈ lw_tbl := List.mem_append_right _ (List.mem_of_getElem? (i := 562) (by decide +kernel))
theorem wm_563 : Jvm.Cond.methodLink "MemoRuntimeLaw" (98 : Nat) ({ cls := "MemoRuntimeLaw", name := "cell", desc := "(LMemoRuntime;III[J)I" } : Jvm.MethodName) ∈ lw_tbl := List.mem_append_right _ (List.mem_of_getElem? (i := 563) (by decide +kernel))
theorem wm_564 : Jvm.Cond.static ({ cls := "MemoRuntimeLaw", name := "cell", desc := "(LMemoRuntime;III[J)I" } : Jvm.MethodName) ∈ lw_tbl := List.mem_append_right _ (List.mem_of_getElem? (i := 564) (by decide +kernel))
theorem wm_565 : Jvm.Cond.codeWith ({ cls := "MemoRuntimeLaw", name := "cell", desc := "(LMemoRuntime;III[J)I" } : Jvm.MethodName) method_9_code (6 : Nat) (Option.some Jvm.ClassFile.FieldType.int) [((0 : Nat), (12 : Nat), (15 : Nat), (13 : Nat)), ((0 : Nat), (12 : Nat), (19 : Nat), (40 : Nat))] ∈ lw_tbl := List.mem_append_right _ (List.mem_of_getElem? (i := 565) (by decide +kernel))
theorem wm_567 : Jvm.Cond.methodLink "MemoRuntimeLaw" (36 : Nat) ({ cls := "MemoRuntime", name := "cell", desc := "(III)I" } : Jvm.MethodName) ∈ lw_tbl := List.mem_append_right _ (List.mem_of_getElem? (i := 567) (by decide +kernel))
theorem wm_568 : Jvm.Cond.instanceMethod ({ cls := "MemoRuntime", name := "cell", desc := "(III)I" } : Jvm.MethodName) ∈ lw_tbl := List.mem_append_right _ (List.mem_of_getElem? (i := 568) (by decide +kernel))
theorem wm_569 : Jvm.Cond.selects "MemoRuntime" ({ cls := "MemoRuntime", name := "cell", desc := "(III)I" } : Jvm.MethodName) ({ cls := "MemoRuntime", name := "cell", desc := "(III)I" } : Jvm.MethodName) ∈ lw_tbl := List.mem_append_right _ (List.mem_of_getElem? (i := 569) (by decide +kernel))
theorem wm_570 : Jvm.Cond.code ({ cls := "MemoRuntime", name := "cell", desc := "(III)I" } : Jvm.MethodName) prog_1_method_11_code (5 : Nat) (Option.some Jvm.ClassFile.FieldType.int) ∈ lw_tbl := List.mem_append_right _ (List.mem_of_getElem? (i := 570) (by decide +kernel))
theorem wm_571 : Jvm.Cond.methodLink "MemoRuntime" (175 : Nat) ({ cls := "MemoRuntime", name := "keptCell", desc := "(I)LMemoRuntime$Cell;" } : Jvm.MethodName) ∈ lw_tbl := List.mem_append_right _ (List.mem_of_getElem? (i := 571) (by decide +kernel))
theorem wm_573 : Jvm.Cond.instanceMethod ({ cls := "MemoRuntime", name := "keptCell", desc := "(I)LMemoRuntime$Cell;" } : Jvm.MethodName) ∈ lw_tbl := List.mem_append_right _ (List.mem_of_getElem? (i := 573) (by decide +kernel))
theorem wm_574 : Jvm.Cond.code ({ cls := "MemoRuntime", name := "keptCell", desc := "(I)LMemoRuntime$Cell;" } : Jvm.MethodName) prog_1_method_21_code (2 : Nat) (Option.some (Jvm.ClassFile.FieldType.object "MemoRuntime$Cell")) ∈ lw_tbl := List.mem_append_right _ (List.mem_of_getElem? (i := 574) (by decide +kernel))
theorem wm_591 : Jvm.Cond.methodLink "MemoRuntimeLaw" (101 : Nat) ({ cls := "MemoRuntimeLaw", name := "read", desc := "(LMemoRuntime;III[J)I" } : Jvm.MethodName) ∈ lw_tbl := List.mem_append_right _ (List.mem_of_getElem? (i := 591) (by decide +kernel))
theorem wm_592 : Jvm.Cond.static ({ cls := "MemoRuntimeLaw", name := "read", desc := "(LMemoRuntime;III[J)I" } : Jvm.MethodName) ∈ lw_tbl := List.mem_append_right _ (List.mem_of_getElem? (i := 592) (by decide +kernel))
theorem wm_593 : Jvm.Cond.codeWith ({ cls := "MemoRuntimeLaw", name := "read", desc := "(LMemoRuntime;III[J)I" } : Jvm.MethodName) method_10_code (6 : Nat) (Option.some Jvm.ClassFile.FieldType.int) [((0 : Nat), (12 : Nat), (15 : Nat), (13 : Nat)), ((0 : Nat), (12 : Nat), (19 : Nat), (40 : Nat))] ∈ lw_tbl := List.mem_append_right _ (List.mem_of_getElem? (i := 593) (by decide +kernel))
theorem wm_594 : Jvm.Cond.methodLink "MemoRuntimeLaw" (42 : Nat) ({ cls := "MemoRuntime", name := "read", desc := "(III)I" } : Jvm.MethodName) ∈ lw_tbl := List.mem_append_right _ (List.mem_of_getElem? (i := 594) (by decide +kernel))
theorem wm_595 : Jvm.Cond.instanceMethod ({ cls := "MemoRuntime", name := "read", desc := "(III)I" } : Jvm.MethodName) ∈ lw_tbl := List.mem_append_right _ (List.mem_of_getElem? (i := 595) (by decide +kernel))
theorem wm_596 : Jvm.Cond.selects "MemoRuntime" ({ cls := "MemoRuntime", name := "read", desc := "(III)I" } : Jvm.MethodName) ({ cls := "MemoRuntime", name := "read", desc := "(III)I" } : Jvm.MethodName) ∈ lw_tbl := List.mem_append_right _ (List.mem_of_getElem? (i := 596) (by decide +kernel))
theorem wm_597 : Jvm.Cond.code ({ cls := "MemoRuntime", name := "read", desc := "(III)I" } : Jvm.MethodName) prog_1_method_12_code (5 : Nat) (Option.some Jvm.ClassFile.FieldType.int) ∈ lw_tbl := List.mem_append_right _ (List.mem_of_getElem? (i := 597) (by decide +kernel))
theorem wm_598 : Jvm.Cond.methodLink "MemoRuntimeLaw" (108 : Nat) ({ cls := "MemoRuntimeLaw", name := "bound", desc := "(LMemoRuntime;I[J)I" } : Jvm.MethodName) ∈ lw_tbl := List.mem_append_right _ (List.mem_of_getElem? (i := 598) (by decide +kernel))
theorem wm_599 : Jvm.Cond.static ({ cls := "MemoRuntimeLaw", name := "bound", desc := "(LMemoRuntime;I[J)I" } : Jvm.MethodName) ∈ lw_tbl := List.mem_append_right _ (List.mem_of_getElem? (i := 599) (by decide +kernel))
theorem wm_600 : Jvm.Cond.codeWith ({ cls := "MemoRuntimeLaw", name := "bound", desc := "(LMemoRuntime;I[J)I" } : Jvm.MethodName) method_11_code (4 : Nat) (Option.some Jvm.ClassFile.FieldType.int) [((0 : Nat), (9 : Nat), (12 : Nat), (13 : Nat))] ∈ lw_tbl := List.mem_append_right _ (List.mem_of_getElem? (i := 600) (by decide +kernel))
theorem wm_601 : Jvm.Cond.methodLink "MemoRuntimeLaw" (45 : Nat) ({ cls := "MemoRuntime", name := "bound", desc := "(I)I" } : Jvm.MethodName) ∈ lw_tbl := List.mem_append_right _ (List.mem_of_getElem? (i := 601) (by decide +kernel))
theorem wm_602 : Jvm.Cond.instanceMethod ({ cls := "MemoRuntime", name := "bound", desc := "(I)I" } : Jvm.MethodName) ∈ lw_tbl := List.mem_append_right _ (List.mem_of_getElem? (i := 602) (by decide +kernel))
theorem wm_603 : Jvm.Cond.selects "MemoRuntime" ({ cls := "MemoRuntime", name := "bound", desc := "(I)I" } : Jvm.MethodName) ({ cls := "MemoRuntime", name := "bound", desc := "(I)I" } : Jvm.MethodName) ∈ lw_tbl := List.mem_append_right _ (List.mem_of_getElem? (i := 603) (by decide +kernel))
theorem wm_604 : Jvm.Cond.code ({ cls := "MemoRuntime", name := "bound", desc := "(I)I" } : Jvm.MethodName) prog_1_method_14_code (2 : Nat) (Option.some Jvm.ClassFile.FieldType.int) ∈ lw_tbl := List.mem_append_right _ (List.mem_of_getElem? (i := 604) (by decide +kernel))
theorem wm_606 : Jvm.Cond.methodLink "MemoRuntimeLaw" (111 : Nat) ({ cls := "MemoRuntimeLaw", name := "drop", desc := "(LMemoRuntime;II[J)I" } : Jvm.MethodName) ∈ lw_tbl := List.mem_append_right _ (List.mem_of_getElem? (i := 606) (by decide +kernel))
theorem wm_607 : Jvm.Cond.static ({ cls := "MemoRuntimeLaw", name := "drop", desc := "(LMemoRuntime;II[J)I" } : Jvm.MethodName) ∈ lw_tbl := List.mem_append_right _ (List.mem_of_getElem? (i := 607) (by decide +kernel))
theorem wm_608 : Jvm.Cond.codeWith ({ cls := "MemoRuntimeLaw", name := "drop", desc := "(LMemoRuntime;II[J)I" } : Jvm.MethodName) method_12_code (5 : Nat) (Option.some Jvm.ClassFile.FieldType.int) [((0 : Nat), (17 : Nat), (20 : Nat), (13 : Nat))] ∈ lw_tbl := List.mem_append_right _ (List.mem_of_getElem? (i := 608) (by decide +kernel))
theorem wm_609 : Jvm.Cond.methodLink "MemoRuntimeLaw" (48 : Nat) ({ cls := "MemoRuntime", name := "drop", desc := "(II)Z" } : Jvm.MethodName) ∈ lw_tbl := List.mem_append_right _ (List.mem_of_getElem? (i := 609) (by decide +kernel))
theorem wm_610 : Jvm.Cond.instanceMethod ({ cls := "MemoRuntime", name := "drop", desc := "(II)Z" } : Jvm.MethodName) ∈ lw_tbl := List.mem_append_right _ (List.mem_of_getElem? (i := 610) (by decide +kernel))
theorem wm_611 : Jvm.Cond.selects "MemoRuntime" ({ cls := "MemoRuntime", name := "drop", desc := "(II)Z" } : Jvm.MethodName) ({ cls := "MemoRuntime", name := "drop", desc := "(II)Z" } : Jvm.MethodName) ∈ lw_tbl := List.mem_append_right _ (List.mem_of_getElem? (i := 611) (by decide +kernel))
theorem wm_612 : Jvm.Cond.code ({ cls := "MemoRuntime", name := "drop", desc := "(II)Z" } : Jvm.MethodName) prog_1_method_15_code (5 : Nat) (Option.some Jvm.ClassFile.FieldType.boolean) ∈ lw_tbl := List.mem_append_right _ (List.mem_of_getElem? (i := 612) (by decide +kernel))
theorem wm_613 : Jvm.Cond.classLink "MemoRuntimeLaw" (52 : Nat) "MemoRuntimeModel" ∈ lw_tbl := List.mem_append_right _ (List.mem_of_getElem? (i := 613) (by decide +kernel))
theorem wm_614 : Jvm.Cond.instantiable "MemoRuntimeModel" (37 : Nat) ∈ lw_tbl := List.mem_append_right _ (List.mem_of_getElem? (i := 614) (by decide +kernel))
theorem wm_615 : Jvm.Cond.methodLink "MemoRuntimeLaw" (54 : Nat) ({ cls := "MemoRuntimeModel", name := "<init>", desc := "()V" } : Jvm.MethodName) ∈ lw_tbl := List.mem_append_right _ (List.mem_of_getElem? (i := 615) (by decide +kernel))
theorem wm_616 : Jvm.Cond.instanceMethod ({ cls := "MemoRuntimeModel", name := "<init>", desc := "()V" } : Jvm.MethodName) ∈ lw_tbl := List.mem_append_right _ (List.mem_of_getElem? (i := 616) (by decide +kernel))
theorem wm_617 : Jvm.Cond.code ({ cls := "MemoRuntimeModel", name := "<init>", desc := "()V" } : Jvm.MethodName) prog_10_method_1_code (2 : Nat) (Option.none : Option Jvm.ClassFile.FieldType) ∈ lw_tbl := List.mem_append_right _ (List.mem_of_getElem? (i := 617) (by decide +kernel))
theorem wm_618 : Jvm.Cond.methodLink "MemoRuntimeModel" (1 : Nat) ({ cls := "java/lang/Object", name := "<init>", desc := "()V" } : Jvm.MethodName) ∈ lw_tbl := List.mem_append_right _ (List.mem_of_getElem? (i := 618) (by decide +kernel))
theorem wm_619 : Jvm.Cond.fieldLink "MemoRuntimeModel" (84 : Nat) "MemoRuntimeModel" "thrown" "I" ∈ lw_tbl := List.mem_append_right _ (List.mem_of_getElem? (i := 619) (by decide +kernel))
theorem wm_620 : Jvm.Cond.fieldLink "MemoRuntimeModel" (7 : Nat) "MemoRuntimeModel" "draft" "[I" ∈ lw_tbl := List.mem_append_right _ (List.mem_of_getElem? (i := 620) (by decide +kernel))
theorem wm_621 : Jvm.Cond.fieldLink "MemoRuntimeModel" (89 : Nat) "MemoRuntimeModel" "length" "I" ∈ lw_tbl := List.mem_append_right _ (List.mem_of_getElem? (i := 621) (by decide +kernel))
theorem wm_622 : Jvm.Cond.fieldLink "MemoRuntimeModel" (13 : Nat) "MemoRuntimeModel" "texts" "[I" ∈ lw_tbl := List.mem_append_right _ (List.mem_of_getElem? (i := 622) (by decide +kernel))
theorem wm_623 : Jvm.Cond.fieldLink "MemoRuntimeModel" (16 : Nat) "MemoRuntimeModel" "lengths" "[I" ∈ lw_tbl := List.mem_append_right _ (List.mem_of_getElem? (i := 623) (by decide +kernel))
theorem wm_624 : Jvm.Cond.fieldLink "MemoRuntimeModel" (99 : Nat) "MemoRuntimeModel" "revision" "I" ∈ lw_tbl := List.mem_append_right _ (List.mem_of_getElem? (i := 624) (by decide +kernel))
theorem wm_625 : Jvm.Cond.fieldLink "MemoRuntimeModel" (19 : Nat) "MemoRuntimeModel" "inputs" "[I" ∈ lw_tbl := List.mem_append_right _ (List.mem_of_getElem? (i := 625) (by decide +kernel))
theorem wm_626 : Jvm.Cond.fieldLink "MemoRuntimeModel" (22 : Nat) "MemoRuntimeModel" "inputChanged" "[I" ∈ lw_tbl := List.mem_append_right _ (List.mem_of_getElem? (i := 626) (by decide +kernel))
theorem wm_627 : Jvm.Cond.fieldLink "MemoRuntimeModel" (25 : Nat) "MemoRuntimeModel" "classes" "[I" ∈ lw_tbl := List.mem_append_right _ (List.mem_of_getElem? (i := 627) (by decide +kernel))
theorem wm_628 : Jvm.Cond.fieldLink "MemoRuntimeModel" (28 : Nat) "MemoRuntimeModel" "circles" "[I" ∈ lw_tbl := List.mem_append_right _ (List.mem_of_getElem? (i := 628) (by decide +kernel))
theorem wm_629 : Jvm.Cond.fieldLink "MemoRuntimeModel" (31 : Nat) "MemoRuntimeModel" "edited" "[I" ∈ lw_tbl := List.mem_append_right _ (List.mem_of_getElem? (i := 629) (by decide +kernel))
theorem wm_630 : Jvm.Cond.fieldLink "MemoRuntimeModel" (34 : Nat) "MemoRuntimeModel" "has" "[Z" ∈ lw_tbl := List.mem_append_right _ (List.mem_of_getElem? (i := 630) (by decide +kernel))
theorem wm_631 : Jvm.Cond.fieldLink "MemoRuntimeModel" (38 : Nat) "MemoRuntimeModel" "value" "[I" ∈ lw_tbl := List.mem_append_right _ (List.mem_of_getElem? (i := 631) (by decide +kernel))
theorem wm_632 : Jvm.Cond.fieldLink "MemoRuntimeModel" (41 : Nat) "MemoRuntimeModel" "good" "[I" ∈ lw_tbl := List.mem_append_right _ (List.mem_of_getElem? (i := 632) (by decide +kernel))
theorem wm_633 : Jvm.Cond.fieldLink "MemoRuntimeModel" (44 : Nat) "MemoRuntimeModel" "changed" "[I" ∈ lw_tbl := List.mem_append_right _ (List.mem_of_getElem? (i := 633) (by decide +kernel))
theorem wm_634 : Jvm.Cond.fieldLink "MemoRuntimeModel" (47 : Nat) "MemoRuntimeModel" "level" "[I" ∈ lw_tbl := List.mem_append_right _ (List.mem_of_getElem? (i := 634) (by decide +kernel))
theorem wm_635 : Jvm.Cond.fieldLink "MemoRuntimeModel" (50 : Nat) "MemoRuntimeModel" "round" "[Z" ∈ lw_tbl := List.mem_append_right _ (List.mem_of_getElem? (i := 635) (by decide +kernel))
theorem wm_636 : Jvm.Cond.fieldLink "MemoRuntimeModel" (53 : Nat) "MemoRuntimeModel" "reads" "[I" ∈ lw_tbl := List.mem_append_right _ (List.mem_of_getElem? (i := 636) (by decide +kernel))
theorem wm_637 : Jvm.Cond.fieldLink "MemoRuntimeModel" (56 : Nat) "MemoRuntimeModel" "many" "[I" ∈ lw_tbl := List.mem_append_right _ (List.mem_of_getElem? (i := 637) (by decide +kernel))
theorem wm_638 : Jvm.Cond.fieldLink "MemoRuntimeModel" (59 : Nat) "MemoRuntimeModel" "stamp" "[I" ∈ lw_tbl := List.mem_append_right _ (List.mem_of_getElem? (i := 638) (by decide +kernel))
theorem wm_639 : Jvm.Cond.fieldLink "MemoRuntimeModel" (110 : Nat) "MemoRuntimeModel" "clock" "I" ∈ lw_tbl := List.mem_append_right _ (List.mem_of_getElem? (i := 639) (by decide +kernel))
theorem wm_640 : Jvm.Cond.fieldLink "MemoRuntimeModel" (62 : Nat) "MemoRuntimeModel" "bound" "I" ∈ lw_tbl := List.mem_append_right _ (List.mem_of_getElem? (i := 640) (by decide +kernel))
theorem wm_641 : Jvm.Cond.fieldLink "MemoRuntimeModel" (170 : Nat) "MemoRuntimeModel" "ran" "I" ∈ lw_tbl := List.mem_append_right _ (List.mem_of_getElem? (i := 641) (by decide +kernel))
theorem wm_642 : Jvm.Cond.fieldLink "MemoRuntimeModel" (144 : Nat) "MemoRuntimeModel" "verified" "I" ∈ lw_tbl := List.mem_append_right _ (List.mem_of_getElem? (i := 642) (by decide +kernel))
theorem wm_643 : Jvm.Cond.fieldLink "MemoRuntimeModel" (131 : Nat) "MemoRuntimeModel" "skipped" "I" ∈ lw_tbl := List.mem_append_right _ (List.mem_of_getElem? (i := 643) (by decide +kernel))
theorem wm_644 : Jvm.Cond.fieldLink "MemoRuntimeModel" (116 : Nat) "MemoRuntimeModel" "circled" "I" ∈ lw_tbl := List.mem_append_right _ (List.mem_of_getElem? (i := 644) (by decide +kernel))
theorem wm_645 : Jvm.Cond.fieldLink "MemoRuntimeModel" (113 : Nat) "MemoRuntimeModel" "depth" "I" ∈ lw_tbl := List.mem_append_right _ (List.mem_of_getElem? (i := 645) (by decide +kernel))
theorem wm_646 : Jvm.Cond.fieldLink "MemoRuntimeModel" (66 : Nat) "MemoRuntimeModel" "under" "[I" ∈ lw_tbl := List.mem_append_right _ (List.mem_of_getElem? (i := 646) (by decide +kernel))
theorem wm_647 : Jvm.Cond.fieldLink "MemoRuntimeModel" (69 : Nat) "MemoRuntimeModel" "running" "[Z" ∈ lw_tbl := List.mem_append_right _ (List.mem_of_getElem? (i := 647) (by decide +kernel))
theorem wm_648 : Jvm.Cond.fieldLink "MemoRuntimeModel" (134 : Nat) "MemoRuntimeModel" "gaveUp" "Z" ∈ lw_tbl := List.mem_append_right _ (List.mem_of_getElem? (i := 648) (by decide +kernel))
theorem wm_649 : Jvm.Cond.fieldLink "MemoRuntimeModel" (150 : Nat) "MemoRuntimeModel" "waiting" "I" ∈ lw_tbl := List.mem_append_right _ (List.mem_of_getElem? (i := 649) (by decide +kernel))
theorem wm_650 : Jvm.Cond.fieldLink "MemoRuntimeModel" (72 : Nat) "MemoRuntimeModel" "operation" "[I" ∈ lw_tbl := List.mem_append_right _ (List.mem_of_getElem? (i := 650) (by decide +kernel))
theorem wm_651 : Jvm.Cond.fieldLink "MemoRuntimeModel" (75 : Nat) "MemoRuntimeModel" "collected" "[I" ∈ lw_tbl := List.mem_append_right _ (List.mem_of_getElem? (i := 651) (by decide +kernel))
theorem wm_652 : Jvm.Cond.fieldLink "MemoRuntimeModel" (78 : Nat) "MemoRuntimeModel" "left" "[I" ∈ lw_tbl := List.mem_append_right _ (List.mem_of_getElem? (i := 652) (by decide +kernel))
theorem wm_653 : Jvm.Cond.fieldLink "MemoRuntimeModel" (147 : Nat) "MemoRuntimeModel" "readCount" "I" ∈ lw_tbl := List.mem_append_right _ (List.mem_of_getElem? (i := 653) (by decide +kernel))
theorem wm_654 : Jvm.Cond.fieldLink "MemoRuntimeModel" (81 : Nat) "MemoRuntimeModel" "readNow" "[I" ∈ lw_tbl := List.mem_append_right _ (List.mem_of_getElem? (i := 654) (by decide +kernel))
theorem wm_655 : Jvm.Cond.fieldLink "MemoRuntimeModel" (153 : Nat) "MemoRuntimeModel" "result" "I" ∈ lw_tbl := List.mem_append_right _ (List.mem_of_getElem? (i := 655) (by decide +kernel))
theorem wm_731 : Jvm.Cond.methodLink "MemoRuntimeLaw" (73 : Nat) ({ cls := "MemoRuntimeModel", name := "thrown", desc := "()I" } : Jvm.MethodName) ∈ lw_tbl := List.mem_append_right _ (List.mem_of_getElem? (i := 731) (by decide +kernel))
theorem wm_732 : Jvm.Cond.instanceMethod ({ cls := "MemoRuntimeModel", name := "thrown", desc := "()I" } : Jvm.MethodName) ∈ lw_tbl := List.mem_append_right _ (List.mem_of_getElem? (i := 732) (by decide +kernel))
theorem wm_733 : Jvm.Cond.selects "MemoRuntimeModel" ({ cls := "MemoRuntimeModel", name := "thrown", desc := "()I" } : Jvm.MethodName) ({ cls := "MemoRuntimeModel", name := "thrown", desc := "()I" } : Jvm.MethodName) ∈ lw_tbl := List.mem_append_right _ (List.mem_of_getElem? (i := 733) (by decide +kernel))
theorem wm_734 : Jvm.Cond.code ({ cls := "MemoRuntimeModel", name := "thrown", desc := "()I" } : Jvm.MethodName) prog_10_method_2_code (1 : Nat) (Option.some Jvm.ClassFile.FieldType.int) ∈ lw_tbl := List.mem_append_right _ (List.mem_of_getElem? (i := 734) (by decide +kernel))
theorem wm_735 : Jvm.Cond.methodLink "MemoRuntimeLaw" (61 : Nat) ({ cls := "MemoRuntimeModel", name := "write", desc := "(J)I" } : Jvm.MethodName) ∈ lw_tbl := List.mem_append_right _ (List.mem_of_getElem? (i := 735) (by decide +kernel))
theorem wm_736 : Jvm.Cond.instanceMethod ({ cls := "MemoRuntimeModel", name := "write", desc := "(J)I" } : Jvm.MethodName) ∈ lw_tbl := List.mem_append_right _ (List.mem_of_getElem? (i := 736) (by decide +kernel))
theorem wm_737 : Jvm.Cond.selects "MemoRuntimeModel" ({ cls := "MemoRuntimeModel", name := "write", desc := "(J)I" } : Jvm.MethodName) ({ cls := "MemoRuntimeModel", name := "write", desc := "(J)I" } : Jvm.MethodName) ∈ lw_tbl := List.mem_append_right _ (List.mem_of_getElem? (i := 737) (by decide +kernel))
theorem wm_738 : Jvm.Cond.code ({ cls := "MemoRuntimeModel", name := "write", desc := "(J)I" } : Jvm.MethodName) prog_10_method_3_code (6 : Nat) (Option.some Jvm.ClassFile.FieldType.int) ∈ lw_tbl := List.mem_append_right _ (List.mem_of_getElem? (i := 738) (by decide +kernel))
theorem wm_739 : Jvm.Cond.constantLong "MemoRuntimeModel" (87 : Nat) (255 : Int64) ∈ lw_tbl := List.mem_append_right _ (List.mem_of_getElem? (i := 739) (by decide +kernel))
theorem wm_740 : Jvm.Cond.methodLink "MemoRuntimeLaw" (66 : Nat) ({ cls := "MemoRuntimeModel", name := "wipe", desc := "()I" } : Jvm.MethodName) ∈ lw_tbl := List.mem_append_right _ (List.mem_of_getElem? (i := 740) (by decide +kernel))
theorem wm_741 : Jvm.Cond.instanceMethod ({ cls := "MemoRuntimeModel", name := "wipe", desc := "()I" } : Jvm.MethodName) ∈ lw_tbl := List.mem_append_right _ (List.mem_of_getElem? (i := 741) (by decide +kernel))
theorem wm_742 : Jvm.Cond.selects "MemoRuntimeModel" ({ cls := "MemoRuntimeModel", name := "wipe", desc := "()I" } : Jvm.MethodName) ({ cls := "MemoRuntimeModel", name := "wipe", desc := "()I" } : Jvm.MethodName) ∈ lw_tbl := List.mem_append_right _ (List.mem_of_getElem? (i := 742) (by decide +kernel))
theorem wm_743 : Jvm.Cond.code ({ cls := "MemoRuntimeModel", name := "wipe", desc := "()I" } : Jvm.MethodName) prog_10_method_4_code (2 : Nat) (Option.some Jvm.ClassFile.FieldType.int) ∈ lw_tbl := List.mem_append_right _ (List.mem_of_getElem? (i := 743) (by decide +kernel))
theorem wm_744 : Jvm.Cond.methodLink "MemoRuntimeLaw" (72 : Nat) ({ cls := "MemoRuntimeModel", name := "define", desc := "(I)I" } : Jvm.MethodName) ∈ lw_tbl := List.mem_append_right _ (List.mem_of_getElem? (i := 744) (by decide +kernel))
theorem wm_745 : Jvm.Cond.instanceMethod ({ cls := "MemoRuntimeModel", name := "define", desc := "(I)I" } : Jvm.MethodName) ∈ lw_tbl := List.mem_append_right _ (List.mem_of_getElem? (i := 745) (by decide +kernel))
theorem wm_746 : Jvm.Cond.selects "MemoRuntimeModel" ({ cls := "MemoRuntimeModel", name := "define", desc := "(I)I" } : Jvm.MethodName) ({ cls := "MemoRuntimeModel", name := "define", desc := "(I)I" } : Jvm.MethodName) ∈ lw_tbl := List.mem_append_right _ (List.mem_of_getElem? (i := 746) (by decide +kernel))
theorem wm_747 : Jvm.Cond.code ({ cls := "MemoRuntimeModel", name := "define", desc := "(I)I" } : Jvm.MethodName) prog_10_method_7_code (4 : Nat) (Option.some Jvm.ClassFile.FieldType.int) ∈ lw_tbl := List.mem_append_right _ (List.mem_of_getElem? (i := 747) (by decide +kernel))
theorem wm_748 : Jvm.Cond.methodLink "MemoRuntimeModel" (92 : Nat) ({ cls := "MemoRuntimeModel", name := "wants", desc := "(I)I" } : Jvm.MethodName) ∈ lw_tbl := List.mem_append_right _ (List.mem_of_getElem? (i := 748) (by decide +kernel))
theorem wm_749 : Jvm.Cond.static ({ cls := "MemoRuntimeModel", name := "wants", desc := "(I)I" } : Jvm.MethodName) ∈ lw_tbl := List.mem_append_right _ (List.mem_of_getElem? (i := 749) (by decide +kernel))
theorem wm_750 : Jvm.Cond.code ({ cls := "MemoRuntimeModel", name := "wants", desc := "(I)I" } : Jvm.MethodName) prog_10_method_5_code (1 : Nat) (Option.some Jvm.ClassFile.FieldType.int) ∈ lw_tbl := List.mem_append_right _ (List.mem_of_getElem? (i := 750) (by decide +kernel))
theorem wm_751 : Jvm.Cond.methodLink "MemoRuntimeModel" (96 : Nat) ({ cls := "MemoRuntimeModel", name := "forgetAll", desc := "()V" } : Jvm.MethodName) ∈ lw_tbl := List.mem_append_right _ (List.mem_of_getElem? (i := 751) (by decide +kernel))
theorem wm_753 : Jvm.Cond.instanceMethod ({ cls := "MemoRuntimeModel", name := "forgetAll", desc := "()V" } : Jvm.MethodName) ∈ lw_tbl := List.mem_append_right _ (List.mem_of_getElem? (i := 753) (by decide +kernel))
theorem wm_754 : Jvm.Cond.code ({ cls := "MemoRuntimeModel", name := "forgetAll", desc := "()V" } : Jvm.MethodName) prog_10_method_6_code (2 : Nat) (Option.none : Option Jvm.ClassFile.FieldType) ∈ lw_tbl := List.mem_append_right _ (List.mem_of_getElem? (i := 754) (by decide +kernel))
theorem wm_755 : Jvm.Cond.methodLink "MemoRuntimeLaw" (79 : Nat) ({ cls := "MemoRuntimeModel", name := "input", desc := "(III)Z" } : Jvm.MethodName) ∈ lw_tbl := List.mem_append_right _ (List.mem_of_getElem? (i := 755) (by decide +kernel))
theorem wm_756 : Jvm.Cond.instanceMethod ({ cls := "MemoRuntimeModel", name := "input", desc := "(III)Z" } : Jvm.MethodName) ∈ lw_tbl := List.mem_append_right _ (List.mem_of_getElem? (i := 756) (by decide +kernel))
theorem wm_757 : Jvm.Cond.selects "MemoRuntimeModel" ({ cls := "MemoRuntimeModel", name := "input", desc := "(III)Z" } : Jvm.MethodName) ({ cls := "MemoRuntimeModel", name := "input", desc := "(III)Z" } : Jvm.MethodName) ∈ lw_tbl := List.mem_append_right _ (List.mem_of_getElem? (i := 757) (by decide +kernel))
theorem wm_758 : Jvm.Cond.code ({ cls := "MemoRuntimeModel", name := "input", desc := "(III)Z" } : Jvm.MethodName) prog_10_method_10_code (4 : Nat) (Option.some Jvm.ClassFile.FieldType.boolean) ∈ lw_tbl := List.mem_append_right _ (List.mem_of_getElem? (i := 758) (by decide +kernel))
theorem wm_759 : Jvm.Cond.methodLink "MemoRuntimeModel" (102 : Nat) ({ cls := "MemoRuntimeModel", name := "noKey", desc := "(I)Z" } : Jvm.MethodName) ∈ lw_tbl := List.mem_append_right _ (List.mem_of_getElem? (i := 759) (by decide +kernel))
theorem wm_760 : Jvm.Cond.static ({ cls := "MemoRuntimeModel", name := "noKey", desc := "(I)Z" } : Jvm.MethodName) ∈ lw_tbl := List.mem_append_right _ (List.mem_of_getElem? (i := 760) (by decide +kernel))
theorem wm_761 : Jvm.Cond.code ({ cls := "MemoRuntimeModel", name := "noKey", desc := "(I)Z" } : Jvm.MethodName) prog_10_method_9_code (1 : Nat) (Option.some Jvm.ClassFile.FieldType.boolean) ∈ lw_tbl := List.mem_append_right _ (List.mem_of_getElem? (i := 761) (by decide +kernel))
theorem wm_762 : Jvm.Cond.methodLink "MemoRuntimeModel" (106 : Nat) ({ cls := "MemoRuntimeModel", name := "edit", desc := "(I)V" } : Jvm.MethodName) ∈ lw_tbl := List.mem_append_right _ (List.mem_of_getElem? (i := 762) (by decide +kernel))
theorem wm_764 : Jvm.Cond.instanceMethod ({ cls := "MemoRuntimeModel", name := "edit", desc := "(I)V" } : Jvm.MethodName) ∈ lw_tbl := List.mem_append_right _ (List.mem_of_getElem? (i := 764) (by decide +kernel))
theorem wm_765 : Jvm.Cond.code ({ cls := "MemoRuntimeModel", name := "edit", desc := "(I)V" } : Jvm.MethodName) prog_10_method_8_code (3 : Nat) (Option.none : Option Jvm.ClassFile.FieldType) ∈ lw_tbl := List.mem_append_right _ (List.mem_of_getElem? (i := 765) (by decide +kernel))
theorem wm_766 : Jvm.Cond.methodLink "MemoRuntimeLaw" (83 : Nat) ({ cls := "MemoRuntimeModel", name := "circle", desc := "(II)Z" } : Jvm.MethodName) ∈ lw_tbl := List.mem_append_right _ (List.mem_of_getElem? (i := 766) (by decide +kernel))
theorem wm_767 : Jvm.Cond.instanceMethod ({ cls := "MemoRuntimeModel", name := "circle", desc := "(II)Z" } : Jvm.MethodName) ∈ lw_tbl := List.mem_append_right _ (List.mem_of_getElem? (i := 767) (by decide +kernel))
theorem wm_768 : Jvm.Cond.selects "MemoRuntimeModel" ({ cls := "MemoRuntimeModel", name := "circle", desc := "(II)Z" } : Jvm.MethodName) ({ cls := "MemoRuntimeModel", name := "circle", desc := "(II)Z" } : Jvm.MethodName) ∈ lw_tbl := List.mem_append_right _ (List.mem_of_getElem? (i := 768) (by decide +kernel))
theorem wm_769 : Jvm.Cond.code ({ cls := "MemoRuntimeModel", name := "circle", desc := "(II)Z" } : Jvm.MethodName) prog_10_method_11_code (3 : Nat) (Option.some Jvm.ClassFile.FieldType.boolean) ∈ lw_tbl := List.mem_append_right _ (List.mem_of_getElem? (i := 769) (by decide +kernel))
theorem wm_770 : Jvm.Cond.methodLink "MemoRuntimeLaw" (87 : Nat) ({ cls := "MemoRuntimeModel", name := "level", desc := "(II)V" } : Jvm.MethodName) ∈ lw_tbl := List.mem_append_right _ (List.mem_of_getElem? (i := 770) (by decide +kernel))
theorem wm_771 : Jvm.Cond.instanceMethod ({ cls := "MemoRuntimeModel", name := "level", desc := "(II)V" } : Jvm.MethodName) ∈ lw_tbl := List.mem_append_right _ (List.mem_of_getElem? (i := 771) (by decide +kernel))
theorem wm_772 : Jvm.Cond.selects "MemoRuntimeModel" ({ cls := "MemoRuntimeModel", name := "level", desc := "(II)V" } : Jvm.MethodName) ({ cls := "MemoRuntimeModel", name := "level", desc := "(II)V" } : Jvm.MethodName) ∈ lw_tbl := List.mem_append_right _ (List.mem_of_getElem? (i := 772) (by decide +kernel))
theorem wm_773 : Jvm.Cond.code ({ cls := "MemoRuntimeModel", name := "level", desc := "(II)V" } : Jvm.MethodName) prog_10_method_12_code (3 : Nat) (Option.none : Option Jvm.ClassFile.FieldType) ∈ lw_tbl := List.mem_append_right _ (List.mem_of_getElem? (i := 773) (by decide +kernel))
theorem wm_774 : Jvm.Cond.methodLink "MemoRuntimeLaw" (90 : Nat) ({ cls := "MemoRuntimeModel", name := "demand", desc := "(II)I" } : Jvm.MethodName) ∈ lw_tbl := List.mem_append_right _ (List.mem_of_getElem? (i := 774) (by decide +kernel))
theorem wm_775 : Jvm.Cond.instanceMethod ({ cls := "MemoRuntimeModel", name := "demand", desc := "(II)I" } : Jvm.MethodName) ∈ lw_tbl := List.mem_append_right _ (List.mem_of_getElem? (i := 775) (by decide +kernel))
theorem wm_776 : Jvm.Cond.selects "MemoRuntimeModel" ({ cls := "MemoRuntimeModel", name := "demand", desc := "(II)I" } : Jvm.MethodName) ({ cls := "MemoRuntimeModel", name := "demand", desc := "(II)I" } : Jvm.MethodName) ∈ lw_tbl := List.mem_append_right _ (List.mem_of_getElem? (i := 776) (by decide +kernel))
theorem wm_777 : Jvm.Cond.code ({ cls := "MemoRuntimeModel", name := "demand", desc := "(II)I" } : Jvm.MethodName) prog_10_method_29_code (5 : Nat) (Option.some Jvm.ClassFile.FieldType.int) ∈ lw_tbl := List.mem_append_right _ (List.mem_of_getElem? (i := 777) (by decide +kernel))
theorem wm_778 : Jvm.Cond.methodLink "MemoRuntimeModel" (180 : Nat) ({ cls := "MemoRuntimeModel", name := "noCell", desc := "(II)Z" } : Jvm.MethodName) ∈ lw_tbl := List.mem_append_right _ (List.mem_of_getElem? (i := 778) (by decide +kernel))
theorem wm_779 : Jvm.Cond.static ({ cls := "MemoRuntimeModel", name := "noCell", desc := "(II)Z" } : Jvm.MethodName) ∈ lw_tbl := List.mem_append_right _ (List.mem_of_getElem? (i := 779) (by decide +kernel))
theorem wm_780 : Jvm.Cond.code ({ cls := "MemoRuntimeModel", name := "noCell", desc := "(II)Z" } : Jvm.MethodName) prog_10_method_25_code (2 : Nat) (Option.some Jvm.ClassFile.FieldType.boolean) ∈ lw_tbl := List.mem_append_right _ (List.mem_of_getElem? (i := 780) (by decide +kernel))
theorem wm_781 : Jvm.Cond.methodLink "MemoRuntimeModel" (138 : Nat) ({ cls := "MemoRuntimeModel", name := "isGood", desc := "(I)Z" } : Jvm.MethodName) ∈ lw_tbl := List.mem_append_right _ (List.mem_of_getElem? (i := 781) (by decide +kernel))
theorem wm_783 : Jvm.Cond.instanceMethod ({ cls := "MemoRuntimeModel", name := "isGood", desc := "(I)Z" } : Jvm.MethodName) ∈ lw_tbl := List.mem_append_right _ (List.mem_of_getElem? (i := 783) (by decide +kernel))
theorem wm_784 : Jvm.Cond.code ({ cls := "MemoRuntimeModel", name := "isGood", desc := "(I)Z" } : Jvm.MethodName) prog_10_method_17_code (2 : Nat) (Option.some Jvm.ClassFile.FieldType.boolean) ∈ lw_tbl := List.mem_append_right _ (List.mem_of_getElem? (i := 784) (by decide +kernel))
theorem wm_785 : Jvm.Cond.methodLink "MemoRuntimeModel" (122 : Nat) ({ cls := "MemoRuntimeModel", name := "isUnder", desc := "(I)Z" } : Jvm.MethodName) ∈ lw_tbl := List.mem_append_right _ (List.mem_of_getElem? (i := 785) (by decide +kernel))
theorem wm_787 : Jvm.Cond.instanceMethod ({ cls := "MemoRuntimeModel", name := "isUnder", desc := "(I)Z" } : Jvm.MethodName) ∈ lw_tbl := List.mem_append_right _ (List.mem_of_getElem? (i := 787) (by decide +kernel))
theorem wm_788 : Jvm.Cond.code ({ cls := "MemoRuntimeModel", name := "isUnder", desc := "(I)Z" } : Jvm.MethodName) prog_10_method_14_code (4 : Nat) (Option.some Jvm.ClassFile.FieldType.boolean) ∈ lw_tbl := List.mem_append_right _ (List.mem_of_getElem? (i := 788) (by decide +kernel))
theorem wm_789 : Jvm.Cond.methodLink "MemoRuntimeModel" (125 : Nat) ({ cls := "MemoRuntimeModel", name := "close", desc := "(I)V" } : Jvm.MethodName) ∈ lw_tbl := List.mem_append_right _ (List.mem_of_getElem? (i := 789) (by decide +kernel))
theorem wm_791 : Jvm.Cond.instanceMethod ({ cls := "MemoRuntimeModel", name := "close", desc := "(I)V" } : Jvm.MethodName) ∈ lw_tbl := List.mem_append_right _ (List.mem_of_getElem? (i := 791) (by decide +kernel))
theorem wm_792 : Jvm.Cond.code ({ cls := "MemoRuntimeModel", name := "close", desc := "(I)V" } : Jvm.MethodName) prog_10_method_16_code (5 : Nat) (Option.none : Option Jvm.ClassFile.FieldType) ∈ lw_tbl := List.mem_append_right _ (List.mem_of_getElem? (i := 792) (by decide +kernel))
theorem wm_793 : Jvm.Cond.methodLink "MemoRuntimeModel" (119 : Nat) ({ cls := "MemoRuntimeModel", name := "end", desc := "(I)V" } : Jvm.MethodName) ∈ lw_tbl := List.mem_append_right _ (List.mem_of_getElem? (i := 793) (by decide +kernel))
theorem wm_795 : Jvm.Cond.instanceMethod ({ cls := "MemoRuntimeModel", name := "end", desc := "(I)V" } : Jvm.MethodName) ∈ lw_tbl := List.mem_append_right _ (List.mem_of_getElem? (i := 795) (by decide +kernel))
theorem wm_796 : Jvm.Cond.code ({ cls := "MemoRuntimeModel", name := "end", desc := "(I)V" } : Jvm.MethodName) prog_10_method_13_code (2 : Nat) (Option.none : Option Jvm.ClassFile.FieldType) ∈ lw_tbl := List.mem_append_right _ (List.mem_of_getElem? (i := 796) (by decide +kernel))
theorem wm_797 : Jvm.Cond.methodLink "MemoRuntimeModel" (128 : Nat) ({ cls := "MemoRuntimeModel", name := "isUntouched", desc := "(I)Z" } : Jvm.MethodName) ∈ lw_tbl := List.mem_append_right _ (List.mem_of_getElem? (i := 797) (by decide +kernel))
theorem wm_799 : Jvm.Cond.instanceMethod ({ cls := "MemoRuntimeModel", name := "isUntouched", desc := "(I)Z" } : Jvm.MethodName) ∈ lw_tbl := List.mem_append_right _ (List.mem_of_getElem? (i := 799) (by decide +kernel))
theorem wm_800 : Jvm.Cond.code ({ cls := "MemoRuntimeModel", name := "isUntouched", desc := "(I)Z" } : Jvm.MethodName) prog_10_method_15_code (4 : Nat) (Option.some Jvm.ClassFile.FieldType.boolean) ∈ lw_tbl := List.mem_append_right _ (List.mem_of_getElem? (i := 800) (by decide +kernel))
theorem wm_801 : Jvm.Cond.methodLink "MemoRuntimeModel" (183 : Nat) ({ cls := "MemoRuntimeModel", name := "run", desc := "()V" } : Jvm.MethodName) ∈ lw_tbl := List.mem_append_right _ (List.mem_of_getElem? (i := 801) (by decide +kernel))
theorem wm_803 : Jvm.Cond.instanceMethod ({ cls := "MemoRuntimeModel", name := "run", desc := "()V" } : Jvm.MethodName) ∈ lw_tbl := List.mem_append_right _ (List.mem_of_getElem? (i := 803) (by decide +kernel))
theorem wm_804 : Jvm.Cond.code ({ cls := "MemoRuntimeModel", name := "run", desc := "()V" } : Jvm.MethodName) prog_10_method_24_code (4 : Nat) (Option.none : Option Jvm.ClassFile.FieldType) ∈ lw_tbl := List.mem_append_right _ (List.mem_of_getElem? (i := 804) (by decide +kernel))
theorem wm_805 : Jvm.Cond.methodLink "MemoRuntimeModel" (166 : Nat) ({ cls := "MemoRuntimeModel", name := "worksOut", desc := "(II)Z" } : Jvm.MethodName) ∈ lw_tbl := List.mem_append_right _ (List.mem_of_getElem? (i := 805) (by decide +kernel))
theorem wm_807 : Jvm.Cond.instanceMethod ({ cls := "MemoRuntimeModel", name := "worksOut", desc := "(II)Z" } : Jvm.MethodName) ∈ lw_tbl := List.mem_append_right _ (List.mem_of_getElem? (i := 807) (by decide +kernel))
theorem wm_808 : Jvm.Cond.code ({ cls := "MemoRuntimeModel", name := "worksOut", desc := "(II)Z" } : Jvm.MethodName) prog_10_method_23_code (7 : Nat) (Option.some Jvm.ClassFile.FieldType.boolean) ∈ lw_tbl := List.mem_append_right _ (List.mem_of_getElem? (i := 808) (by decide +kernel))
theorem wm_809 : Jvm.Cond.methodLink "MemoRuntimeModel" (163 : Nat) ({ cls := "MemoRuntimeModel", name := "hand", desc := "(II)I" } : Jvm.MethodName) ∈ lw_tbl := List.mem_append_right _ (List.mem_of_getElem? (i := 809) (by decide +kernel))
theorem wm_811 : Jvm.Cond.instanceMethod ({ cls := "MemoRuntimeModel", name := "hand", desc := "(II)I" } : Jvm.MethodName) ∈ lw_tbl := List.mem_append_right _ (List.mem_of_getElem? (i := 811) (by decide +kernel))
theorem wm_812 : Jvm.Cond.code ({ cls := "MemoRuntimeModel", name := "hand", desc := "(II)I" } : Jvm.MethodName) prog_10_method_22_code (7 : Nat) (Option.some Jvm.ClassFile.FieldType.int) ∈ lw_tbl := List.mem_append_right _ (List.mem_of_getElem? (i := 812) (by decide +kernel))
theorem wm_813 : Jvm.Cond.methodLink "MemoRuntimeModel" (156 : Nat) ({ cls := "MemoRuntimeModel", name := "note", desc := "(I)V" } : Jvm.MethodName) ∈ lw_tbl := List.mem_append_right _ (List.mem_of_getElem? (i := 813) (by decide +kernel))
theorem wm_815 : Jvm.Cond.instanceMethod ({ cls := "MemoRuntimeModel", name := "note", desc := "(I)V" } : Jvm.MethodName) ∈ lw_tbl := List.mem_append_right _ (List.mem_of_getElem? (i := 815) (by decide +kernel))
theorem wm_816 : Jvm.Cond.code ({ cls := "MemoRuntimeModel", name := "note", desc := "(I)V" } : Jvm.MethodName) prog_10_method_20_code (3 : Nat) (Option.none : Option Jvm.ClassFile.FieldType) ∈ lw_tbl := List.mem_append_right _ (List.mem_of_getElem? (i := 816) (by decide +kernel))
theorem wm_817 : Jvm.Cond.methodLink "MemoRuntimeModel" (159 : Nat) ({ cls := "MemoRuntimeModel", name := "behind", desc := "(II)I" } : Jvm.MethodName) ∈ lw_tbl := List.mem_append_right _ (List.mem_of_getElem? (i := 817) (by decide +kernel))
theorem wm_819 : Jvm.Cond.instanceMethod ({ cls := "MemoRuntimeModel", name := "behind", desc := "(II)I" } : Jvm.MethodName) ∈ lw_tbl := List.mem_append_right _ (List.mem_of_getElem? (i := 819) (by decide +kernel))
theorem wm_820 : Jvm.Cond.code ({ cls := "MemoRuntimeModel", name := "behind", desc := "(II)I" } : Jvm.MethodName) prog_10_method_21_code (5 : Nat) (Option.some Jvm.ClassFile.FieldType.int) ∈ lw_tbl := List.mem_append_right _ (List.mem_of_getElem? (i := 820) (by decide +kernel))
theorem wm_821 : Jvm.Cond.methodLink "MemoRuntimeModel" (141 : Nat) ({ cls := "MemoRuntimeModel", name := "classOf", desc := "(I)I" } : Jvm.MethodName) ∈ lw_tbl := List.mem_append_right _ (List.mem_of_getElem? (i := 821) (by decide +kernel))
theorem wm_823 : Jvm.Cond.instanceMethod ({ cls := "MemoRuntimeModel", name := "classOf", desc := "(I)I" } : Jvm.MethodName) ∈ lw_tbl := List.mem_append_right _ (List.mem_of_getElem? (i := 823) (by decide +kernel))
theorem wm_824 : Jvm.Cond.code ({ cls := "MemoRuntimeModel", name := "classOf", desc := "(I)I" } : Jvm.MethodName) prog_10_method_18_code (2 : Nat) (Option.some Jvm.ClassFile.FieldType.int) ∈ lw_tbl := List.mem_append_right _ (List.mem_of_getElem? (i := 824) (by decide +kernel))
theorem wm_825 : Jvm.Cond.methodLink "MemoRuntimeModel" (186 : Nat) ({ cls := "MemoRuntimeModel", name := "verify", desc := "()V" } : Jvm.MethodName) ∈ lw_tbl := List.mem_append_right _ (List.mem_of_getElem? (i := 825) (by decide +kernel))
theorem wm_827 : Jvm.Cond.instanceMethod ({ cls := "MemoRuntimeModel", name := "verify", desc := "()V" } : Jvm.MethodName) ∈ lw_tbl := List.mem_append_right _ (List.mem_of_getElem? (i := 827) (by decide +kernel))
theorem wm_828 : Jvm.Cond.code ({ cls := "MemoRuntimeModel", name := "verify", desc := "()V" } : Jvm.MethodName) prog_10_method_19_code (6 : Nat) (Option.none : Option Jvm.ClassFile.FieldType) ∈ lw_tbl := List.mem_append_right _ (List.mem_of_getElem? (i := 828) (by decide +kernel))
theorem wm_829 : Jvm.Cond.methodLink "MemoRuntimeModel" (189 : Nat) ({ cls := "MemoRuntimeModel", name := "shrink", desc := "()I" } : Jvm.MethodName) ∈ lw_tbl := List.mem_append_right _ (List.mem_of_getElem? (i := 829) (by decide +kernel))
theorem wm_831 : Jvm.Cond.instanceMethod ({ cls := "MemoRuntimeModel", name := "shrink", desc := "()I" } : Jvm.MethodName) ∈ lw_tbl := List.mem_append_right _ (List.mem_of_getElem? (i := 831) (by decide +kernel))
theorem wm_832 : Jvm.Cond.code ({ cls := "MemoRuntimeModel", name := "shrink", desc := "()I" } : Jvm.MethodName) prog_10_method_28_code (2 : Nat) (Option.some Jvm.ClassFile.FieldType.int) ∈ lw_tbl := List.mem_append_right _ (List.mem_of_getElem? (i := 832) (by decide +kernel))
theorem wm_833 : Jvm.Cond.methodLink "MemoRuntimeModel" (173 : Nat) ({ cls := "MemoRuntimeModel", name := "keptCells", desc := "()I" } : Jvm.MethodName) ∈ lw_tbl := List.mem_append_right _ (List.mem_of_getElem? (i := 833) (by decide +kernel))
theorem wm_835 : Jvm.Cond.instanceMethod ({ cls := "MemoRuntimeModel", name := "keptCells", desc := "()I" } : Jvm.MethodName) ∈ lw_tbl := List.mem_append_right _ (List.mem_of_getElem? (i := 835) (by decide +kernel))
theorem wm_836 : Jvm.Cond.code ({ cls := "MemoRuntimeModel", name := "keptCells", desc := "()I" } : Jvm.MethodName) prog_10_method_26_code (3 : Nat) (Option.some Jvm.ClassFile.FieldType.int) ∈ lw_tbl := List.mem_append_right _ (List.mem_of_getElem? (i := 836) (by decide +kernel))
theorem wm_837 : Jvm.Cond.methodLink "MemoRuntimeModel" (177 : Nat) ({ cls := "MemoRuntimeModel", name := "recentCell", desc := "(I)I" } : Jvm.MethodName) ∈ lw_tbl := List.mem_append_right _ (List.mem_of_getElem? (i := 837) (by decide +kernel))
theorem wm_839 : Jvm.Cond.instanceMethod ({ cls := "MemoRuntimeModel", name := "recentCell", desc := "(I)I" } : Jvm.MethodName) ∈ lw_tbl := List.mem_append_right _ (List.mem_of_getElem? (i := 839) (by decide +kernel))
theorem wm_840 : Jvm.Cond.code ({ cls := "MemoRuntimeModel", name := "recentCell", desc := "(I)I" } : Jvm.MethodName) prog_10_method_27_code (5 : Nat) (Option.some Jvm.ClassFile.FieldType.int) ∈ lw_tbl := List.mem_append_right _ (List.mem_of_getElem? (i := 840) (by decide +kernel))
theorem wm_841 : Jvm.Cond.methodLink "MemoRuntimeLaw" (94 : Nat) ({ cls := "MemoRuntimeModel", name := "count", desc := "(I)I" } : Jvm.MethodName) ∈ lw_tbl := List.mem_append_right _ (List.mem_of_getElem? (i := 841) (by decide +kernel))
theorem wm_842 : Jvm.Cond.instanceMethod ({ cls := "MemoRuntimeModel", name := "count", desc := "(I)I" } : Jvm.MethodName) ∈ lw_tbl := List.mem_append_right _ (List.mem_of_getElem? (i := 842) (by decide +kernel))
theorem wm_843 : Jvm.Cond.selects "MemoRuntimeModel" ({ cls := "MemoRuntimeModel", name := "count", desc := "(I)I" } : Jvm.MethodName) ({ cls := "MemoRuntimeModel", name := "count", desc := "(I)I" } : Jvm.MethodName) ∈ lw_tbl := List.mem_append_right _ (List.mem_of_getElem? (i := 843) (by decide +kernel))
theorem wm_844 : Jvm.Cond.code ({ cls := "MemoRuntimeModel", name := "count", desc := "(I)I" } : Jvm.MethodName) prog_10_method_30_code (2 : Nat) (Option.some Jvm.ClassFile.FieldType.int) ∈ lw_tbl := List.mem_append_right _ (List.mem_of_getElem? (i := 844) (by decide +kernel))
theorem wm_845 : Jvm.Cond.methodLink "MemoRuntimeLaw" (97 : Nat) ({ cls := "MemoRuntimeModel", name := "kept", desc := "(II)Z" } : Jvm.MethodName) ∈ lw_tbl := List.mem_append_right _ (List.mem_of_getElem? (i := 845) (by decide +kernel))
theorem wm_846 : Jvm.Cond.instanceMethod ({ cls := "MemoRuntimeModel", name := "kept", desc := "(II)Z" } : Jvm.MethodName) ∈ lw_tbl := List.mem_append_right _ (List.mem_of_getElem? (i := 846) (by decide +kernel))
theorem wm_847 : Jvm.Cond.selects "MemoRuntimeModel" ({ cls := "MemoRuntimeModel", name := "kept", desc := "(II)Z" } : Jvm.MethodName) ({ cls := "MemoRuntimeModel", name := "kept", desc := "(II)Z" } : Jvm.MethodName) ∈ lw_tbl := List.mem_append_right _ (List.mem_of_getElem? (i := 847) (by decide +kernel))
theorem wm_848 : Jvm.Cond.code ({ cls := "MemoRuntimeModel", name := "kept", desc := "(II)Z" } : Jvm.MethodName) prog_10_method_31_code (3 : Nat) (Option.some Jvm.ClassFile.FieldType.boolean) ∈ lw_tbl := List.mem_append_right _ (List.mem_of_getElem? (i := 848) (by decide +kernel))
theorem wm_849 : Jvm.Cond.methodLink "MemoRuntimeLaw" (100 : Nat) ({ cls := "MemoRuntimeModel", name := "cell", desc := "(III)I" } : Jvm.MethodName) ∈ lw_tbl := List.mem_append_right _ (List.mem_of_getElem? (i := 849) (by decide +kernel))
theorem wm_850 : Jvm.Cond.instanceMethod ({ cls := "MemoRuntimeModel", name := "cell", desc := "(III)I" } : Jvm.MethodName) ∈ lw_tbl := List.mem_append_right _ (List.mem_of_getElem? (i := 850) (by decide +kernel))
theorem wm_851 : Jvm.Cond.selects "MemoRuntimeModel" ({ cls := "MemoRuntimeModel", name := "cell", desc := "(III)I" } : Jvm.MethodName) ({ cls := "MemoRuntimeModel", name := "cell", desc := "(III)I" } : Jvm.MethodName) ∈ lw_tbl := List.mem_append_right _ (List.mem_of_getElem? (i := 851) (by decide +kernel))
theorem wm_852 : Jvm.Cond.code ({ cls := "MemoRuntimeModel", name := "cell", desc := "(III)I" } : Jvm.MethodName) prog_10_method_32_code (5 : Nat) (Option.some Jvm.ClassFile.FieldType.int) ∈ lw_tbl := List.mem_append_right _ (List.mem_of_getElem? (i := 852) (by decide +kernel))
theorem wm_853 : Jvm.Cond.methodLink "MemoRuntimeLaw" (103 : Nat) ({ cls := "MemoRuntimeModel", name := "read", desc := "(III)I" } : Jvm.MethodName) ∈ lw_tbl := List.mem_append_right _ (List.mem_of_getElem? (i := 853) (by decide +kernel))
theorem wm_854 : Jvm.Cond.instanceMethod ({ cls := "MemoRuntimeModel", name := "read", desc := "(III)I" } : Jvm.MethodName) ∈ lw_tbl := List.mem_append_right _ (List.mem_of_getElem? (i := 854) (by decide +kernel))
theorem wm_855 : Jvm.Cond.selects "MemoRuntimeModel" ({ cls := "MemoRuntimeModel", name := "read", desc := "(III)I" } : Jvm.MethodName) ({ cls := "MemoRuntimeModel", name := "read", desc := "(III)I" } : Jvm.MethodName) ∈ lw_tbl := List.mem_append_right _ (List.mem_of_getElem? (i := 855) (by decide +kernel))
theorem wm_856 : Jvm.Cond.code ({ cls := "MemoRuntimeModel", name := "read", desc := "(III)I" } : Jvm.MethodName) prog_10_method_33_code (5 : Nat) (Option.some Jvm.ClassFile.FieldType.int) ∈ lw_tbl := List.mem_append_right _ (List.mem_of_getElem? (i := 856) (by decide +kernel))
theorem wm_857 : Jvm.Cond.methodLink "MemoRuntimeLaw" (107 : Nat) ({ cls := "MemoRuntimeModel", name := "recent", desc := "(I)I" } : Jvm.MethodName) ∈ lw_tbl := List.mem_append_right _ (List.mem_of_getElem? (i := 857) (by decide +kernel))
theorem wm_858 : Jvm.Cond.instanceMethod ({ cls := "MemoRuntimeModel", name := "recent", desc := "(I)I" } : Jvm.MethodName) ∈ lw_tbl := List.mem_append_right _ (List.mem_of_getElem? (i := 858) (by decide +kernel))
theorem wm_859 : Jvm.Cond.selects "MemoRuntimeModel" ({ cls := "MemoRuntimeModel", name := "recent", desc := "(I)I" } : Jvm.MethodName) ({ cls := "MemoRuntimeModel", name := "recent", desc := "(I)I" } : Jvm.MethodName) ∈ lw_tbl := List.mem_append_right _ (List.mem_of_getElem? (i := 859) (by decide +kernel))
theorem wm_860 : Jvm.Cond.code ({ cls := "MemoRuntimeModel", name := "recent", desc := "(I)I" } : Jvm.MethodName) prog_10_method_34_code (2 : Nat) (Option.some Jvm.ClassFile.FieldType.int) ∈ lw_tbl := List.mem_append_right _ (List.mem_of_getElem? (i := 860) (by decide +kernel))
theorem wm_861 : Jvm.Cond.methodLink "MemoRuntimeLaw" (110 : Nat) ({ cls := "MemoRuntimeModel", name := "bound", desc := "(I)I" } : Jvm.MethodName) ∈ lw_tbl := List.mem_append_right _ (List.mem_of_getElem? (i := 861) (by decide +kernel))
theorem wm_862 : Jvm.Cond.instanceMethod ({ cls := "MemoRuntimeModel", name := "bound", desc := "(I)I" } : Jvm.MethodName) ∈ lw_tbl := List.mem_append_right _ (List.mem_of_getElem? (i := 862) (by decide +kernel))
theorem wm_863 : Jvm.Cond.selects "MemoRuntimeModel" ({ cls := "MemoRuntimeModel", name := "bound", desc := "(I)I" } : Jvm.MethodName) ({ cls := "MemoRuntimeModel", name := "bound", desc := "(I)I" } : Jvm.MethodName) ∈ lw_tbl := List.mem_append_right _ (List.mem_of_getElem? (i := 863) (by decide +kernel))
theorem wm_864 : Jvm.Cond.code ({ cls := "MemoRuntimeModel", name := "bound", desc := "(I)I" } : Jvm.MethodName) prog_10_method_35_code (2 : Nat) (Option.some Jvm.ClassFile.FieldType.int) ∈ lw_tbl := List.mem_append_right _ (List.mem_of_getElem? (i := 864) (by decide +kernel))
theorem wm_865 : Jvm.Cond.methodLink "MemoRuntimeLaw" (113 : Nat) ({ cls := "MemoRuntimeModel", name := "drop", desc := "(II)Z" } : Jvm.MethodName) ∈ lw_tbl := List.mem_append_right _ (List.mem_of_getElem? (i := 865) (by decide +kernel))
theorem wm_866 : Jvm.Cond.instanceMethod ({ cls := "MemoRuntimeModel", name := "drop", desc := "(II)Z" } : Jvm.MethodName) ∈ lw_tbl := List.mem_append_right _ (List.mem_of_getElem? (i := 866) (by decide +kernel))
theorem wm_867 : Jvm.Cond.selects "MemoRuntimeModel" ({ cls := "MemoRuntimeModel", name := "drop", desc := "(II)Z" } : Jvm.MethodName) ({ cls := "MemoRuntimeModel", name := "drop", desc := "(II)Z" } : Jvm.MethodName) ∈ lw_tbl := List.mem_append_right _ (List.mem_of_getElem? (i := 867) (by decide +kernel))
theorem wm_868 : Jvm.Cond.code ({ cls := "MemoRuntimeModel", name := "drop", desc := "(II)Z" } : Jvm.MethodName) prog_10_method_36_code (4 : Nat) (Option.some Jvm.ClassFile.FieldType.boolean) ∈ lw_tbl := List.mem_append_right _ (List.mem_of_getElem? (i := 868) (by decide +kernel))
theorem wm_869 : Jvm.Cond.constantLong "MemoRuntimeLaw" (55 : Nat) (4294967295 : Int64) ∈ lw_tbl := List.mem_append_right _ (List.mem_of_getElem? (i := 869) (by decide +kernel))
theorem wm_870 : Jvm.Cond.arrayClass Jvm.ClassFile.FieldType.long ∈ lw_tbl := List.mem_append_right _ (List.mem_of_getElem? (i := 870) (by decide +kernel))
