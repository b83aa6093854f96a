/-! the words of the tables that a callee may take over, and the nest's -/
def mm_good (w : Cond) : Bool := (w.onTables && w.keeps) || (match w with
  | .arrayClass _ => true
  | _ => false)
def mm_T : List Cond := lw_tbl.filter mm_good
def mm_nest (w : Cond) : Bool := match w with
  | .fieldLinkNest .. => true
  | .methodLinkNest .. => true
  | _ => false
def mm_N : List Cond := lw_tbl.filter mm_nest
theorem tw_of {i : Nat} {w : Cond} (h : tables_1[i]? = some w) (hg : mm_good w = true) : w ∈ mm_T := List.mem_filter.mpr ⟨List.mem_append_right _ (List.mem_of_getElem? h), hg⟩
theorem tw_n {i : Nat} {w : Cond} (h : tables_1[i]? = some w) (hg : mm_nest w = true) : w ∈ mm_N := List.mem_filter.mpr ⟨List.mem_append_right _ (List.mem_of_getElem? h), hg⟩
theorem tw_s {i : Nat} {q : MethodName × Nat} (h : lw_privs[i]? = some q) : Cond.selects q.1.cls q.1 q.1 ∈ mm_T := List.mem_filter.mpr ⟨List.mem_append_left _ (List.mem_map.mpr ⟨q, List.mem_of_getElem? h, rfl⟩), rfl⟩
theorem tw_0 : (Jvm.Cond.initialized "PatternBenchLaw") ∈ mm_T := tw_of (i := 0) (by decide +kernel) rfl
theorem tw_1 : (Jvm.Cond.initialized "PatternBench") ∈ mm_T := tw_of (i := 1) (by decide +kernel) rfl
theorem tw_2 : (Jvm.Cond.initialized "PatternBench$Reader") ∈ mm_T := tw_of (i := 2) (by decide +kernel) rfl
theorem tw_3 : (Jvm.Cond.initialized "PatternBench$Text") ∈ mm_T := tw_of (i := 3) (by decide +kernel) rfl
theorem tw_4 : (Jvm.Cond.initialized "PatternBench$Program") ∈ mm_T := tw_of (i := 4) (by decide +kernel) rfl
theorem tw_5 : (Jvm.Cond.initialized "PatternBench$Matcher") ∈ mm_T := tw_of (i := 5) (by decide +kernel) rfl
theorem tw_6 : (Jvm.Cond.initialized "java/lang/Math") ∈ mm_T := tw_of (i := 6) (by decide +kernel) rfl
theorem tw_7 : (Jvm.Cond.initialized "PatternBench$Frames") ∈ mm_T := tw_of (i := 7) (by decide +kernel) rfl
theorem tw_8 : (Jvm.Cond.initialized "PatternBench$Choices") ∈ mm_T := tw_of (i := 8) (by decide +kernel) rfl
theorem tw_9 : (Jvm.Cond.initialized "PatternBenchModel") ∈ mm_T := tw_of (i := 9) (by decide +kernel) rfl
theorem tw_10 : (Jvm.Cond.initialized "java/lang/String") ∈ mm_T := tw_of (i := 10) (by decide +kernel) rfl
theorem tw_11 : (Jvm.Cond.initialized "java/lang/StringLatin1") ∈ mm_T := tw_of (i := 11) (by decide +kernel) rfl
theorem tw_12 : (Jvm.Cond.initialized "java/lang/StringUTF16") ∈ mm_T := tw_of (i := 12) (by decide +kernel) rfl
theorem tw_13 : (Jvm.Cond.initialized "jdk/internal/util/Preconditions") ∈ mm_T := tw_of (i := 13) (by decide +kernel) rfl
theorem tw_14 : (Jvm.Cond.initialized "java/lang/Character") ∈ mm_T := tw_of (i := 14) (by decide +kernel) rfl
theorem tw_15 : (Jvm.Cond.initialized "PatternBench$Captures") ∈ mm_T := tw_of (i := 15) (by decide +kernel) rfl
theorem tw_16 : (Jvm.Cond.classLink "PatternBenchLaw" (7 : Nat) "PatternBench") ∈ mm_T := tw_of (i := 16) (by decide +kernel) rfl
theorem tw_17 : (Jvm.Cond.instantiable "PatternBench" (8 : Nat)) ∈ mm_T := tw_of (i := 17) (by decide +kernel) rfl
theorem tw_18 : (Jvm.Cond.methodLink "PatternBenchLaw" (15 : Nat) ({ cls := "PatternBench", name := "<init>", desc := "(I)V" } : Jvm.MethodName)) ∈ mm_T := tw_of (i := 18) (by decide +kernel) rfl
theorem tw_19 : (Jvm.Cond.instanceMethod ({ cls := "PatternBench", name := "<init>", desc := "(I)V" } : Jvm.MethodName)) ∈ mm_T := tw_of (i := 19) (by decide +kernel) rfl
theorem tw_20 : (Jvm.Cond.code ({ cls := "PatternBench", name := "<init>", desc := "(I)V" } : Jvm.MethodName) prog_1_method_1_code (2 : Nat) (Option.none : Option Jvm.ClassFile.FieldType)) ∈ mm_T := tw_of (i := 20) (by decide +kernel) rfl
theorem tw_21 : (Jvm.Cond.methodLink "PatternBench" (1 : Nat) ({ cls := "java/lang/Object", name := "<init>", desc := "()V" } : Jvm.MethodName)) ∈ mm_T := tw_of (i := 21) (by decide +kernel) rfl
theorem tw_22 : (Jvm.Cond.instanceMethod ({ cls := "java/lang/Object", name := "<init>", desc := "()V" } : Jvm.MethodName)) ∈ mm_T := tw_of (i := 22) (by decide +kernel) rfl
theorem tw_23 : (Jvm.Cond.code ({ cls := "java/lang/Object", name := "<init>", desc := "()V" } : Jvm.MethodName) object_method_1_code (1 : Nat) (Option.none : Option Jvm.ClassFile.FieldType)) ∈ mm_T := tw_of (i := 23) (by decide +kernel) rfl
theorem tw_24 : (Jvm.Cond.classLink "PatternBench" (7 : Nat) "PatternBench$Reader") ∈ mm_T := tw_of (i := 24) (by decide +kernel) rfl
theorem tw_25 : (Jvm.Cond.instantiable "PatternBench$Reader" (11 : Nat)) ∈ mm_T := tw_of (i := 25) (by decide +kernel) rfl
theorem tw_26 : (Jvm.Cond.methodLinkNest "PatternBench" (9 : Nat) ({ cls := "PatternBench$Reader", name := "<init>", desc := "()V" } : Jvm.MethodName) "PatternBench") ∈ mm_N := tw_n (i := 26) (by decide +kernel) rfl
theorem tw_27 : (Jvm.Cond.instanceMethod ({ cls := "PatternBench$Reader", name := "<init>", desc := "()V" } : Jvm.MethodName)) ∈ mm_T := tw_of (i := 27) (by decide +kernel) rfl
theorem tw_28 : (Jvm.Cond.code ({ cls := "PatternBench$Reader", name := "<init>", desc := "()V" } : Jvm.MethodName) prog_7_method_1_code (1 : Nat) (Option.none : Option Jvm.ClassFile.FieldType)) ∈ mm_T := tw_of (i := 28) (by decide +kernel) rfl
theorem tw_29 : (Jvm.Cond.methodLink "PatternBench$Reader" (3 : Nat) ({ cls := "java/lang/Object", name := "<init>", desc := "()V" } : Jvm.MethodName)) ∈ mm_T := tw_of (i := 29) (by decide +kernel) rfl
theorem tw_30 : (Jvm.Cond.classLink "PatternBench$Reader" (9 : Nat) "PatternBench$Text") ∈ mm_T := tw_of (i := 30) (by decide +kernel) rfl
theorem tw_31 : (Jvm.Cond.instantiable "PatternBench$Text" (2 : Nat)) ∈ mm_T := tw_of (i := 31) (by decide +kernel) rfl
theorem tw_32 : (Jvm.Cond.methodLink "PatternBench$Reader" (11 : Nat) ({ cls := "PatternBench$Text", name := "<init>", desc := "(I)V" } : Jvm.MethodName)) ∈ mm_T := tw_of (i := 32) (by decide +kernel) rfl
theorem tw_33 : (Jvm.Cond.instanceMethod ({ cls := "PatternBench$Text", name := "<init>", desc := "(I)V" } : Jvm.MethodName)) ∈ mm_T := tw_of (i := 33) (by decide +kernel) rfl
theorem tw_34 : (Jvm.Cond.code ({ cls := "PatternBench$Text", name := "<init>", desc := "(I)V" } : Jvm.MethodName) prog_8_method_1_code (2 : Nat) (Option.none : Option Jvm.ClassFile.FieldType)) ∈ mm_T := tw_of (i := 34) (by decide +kernel) rfl
theorem tw_35 : (Jvm.Cond.methodLink "PatternBench$Text" (3 : Nat) ({ cls := "java/lang/Object", name := "<init>", desc := "()V" } : Jvm.MethodName)) ∈ mm_T := tw_of (i := 35) (by decide +kernel) rfl
theorem tw_36 : (Jvm.Cond.fieldLink "PatternBench$Text" (15 : Nat) "PatternBench$Text" "codes" "[I") ∈ mm_T := tw_of (i := 36) (by decide +kernel) rfl
theorem tw_37 : (Jvm.Cond.fieldLink "PatternBench$Matcher" (181 : Nat) "PatternBench$Text" "codes" "[I") ∈ mm_T := tw_of (i := 37) (by decide +kernel) rfl
theorem tw_38 : (Jvm.Cond.fieldLink "PatternBench$Text" (9 : Nat) "PatternBench$Text" "length" "I") ∈ mm_T := tw_of (i := 38) (by decide +kernel) rfl
theorem tw_39 : (Jvm.Cond.fieldLink "PatternBench$Matcher" (64 : Nat) "PatternBench$Text" "length" "I") ∈ mm_T := tw_of (i := 39) (by decide +kernel) rfl
theorem tw_40 : (Jvm.Cond.fieldLink "PatternBench$Reader" (67 : Nat) "PatternBench$Text" "length" "I") ∈ mm_T := tw_of (i := 40) (by decide +kernel) rfl
theorem tw_41 : (Jvm.Cond.fieldLink "PatternBench" (76 : Nat) "PatternBench$Text" "length" "I") ∈ mm_T := tw_of (i := 41) (by decide +kernel) rfl
theorem tw_42 : (Jvm.Cond.laysFinal "PatternBench$Text" "PatternBench$Text" "codes" "[I") ∈ mm_T := tw_of (i := 42) (by decide +kernel) rfl
theorem tw_44 : (Jvm.Cond.lays "PatternBench$Text" "PatternBench$Text" "length" "I") ∈ mm_T := tw_of (i := 44) (by decide +kernel) rfl
theorem tw_47 : (Jvm.Cond.arrayClass Jvm.ClassFile.FieldType.int) ∈ mm_T := tw_of (i := 47) (by decide +kernel) rfl
theorem tw_48 : (Jvm.Cond.classLink "PatternBench$Reader" (20 : Nat) "PatternBench$Program") ∈ mm_T := tw_of (i := 48) (by decide +kernel) rfl
theorem tw_49 : (Jvm.Cond.instantiable "PatternBench$Program" (14 : Nat)) ∈ mm_T := tw_of (i := 49) (by decide +kernel) rfl
theorem tw_50 : (Jvm.Cond.methodLinkNest "PatternBench$Reader" (22 : Nat) ({ cls := "PatternBench$Program", name := "<init>", desc := "()V" } : Jvm.MethodName) "PatternBench") ∈ mm_N := tw_n (i := 50) (by decide +kernel) rfl
theorem tw_51 : (Jvm.Cond.instanceMethod ({ cls := "PatternBench$Program", name := "<init>", desc := "()V" } : Jvm.MethodName)) ∈ mm_T := tw_of (i := 51) (by decide +kernel) rfl
theorem tw_52 : (Jvm.Cond.code ({ cls := "PatternBench$Program", name := "<init>", desc := "()V" } : Jvm.MethodName) prog_6_method_1_code (1 : Nat) (Option.none : Option Jvm.ClassFile.FieldType)) ∈ mm_T := tw_of (i := 52) (by decide +kernel) rfl
theorem tw_53 : (Jvm.Cond.methodLink "PatternBench$Program" (3 : Nat) ({ cls := "java/lang/Object", name := "<init>", desc := "()V" } : Jvm.MethodName)) ∈ mm_T := tw_of (i := 53) (by decide +kernel) rfl
theorem tw_54 : (Jvm.Cond.fieldLink "PatternBench$Program" (9 : Nat) "PatternBench$Program" "kind" "[I") ∈ mm_T := tw_of (i := 54) (by decide +kernel) rfl
theorem tw_55 : (Jvm.Cond.fieldLink "PatternBench$Matcher" (163 : Nat) "PatternBench$Program" "kind" "[I") ∈ mm_T := tw_of (i := 55) (by decide +kernel) rfl
theorem tw_56 : (Jvm.Cond.fieldLink "PatternBench$Program" (15 : Nat) "PatternBench$Program" "value" "[I") ∈ mm_T := tw_of (i := 56) (by decide +kernel) rfl
theorem tw_57 : (Jvm.Cond.fieldLink "PatternBench$Matcher" (169 : Nat) "PatternBench$Program" "value" "[I") ∈ mm_T := tw_of (i := 57) (by decide +kernel) rfl
theorem tw_58 : (Jvm.Cond.fieldLink "PatternBench$Program" (18 : Nat) "PatternBench$Program" "repeat" "[I") ∈ mm_T := tw_of (i := 58) (by decide +kernel) rfl
theorem tw_59 : (Jvm.Cond.fieldLink "PatternBench$Matcher" (131 : Nat) "PatternBench$Program" "repeat" "[I") ∈ mm_T := tw_of (i := 59) (by decide +kernel) rfl
theorem tw_60 : (Jvm.Cond.fieldLink "PatternBench$Reader" (168 : Nat) "PatternBench$Program" "repeat" "[I") ∈ mm_T := tw_of (i := 60) (by decide +kernel) rfl
theorem tw_61 : (Jvm.Cond.fieldLink "PatternBench$Program" (21 : Nat) "PatternBench$Program" "times" "[I") ∈ mm_T := tw_of (i := 61) (by decide +kernel) rfl
theorem tw_62 : (Jvm.Cond.fieldLink "PatternBench$Matcher" (149 : Nat) "PatternBench$Program" "times" "[I") ∈ mm_T := tw_of (i := 62) (by decide +kernel) rfl
theorem tw_63 : (Jvm.Cond.fieldLink "PatternBench$Reader" (165 : Nat) "PatternBench$Program" "times" "[I") ∈ mm_T := tw_of (i := 63) (by decide +kernel) rfl
theorem tw_64 : (Jvm.Cond.fieldLink "PatternBench$Program" (24 : Nat) "PatternBench$Program" "manner" "[I") ∈ mm_T := tw_of (i := 64) (by decide +kernel) rfl
theorem tw_65 : (Jvm.Cond.fieldLink "PatternBench$Matcher" (137 : Nat) "PatternBench$Program" "manner" "[I") ∈ mm_T := tw_of (i := 65) (by decide +kernel) rfl
theorem tw_66 : (Jvm.Cond.fieldLink "PatternBench$Reader" (171 : Nat) "PatternBench$Program" "manner" "[I") ∈ mm_T := tw_of (i := 66) (by decide +kernel) rfl
theorem tw_67 : (Jvm.Cond.fieldLink "PatternBench$Program" (27 : Nat) "PatternBench$Program" "body" "[I") ∈ mm_T := tw_of (i := 67) (by decide +kernel) rfl
theorem tw_68 : (Jvm.Cond.fieldLink "PatternBench$Reader" (131 : Nat) "PatternBench$Program" "body" "[I") ∈ mm_T := tw_of (i := 68) (by decide +kernel) rfl
theorem tw_69 : (Jvm.Cond.fieldLink "PatternBench$Matcher" (200 : Nat) "PatternBench$Program" "body" "[I") ∈ mm_T := tw_of (i := 69) (by decide +kernel) rfl
theorem tw_70 : (Jvm.Cond.fieldLink "PatternBench$Program" (30 : Nat) "PatternBench$Program" "nextItem" "[I") ∈ mm_T := tw_of (i := 70) (by decide +kernel) rfl
theorem tw_71 : (Jvm.Cond.fieldLink "PatternBench$Matcher" (134 : Nat) "PatternBench$Program" "nextItem" "[I") ∈ mm_T := tw_of (i := 71) (by decide +kernel) rfl
theorem tw_72 : (Jvm.Cond.fieldLink "PatternBench$Reader" (155 : Nat) "PatternBench$Program" "nextItem" "[I") ∈ mm_T := tw_of (i := 72) (by decide +kernel) rfl
theorem tw_73 : (Jvm.Cond.fieldLink "PatternBench$Program" (33 : Nat) "PatternBench$Program" "firstItem" "[I") ∈ mm_T := tw_of (i := 73) (by decide +kernel) rfl
theorem tw_74 : (Jvm.Cond.fieldLink "PatternBench$Matcher" (128 : Nat) "PatternBench$Program" "firstItem" "[I") ∈ mm_T := tw_of (i := 74) (by decide +kernel) rfl
theorem tw_75 : (Jvm.Cond.fieldLink "PatternBench$Reader" (152 : Nat) "PatternBench$Program" "firstItem" "[I") ∈ mm_T := tw_of (i := 75) (by decide +kernel) rfl
theorem tw_76 : (Jvm.Cond.fieldLink "PatternBench$Program" (36 : Nat) "PatternBench$Program" "nextRow" "[I") ∈ mm_T := tw_of (i := 76) (by decide +kernel) rfl
theorem tw_77 : (Jvm.Cond.fieldLink "PatternBench$Matcher" (121 : Nat) "PatternBench$Program" "nextRow" "[I") ∈ mm_T := tw_of (i := 77) (by decide +kernel) rfl
theorem tw_78 : (Jvm.Cond.fieldLink "PatternBench$Reader" (118 : Nat) "PatternBench$Program" "nextRow" "[I") ∈ mm_T := tw_of (i := 78) (by decide +kernel) rfl
theorem tw_79 : (Jvm.Cond.fieldLink "PatternBench$Program" (39 : Nat) "PatternBench$Program" "groupBody" "[I") ∈ mm_T := tw_of (i := 79) (by decide +kernel) rfl
theorem tw_80 : (Jvm.Cond.fieldLink "PatternBench$Reader" (64 : Nat) "PatternBench$Program" "groupBody" "[I") ∈ mm_T := tw_of (i := 80) (by decide +kernel) rfl
theorem tw_81 : (Jvm.Cond.fieldLink "PatternBench$Matcher" (84 : Nat) "PatternBench$Program" "groupBody" "[I") ∈ mm_T := tw_of (i := 81) (by decide +kernel) rfl
theorem tw_82 : (Jvm.Cond.fieldLink "PatternBench$Program" (42 : Nat) "PatternBench$Program" "items" "I") ∈ mm_T := tw_of (i := 82) (by decide +kernel) rfl
theorem tw_83 : (Jvm.Cond.fieldLink "PatternBench$Program" (46 : Nat) "PatternBench$Program" "rows" "I") ∈ mm_T := tw_of (i := 83) (by decide +kernel) rfl
theorem tw_84 : (Jvm.Cond.fieldLink "PatternBench$Program" (49 : Nat) "PatternBench$Program" "groups" "I") ∈ mm_T := tw_of (i := 84) (by decide +kernel) rfl
theorem tw_85 : (Jvm.Cond.fieldLink "PatternBench$Reader" (80 : Nat) "PatternBench$Program" "groups" "I") ∈ mm_T := tw_of (i := 85) (by decide +kernel) rfl
theorem tw_86 : (Jvm.Cond.fieldLink "PatternBench" (89 : Nat) "PatternBench$Program" "groups" "I") ∈ mm_T := tw_of (i := 86) (by decide +kernel) rfl
theorem tw_87 : (Jvm.Cond.fieldLink "PatternBench$Program" (52 : Nat) "PatternBench$Program" "size" "I") ∈ mm_T := tw_of (i := 87) (by decide +kernel) rfl
theorem tw_88 : (Jvm.Cond.fieldLink "PatternBench$Reader" (77 : Nat) "PatternBench$Program" "size" "I") ∈ mm_T := tw_of (i := 88) (by decide +kernel) rfl
theorem tw_89 : (Jvm.Cond.fieldLink "PatternBench" (83 : Nat) "PatternBench$Program" "size" "I") ∈ mm_T := tw_of (i := 89) (by decide +kernel) rfl
theorem tw_90 : (Jvm.Cond.laysFinal "PatternBench$Program" "PatternBench$Program" "kind" "[I") ∈ mm_T := tw_of (i := 90) (by decide +kernel) rfl
theorem tw_92 : (Jvm.Cond.laysFinal "PatternBench$Program" "PatternBench$Program" "value" "[I") ∈ mm_T := tw_of (i := 92) (by decide +kernel) rfl
theorem tw_94 : (Jvm.Cond.laysFinal "PatternBench$Program" "PatternBench$Program" "repeat" "[I") ∈ mm_T := tw_of (i := 94) (by decide +kernel) rfl
theorem tw_96 : (Jvm.Cond.laysFinal "PatternBench$Program" "PatternBench$Program" "times" "[I") ∈ mm_T := tw_of (i := 96) (by decide +kernel) rfl
theorem tw_98 : (Jvm.Cond.laysFinal "PatternBench$Program" "PatternBench$Program" "manner" "[I") ∈ mm_T := tw_of (i := 98) (by decide +kernel) rfl
theorem tw_100 : (Jvm.Cond.laysFinal "PatternBench$Program" "PatternBench$Program" "body" "[I") ∈ mm_T := tw_of (i := 100) (by decide +kernel) rfl
theorem tw_102 : (Jvm.Cond.laysFinal "PatternBench$Program" "PatternBench$Program" "nextItem" "[I") ∈ mm_T := tw_of (i := 102) (by decide +kernel) rfl
theorem tw_104 : (Jvm.Cond.laysFinal "PatternBench$Program" "PatternBench$Program" "firstItem" "[I") ∈ mm_T := tw_of (i := 104) (by decide +kernel) rfl
theorem tw_106 : (Jvm.Cond.laysFinal "PatternBench$Program" "PatternBench$Program" "nextRow" "[I") ∈ mm_T := tw_of (i := 106) (by decide +kernel) rfl
theorem tw_108 : (Jvm.Cond.laysFinal "PatternBench$Program" "PatternBench$Program" "groupBody" "[I") ∈ mm_T := tw_of (i := 108) (by decide +kernel) rfl
theorem tw_110 : (Jvm.Cond.lays "PatternBench$Program" "PatternBench$Program" "items" "I") ∈ mm_T := tw_of (i := 110) (by decide +kernel) rfl
theorem tw_112 : (Jvm.Cond.lays "PatternBench$Program" "PatternBench$Program" "rows" "I") ∈ mm_T := tw_of (i := 112) (by decide +kernel) rfl
theorem tw_114 : (Jvm.Cond.lays "PatternBench$Program" "PatternBench$Program" "groups" "I") ∈ mm_T := tw_of (i := 114) (by decide +kernel) rfl
theorem tw_116 : (Jvm.Cond.lays "PatternBench$Program" "PatternBench$Program" "size" "I") ∈ mm_T := tw_of (i := 116) (by decide +kernel) rfl
theorem tw_119 : (Jvm.Cond.fieldLink "PatternBench$Reader" (14 : Nat) "PatternBench$Reader" "text" "LPatternBench$Text;") ∈ mm_T := tw_of (i := 119) (by decide +kernel) rfl
theorem tw_120 : (Jvm.Cond.fieldLink "PatternBench" (59 : Nat) "PatternBench$Reader" "text" "LPatternBench$Text;") ∈ mm_T := tw_of (i := 120) (by decide +kernel) rfl
theorem tw_121 : (Jvm.Cond.fieldLink "PatternBench$Reader" (23 : Nat) "PatternBench$Reader" "program" "LPatternBench$Program;") ∈ mm_T := tw_of (i := 121) (by decide +kernel) rfl
theorem tw_122 : (Jvm.Cond.fieldLink "PatternBench" (79 : Nat) "PatternBench$Reader" "program" "LPatternBench$Program;") ∈ mm_T := tw_of (i := 122) (by decide +kernel) rfl
theorem tw_123 : (Jvm.Cond.fieldLink "PatternBench$Reader" (27 : Nat) "PatternBench$Reader" "levelItem" "[I") ∈ mm_T := tw_of (i := 123) (by decide +kernel) rfl
theorem tw_124 : (Jvm.Cond.fieldLink "PatternBench$Reader" (31 : Nat) "PatternBench$Reader" "levelRow" "[I") ∈ mm_T := tw_of (i := 124) (by decide +kernel) rfl
theorem tw_125 : (Jvm.Cond.fieldLink "PatternBench$Reader" (34 : Nat) "PatternBench$Reader" "levelLast" "[I") ∈ mm_T := tw_of (i := 125) (by decide +kernel) rfl
theorem tw_126 : (Jvm.Cond.fieldLink "PatternBench$Reader" (37 : Nat) "PatternBench$Reader" "levelSize" "[I") ∈ mm_T := tw_of (i := 126) (by decide +kernel) rfl
theorem tw_127 : (Jvm.Cond.fieldLink "PatternBench$Reader" (40 : Nat) "PatternBench$Reader" "level" "I") ∈ mm_T := tw_of (i := 127) (by decide +kernel) rfl
theorem tw_128 : (Jvm.Cond.fieldLink "PatternBench$Reader" (44 : Nat) "PatternBench$Reader" "at" "I") ∈ mm_T := tw_of (i := 128) (by decide +kernel) rfl
theorem tw_129 : (Jvm.Cond.fieldLink "PatternBench$Reader" (47 : Nat) "PatternBench$Reader" "atomSize" "I") ∈ mm_T := tw_of (i := 129) (by decide +kernel) rfl
theorem tw_130 : (Jvm.Cond.fieldLink "PatternBench$Reader" (50 : Nat) "PatternBench$Reader" "highestNamed" "I") ∈ mm_T := tw_of (i := 130) (by decide +kernel) rfl
theorem tw_131 : (Jvm.Cond.fieldLink "PatternBench$Reader" (53 : Nat) "PatternBench$Reader" "isGood" "Z") ∈ mm_T := tw_of (i := 131) (by decide +kernel) rfl
theorem tw_132 : (Jvm.Cond.laysFinal "PatternBench$Reader" "PatternBench$Reader" "text" "LPatternBench$Text;") ∈ mm_T := tw_of (i := 132) (by decide +kernel) rfl
theorem tw_134 : (Jvm.Cond.lays "PatternBench$Reader" "PatternBench$Reader" "program" "LPatternBench$Program;") ∈ mm_T := tw_of (i := 134) (by decide +kernel) rfl
theorem tw_136 : (Jvm.Cond.laysFinal "PatternBench$Reader" "PatternBench$Reader" "levelItem" "[I") ∈ mm_T := tw_of (i := 136) (by decide +kernel) rfl
theorem tw_138 : (Jvm.Cond.laysFinal "PatternBench$Reader" "PatternBench$Reader" "levelRow" "[I") ∈ mm_T := tw_of (i := 138) (by decide +kernel) rfl
theorem tw_140 : (Jvm.Cond.laysFinal "PatternBench$Reader" "PatternBench$Reader" "levelLast" "[I") ∈ mm_T := tw_of (i := 140) (by decide +kernel) rfl
theorem tw_142 : (Jvm.Cond.laysFinal "PatternBench$Reader" "PatternBench$Reader" "levelSize" "[I") ∈ mm_T := tw_of (i := 142) (by decide +kernel) rfl
theorem tw_144 : (Jvm.Cond.lays "PatternBench$Reader" "PatternBench$Reader" "level" "I") ∈ mm_T := tw_of (i := 144) (by decide +kernel) rfl
theorem tw_146 : (Jvm.Cond.lays "PatternBench$Reader" "PatternBench$Reader" "at" "I") ∈ mm_T := tw_of (i := 146) (by decide +kernel) rfl
theorem tw_148 : (Jvm.Cond.lays "PatternBench$Reader" "PatternBench$Reader" "atomSize" "I") ∈ mm_T := tw_of (i := 148) (by decide +kernel) rfl
theorem tw_150 : (Jvm.Cond.lays "PatternBench$Reader" "PatternBench$Reader" "highestNamed" "I") ∈ mm_T := tw_of (i := 150) (by decide +kernel) rfl
theorem tw_152 : (Jvm.Cond.lays "PatternBench$Reader" "PatternBench$Reader" "isGood" "Z") ∈ mm_T := tw_of (i := 152) (by decide +kernel) rfl
theorem tw_155 : (Jvm.Cond.classLink "PatternBench" (37 : Nat) "PatternBench$Matcher") ∈ mm_T := tw_of (i := 155) (by decide +kernel) rfl
theorem tw_156 : (Jvm.Cond.instantiable "PatternBench$Matcher" (11 : Nat)) ∈ mm_T := tw_of (i := 156) (by decide +kernel) rfl
theorem tw_157 : (Jvm.Cond.methodLink "PatternBench" (39 : Nat) ({ cls := "java/lang/Math", name := "min", desc := "(II)I" } : Jvm.MethodName)) ∈ mm_T := tw_of (i := 157) (by decide +kernel) rfl
theorem tw_158 : (Jvm.Cond.static ({ cls := "java/lang/Math", name := "min", desc := "(II)I" } : Jvm.MethodName)) ∈ mm_T := tw_of (i := 158) (by decide +kernel) rfl
theorem tw_159 : (Jvm.Cond.code ({ cls := "java/lang/Math", name := "min", desc := "(II)I" } : Jvm.MethodName) prog_12_method_69_code (2 : Nat) (Option.some Jvm.ClassFile.FieldType.int)) ∈ mm_T := tw_of (i := 159) (by decide +kernel) rfl
theorem tw_160 : (Jvm.Cond.methodLink "PatternBench" (45 : Nat) ({ cls := "java/lang/Math", name := "max", desc := "(II)I" } : Jvm.MethodName)) ∈ mm_T := tw_of (i := 160) (by decide +kernel) rfl
theorem tw_161 : (Jvm.Cond.static ({ cls := "java/lang/Math", name := "max", desc := "(II)I" } : Jvm.MethodName)) ∈ mm_T := tw_of (i := 161) (by decide +kernel) rfl
theorem tw_162 : (Jvm.Cond.code ({ cls := "java/lang/Math", name := "max", desc := "(II)I" } : Jvm.MethodName) prog_12_method_65_code (2 : Nat) (Option.some Jvm.ClassFile.FieldType.int)) ∈ mm_T := tw_of (i := 162) (by decide +kernel) rfl
theorem tw_163 : (Jvm.Cond.methodLink "PatternBench" (48 : Nat) ({ cls := "PatternBench$Matcher", name := "<init>", desc := "(I)V" } : Jvm.MethodName)) ∈ mm_T := tw_of (i := 163) (by decide +kernel) rfl
theorem tw_164 : (Jvm.Cond.instanceMethod ({ cls := "PatternBench$Matcher", name := "<init>", desc := "(I)V" } : Jvm.MethodName)) ∈ mm_T := tw_of (i := 164) (by decide +kernel) rfl
theorem tw_165 : (Jvm.Cond.code ({ cls := "PatternBench$Matcher", name := "<init>", desc := "(I)V" } : Jvm.MethodName) prog_5_method_1_code (2 : Nat) (Option.none : Option Jvm.ClassFile.FieldType)) ∈ mm_T := tw_of (i := 165) (by decide +kernel) rfl
theorem tw_166 : (Jvm.Cond.methodLink "PatternBench$Matcher" (3 : Nat) ({ cls := "java/lang/Object", name := "<init>", desc := "()V" } : Jvm.MethodName)) ∈ mm_T := tw_of (i := 166) (by decide +kernel) rfl
theorem tw_167 : (Jvm.Cond.classLink "PatternBench$Matcher" (9 : Nat) "PatternBench$Text") ∈ mm_T := tw_of (i := 167) (by decide +kernel) rfl
theorem tw_168 : (Jvm.Cond.methodLink "PatternBench$Matcher" (11 : Nat) ({ cls := "PatternBench$Text", name := "<init>", desc := "(I)V" } : Jvm.MethodName)) ∈ mm_T := tw_of (i := 168) (by decide +kernel) rfl
theorem tw_169 : (Jvm.Cond.classLink "PatternBench$Matcher" (20 : Nat) "PatternBench$Program") ∈ mm_T := tw_of (i := 169) (by decide +kernel) rfl
theorem tw_170 : (Jvm.Cond.methodLinkNest "PatternBench$Matcher" (22 : Nat) ({ cls := "PatternBench$Program", name := "<init>", desc := "()V" } : Jvm.MethodName) "PatternBench") ∈ mm_N := tw_n (i := 170) (by decide +kernel) rfl
theorem tw_171 : (Jvm.Cond.classLink "PatternBench$Matcher" (50 : Nat) "PatternBench$Frames") ∈ mm_T := tw_of (i := 171) (by decide +kernel) rfl
theorem tw_172 : (Jvm.Cond.instantiable "PatternBench$Frames" (8 : Nat)) ∈ mm_T := tw_of (i := 172) (by decide +kernel) rfl
theorem tw_173 : (Jvm.Cond.methodLink "PatternBench$Matcher" (52 : Nat) ({ cls := "PatternBench$Frames", name := "<init>", desc := "(I)V" } : Jvm.MethodName)) ∈ mm_T := tw_of (i := 173) (by decide +kernel) rfl
theorem tw_174 : (Jvm.Cond.instanceMethod ({ cls := "PatternBench$Frames", name := "<init>", desc := "(I)V" } : Jvm.MethodName)) ∈ mm_T := tw_of (i := 174) (by decide +kernel) rfl
theorem tw_175 : (Jvm.Cond.code ({ cls := "PatternBench$Frames", name := "<init>", desc := "(I)V" } : Jvm.MethodName) prog_4_method_1_code (2 : Nat) (Option.none : Option Jvm.ClassFile.FieldType)) ∈ mm_T := tw_of (i := 175) (by decide +kernel) rfl
theorem tw_176 : (Jvm.Cond.methodLink "PatternBench$Frames" (1 : Nat) ({ cls := "java/lang/Object", name := "<init>", desc := "()V" } : Jvm.MethodName)) ∈ mm_T := tw_of (i := 176) (by decide +kernel) rfl
theorem tw_177 : (Jvm.Cond.fieldLink "PatternBench$Frames" (13 : Nat) "PatternBench$Frames" "kind" "[I") ∈ mm_T := tw_of (i := 177) (by decide +kernel) rfl
theorem tw_178 : (Jvm.Cond.fieldLink "PatternBench$Matcher" (209 : Nat) "PatternBench$Frames" "kind" "[I") ∈ mm_T := tw_of (i := 178) (by decide +kernel) rfl
theorem tw_179 : (Jvm.Cond.fieldLink "PatternBench$Frames" (17 : Nat) "PatternBench$Frames" "item" "[I") ∈ mm_T := tw_of (i := 179) (by decide +kernel) rfl
theorem tw_180 : (Jvm.Cond.fieldLink "PatternBench$Matcher" (203 : Nat) "PatternBench$Frames" "item" "[I") ∈ mm_T := tw_of (i := 180) (by decide +kernel) rfl
theorem tw_181 : (Jvm.Cond.fieldLink "PatternBench$Frames" (20 : Nat) "PatternBench$Frames" "mark" "[I") ∈ mm_T := tw_of (i := 181) (by decide +kernel) rfl
theorem tw_182 : (Jvm.Cond.fieldLink "PatternBench$Matcher" (218 : Nat) "PatternBench$Frames" "mark" "[I") ∈ mm_T := tw_of (i := 182) (by decide +kernel) rfl
theorem tw_183 : (Jvm.Cond.fieldLink "PatternBench$Frames" (23 : Nat) "PatternBench$Frames" "place" "[I") ∈ mm_T := tw_of (i := 183) (by decide +kernel) rfl
theorem tw_184 : (Jvm.Cond.fieldLink "PatternBench$Matcher" (214 : Nat) "PatternBench$Frames" "place" "[I") ∈ mm_T := tw_of (i := 184) (by decide +kernel) rfl
theorem tw_185 : (Jvm.Cond.fieldLink "PatternBench$Frames" (26 : Nat) "PatternBench$Frames" "captures" "[J") ∈ mm_T := tw_of (i := 185) (by decide +kernel) rfl
theorem tw_186 : (Jvm.Cond.fieldLink "PatternBench$Matcher" (213 : Nat) "PatternBench$Frames" "captures" "[J") ∈ mm_T := tw_of (i := 186) (by decide +kernel) rfl
theorem tw_187 : (Jvm.Cond.fieldLink "PatternBench$Frames" (30 : Nat) "PatternBench$Frames" "outer" "[I") ∈ mm_T := tw_of (i := 187) (by decide +kernel) rfl
theorem tw_188 : (Jvm.Cond.fieldLink "PatternBench$Matcher" (206 : Nat) "PatternBench$Frames" "outer" "[I") ∈ mm_T := tw_of (i := 188) (by decide +kernel) rfl
theorem tw_189 : (Jvm.Cond.fieldLink "PatternBench$Frames" (33 : Nat) "PatternBench$Frames" "calls" "[I") ∈ mm_T := tw_of (i := 189) (by decide +kernel) rfl
theorem tw_190 : (Jvm.Cond.fieldLink "PatternBench$Matcher" (197 : Nat) "PatternBench$Frames" "calls" "[I") ∈ mm_T := tw_of (i := 190) (by decide +kernel) rfl
theorem tw_191 : (Jvm.Cond.fieldLink "PatternBench$Frames" (7 : Nat) "PatternBench$Frames" "used" "I") ∈ mm_T := tw_of (i := 191) (by decide +kernel) rfl
theorem tw_192 : (Jvm.Cond.laysFinal "PatternBench$Frames" "PatternBench$Frames" "kind" "[I") ∈ mm_T := tw_of (i := 192) (by decide +kernel) rfl
theorem tw_194 : (Jvm.Cond.laysFinal "PatternBench$Frames" "PatternBench$Frames" "item" "[I") ∈ mm_T := tw_of (i := 194) (by decide +kernel) rfl
theorem tw_196 : (Jvm.Cond.laysFinal "PatternBench$Frames" "PatternBench$Frames" "mark" "[I") ∈ mm_T := tw_of (i := 196) (by decide +kernel) rfl
theorem tw_198 : (Jvm.Cond.laysFinal "PatternBench$Frames" "PatternBench$Frames" "place" "[I") ∈ mm_T := tw_of (i := 198) (by decide +kernel) rfl
theorem tw_200 : (Jvm.Cond.laysFinal "PatternBench$Frames" "PatternBench$Frames" "captures" "[J") ∈ mm_T := tw_of (i := 200) (by decide +kernel) rfl
theorem tw_202 : (Jvm.Cond.laysFinal "PatternBench$Frames" "PatternBench$Frames" "outer" "[I") ∈ mm_T := tw_of (i := 202) (by decide +kernel) rfl
theorem tw_204 : (Jvm.Cond.laysFinal "PatternBench$Frames" "PatternBench$Frames" "calls" "[I") ∈ mm_T := tw_of (i := 204) (by decide +kernel) rfl
theorem tw_206 : (Jvm.Cond.lays "PatternBench$Frames" "PatternBench$Frames" "used" "I") ∈ mm_T := tw_of (i := 206) (by decide +kernel) rfl
theorem tw_209 : (Jvm.Cond.arrayClass Jvm.ClassFile.FieldType.long) ∈ mm_T := tw_of (i := 209) (by decide +kernel) rfl
theorem tw_210 : (Jvm.Cond.classLink "PatternBench$Matcher" (57 : Nat) "PatternBench$Choices") ∈ mm_T := tw_of (i := 210) (by decide +kernel) rfl
theorem tw_211 : (Jvm.Cond.instantiable "PatternBench$Choices" (6 : Nat)) ∈ mm_T := tw_of (i := 211) (by decide +kernel) rfl
theorem tw_212 : (Jvm.Cond.methodLink "PatternBench$Matcher" (59 : Nat) ({ cls := "PatternBench$Choices", name := "<init>", desc := "(I)V" } : Jvm.MethodName)) ∈ mm_T := tw_of (i := 212) (by decide +kernel) rfl
theorem tw_213 : (Jvm.Cond.instanceMethod ({ cls := "PatternBench$Choices", name := "<init>", desc := "(I)V" } : Jvm.MethodName)) ∈ mm_T := tw_of (i := 213) (by decide +kernel) rfl
theorem tw_214 : (Jvm.Cond.code ({ cls := "PatternBench$Choices", name := "<init>", desc := "(I)V" } : Jvm.MethodName) prog_3_method_1_code (2 : Nat) (Option.none : Option Jvm.ClassFile.FieldType)) ∈ mm_T := tw_of (i := 214) (by decide +kernel) rfl
theorem tw_215 : (Jvm.Cond.methodLink "PatternBench$Choices" (1 : Nat) ({ cls := "java/lang/Object", name := "<init>", desc := "()V" } : Jvm.MethodName)) ∈ mm_T := tw_of (i := 215) (by decide +kernel) rfl
theorem tw_216 : (Jvm.Cond.fieldLink "PatternBench$Choices" (13 : Nat) "PatternBench$Choices" "task" "[I") ∈ mm_T := tw_of (i := 216) (by decide +kernel) rfl
theorem tw_217 : (Jvm.Cond.fieldLink "PatternBench$Matcher" (159 : Nat) "PatternBench$Choices" "task" "[I") ∈ mm_T := tw_of (i := 217) (by decide +kernel) rfl
theorem tw_218 : (Jvm.Cond.fieldLink "PatternBench$Choices" (17 : Nat) "PatternBench$Choices" "number" "[I") ∈ mm_T := tw_of (i := 218) (by decide +kernel) rfl
theorem tw_219 : (Jvm.Cond.fieldLink "PatternBench$Matcher" (161 : Nat) "PatternBench$Choices" "number" "[I") ∈ mm_T := tw_of (i := 219) (by decide +kernel) rfl
theorem tw_220 : (Jvm.Cond.fieldLink "PatternBench$Choices" (20 : Nat) "PatternBench$Choices" "place" "[I") ∈ mm_T := tw_of (i := 220) (by decide +kernel) rfl
theorem tw_221 : (Jvm.Cond.fieldLink "PatternBench$Matcher" (152 : Nat) "PatternBench$Choices" "place" "[I") ∈ mm_T := tw_of (i := 221) (by decide +kernel) rfl
theorem tw_222 : (Jvm.Cond.fieldLink "PatternBench$Choices" (23 : Nat) "PatternBench$Choices" "captures" "[J") ∈ mm_T := tw_of (i := 222) (by decide +kernel) rfl
theorem tw_223 : (Jvm.Cond.fieldLink "PatternBench$Matcher" (154 : Nat) "PatternBench$Choices" "captures" "[J") ∈ mm_T := tw_of (i := 223) (by decide +kernel) rfl
theorem tw_224 : (Jvm.Cond.fieldLink "PatternBench$Choices" (27 : Nat) "PatternBench$Choices" "frame" "[I") ∈ mm_T := tw_of (i := 224) (by decide +kernel) rfl
theorem tw_225 : (Jvm.Cond.fieldLink "PatternBench$Matcher" (157 : Nat) "PatternBench$Choices" "frame" "[I") ∈ mm_T := tw_of (i := 225) (by decide +kernel) rfl
theorem tw_226 : (Jvm.Cond.fieldLink "PatternBench$Choices" (7 : Nat) "PatternBench$Choices" "used" "I") ∈ mm_T := tw_of (i := 226) (by decide +kernel) rfl
theorem tw_227 : (Jvm.Cond.fieldLink "PatternBench$Matcher" (140 : Nat) "PatternBench$Choices" "used" "I") ∈ mm_T := tw_of (i := 227) (by decide +kernel) rfl
theorem tw_228 : (Jvm.Cond.laysFinal "PatternBench$Choices" "PatternBench$Choices" "task" "[I") ∈ mm_T := tw_of (i := 228) (by decide +kernel) rfl
theorem tw_230 : (Jvm.Cond.laysFinal "PatternBench$Choices" "PatternBench$Choices" "number" "[I") ∈ mm_T := tw_of (i := 230) (by decide +kernel) rfl
theorem tw_232 : (Jvm.Cond.laysFinal "PatternBench$Choices" "PatternBench$Choices" "place" "[I") ∈ mm_T := tw_of (i := 232) (by decide +kernel) rfl
theorem tw_234 : (Jvm.Cond.laysFinal "PatternBench$Choices" "PatternBench$Choices" "captures" "[J") ∈ mm_T := tw_of (i := 234) (by decide +kernel) rfl
theorem tw_236 : (Jvm.Cond.laysFinal "PatternBench$Choices" "PatternBench$Choices" "frame" "[I") ∈ mm_T := tw_of (i := 236) (by decide +kernel) rfl
theorem tw_238 : (Jvm.Cond.lays "PatternBench$Choices" "PatternBench$Choices" "used" "I") ∈ mm_T := tw_of (i := 238) (by decide +kernel) rfl
theorem tw_241 : (Jvm.Cond.fieldLink "PatternBench$Matcher" (14 : Nat) "PatternBench$Matcher" "subject" "LPatternBench$Text;") ∈ mm_T := tw_of (i := 241) (by decide +kernel) rfl
theorem tw_242 : (Jvm.Cond.fieldLink "PatternBench" (95 : Nat) "PatternBench$Matcher" "subject" "LPatternBench$Text;") ∈ mm_T := tw_of (i := 242) (by decide +kernel) rfl
theorem tw_243 : (Jvm.Cond.fieldLink "PatternBench$Matcher" (23 : Nat) "PatternBench$Matcher" "program" "LPatternBench$Program;") ∈ mm_T := tw_of (i := 243) (by decide +kernel) rfl
theorem tw_244 : (Jvm.Cond.fieldLink "PatternBench" (88 : Nat) "PatternBench$Matcher" "program" "LPatternBench$Program;") ∈ mm_T := tw_of (i := 244) (by decide +kernel) rfl
theorem tw_245 : (Jvm.Cond.fieldLink "PatternBench$Matcher" (47 : Nat) "PatternBench$Matcher" "limit" "I") ∈ mm_T := tw_of (i := 245) (by decide +kernel) rfl
theorem tw_246 : (Jvm.Cond.fieldLink "PatternBench$Matcher" (53 : Nat) "PatternBench$Matcher" "frames" "LPatternBench$Frames;") ∈ mm_T := tw_of (i := 246) (by decide +kernel) rfl
theorem tw_247 : (Jvm.Cond.fieldLink "PatternBench$Matcher" (60 : Nat) "PatternBench$Matcher" "choices" "LPatternBench$Choices;") ∈ mm_T := tw_of (i := 247) (by decide +kernel) rfl
theorem tw_248 : (Jvm.Cond.fieldLink "PatternBench$Matcher" (27 : Nat) "PatternBench$Matcher" "task" "I") ∈ mm_T := tw_of (i := 248) (by decide +kernel) rfl
theorem tw_249 : (Jvm.Cond.fieldLink "PatternBench$Matcher" (31 : Nat) "PatternBench$Matcher" "number" "I") ∈ mm_T := tw_of (i := 249) (by decide +kernel) rfl
theorem tw_250 : (Jvm.Cond.fieldLink "PatternBench$Matcher" (34 : Nat) "PatternBench$Matcher" "frame" "I") ∈ mm_T := tw_of (i := 250) (by decide +kernel) rfl
theorem tw_251 : (Jvm.Cond.fieldLink "PatternBench$Matcher" (37 : Nat) "PatternBench$Matcher" "place" "I") ∈ mm_T := tw_of (i := 251) (by decide +kernel) rfl
theorem tw_252 : (Jvm.Cond.fieldLink "PatternBench" (117 : Nat) "PatternBench$Matcher" "place" "I") ∈ mm_T := tw_of (i := 252) (by decide +kernel) rfl
theorem tw_253 : (Jvm.Cond.fieldLink "PatternBench$Matcher" (40 : Nat) "PatternBench$Matcher" "captures" "J") ∈ mm_T := tw_of (i := 253) (by decide +kernel) rfl
theorem tw_254 : (Jvm.Cond.fieldLink "PatternBench" (120 : Nat) "PatternBench$Matcher" "captures" "J") ∈ mm_T := tw_of (i := 254) (by decide +kernel) rfl
theorem tw_255 : (Jvm.Cond.fieldLink "PatternBench$Matcher" (44 : Nat) "PatternBench$Matcher" "taken" "I") ∈ mm_T := tw_of (i := 255) (by decide +kernel) rfl
theorem tw_256 : (Jvm.Cond.fieldLink "PatternBench" (123 : Nat) "PatternBench$Matcher" "taken" "I") ∈ mm_T := tw_of (i := 256) (by decide +kernel) rfl
theorem tw_257 : (Jvm.Cond.laysFinal "PatternBench$Matcher" "PatternBench$Matcher" "subject" "LPatternBench$Text;") ∈ mm_T := tw_of (i := 257) (by decide +kernel) rfl
theorem tw_259 : (Jvm.Cond.lays "PatternBench$Matcher" "PatternBench$Matcher" "program" "LPatternBench$Program;") ∈ mm_T := tw_of (i := 259) (by decide +kernel) rfl
theorem tw_261 : (Jvm.Cond.laysFinal "PatternBench$Matcher" "PatternBench$Matcher" "limit" "I") ∈ mm_T := tw_of (i := 261) (by decide +kernel) rfl
theorem tw_263 : (Jvm.Cond.laysFinal "PatternBench$Matcher" "PatternBench$Matcher" "frames" "LPatternBench$Frames;") ∈ mm_T := tw_of (i := 263) (by decide +kernel) rfl
theorem tw_265 : (Jvm.Cond.laysFinal "PatternBench$Matcher" "PatternBench$Matcher" "choices" "LPatternBench$Choices;") ∈ mm_T := tw_of (i := 265) (by decide +kernel) rfl
theorem tw_267 : (Jvm.Cond.lays "PatternBench$Matcher" "PatternBench$Matcher" "task" "I") ∈ mm_T := tw_of (i := 267) (by decide +kernel) rfl
theorem tw_269 : (Jvm.Cond.lays "PatternBench$Matcher" "PatternBench$Matcher" "number" "I") ∈ mm_T := tw_of (i := 269) (by decide +kernel) rfl
theorem tw_271 : (Jvm.Cond.lays "PatternBench$Matcher" "PatternBench$Matcher" "frame" "I") ∈ mm_T := tw_of (i := 271) (by decide +kernel) rfl
theorem tw_273 : (Jvm.Cond.lays "PatternBench$Matcher" "PatternBench$Matcher" "place" "I") ∈ mm_T := tw_of (i := 273) (by decide +kernel) rfl
theorem tw_275 : (Jvm.Cond.lays "PatternBench$Matcher" "PatternBench$Matcher" "captures" "J") ∈ mm_T := tw_of (i := 275) (by decide +kernel) rfl
theorem tw_277 : (Jvm.Cond.lays "PatternBench$Matcher" "PatternBench$Matcher" "taken" "I") ∈ mm_T := tw_of (i := 277) (by decide +kernel) rfl
theorem tw_280 : (Jvm.Cond.fieldLink "PatternBench" (10 : Nat) "PatternBench" "reader" "LPatternBench$Reader;") ∈ mm_T := tw_of (i := 280) (by decide +kernel) rfl
theorem tw_281 : (Jvm.Cond.fieldLink "PatternBench" (51 : Nat) "PatternBench" "matcher" "LPatternBench$Matcher;") ∈ mm_T := tw_of (i := 281) (by decide +kernel) rfl
theorem tw_282 : (Jvm.Cond.fieldLink "PatternBench" (16 : Nat) "PatternBench" "isReady" "Z") ∈ mm_T := tw_of (i := 282) (by decide +kernel) rfl
theorem tw_283 : (Jvm.Cond.fieldLink "PatternBench" (20 : Nat) "PatternBench" "isMatched" "Z") ∈ mm_T := tw_of (i := 283) (by decide +kernel) rfl
theorem tw_284 : (Jvm.Cond.fieldLink "PatternBench" (23 : Nat) "PatternBench" "matchStart" "I") ∈ mm_T := tw_of (i := 284) (by decide +kernel) rfl
theorem tw_285 : (Jvm.Cond.fieldLink "PatternBench" (27 : Nat) "PatternBench" "matchEnd" "I") ∈ mm_T := tw_of (i := 285) (by decide +kernel) rfl
theorem tw_286 : (Jvm.Cond.fieldLink "PatternBench" (30 : Nat) "PatternBench" "matchCaptures" "J") ∈ mm_T := tw_of (i := 286) (by decide +kernel) rfl
theorem tw_287 : (Jvm.Cond.fieldLink "PatternBench" (34 : Nat) "PatternBench" "lastSteps" "I") ∈ mm_T := tw_of (i := 287) (by decide +kernel) rfl
theorem tw_288 : (Jvm.Cond.laysFinal "PatternBench" "PatternBench" "reader" "LPatternBench$Reader;") ∈ mm_T := tw_of (i := 288) (by decide +kernel) rfl
theorem tw_290 : (Jvm.Cond.laysFinal "PatternBench" "PatternBench" "matcher" "LPatternBench$Matcher;") ∈ mm_T := tw_of (i := 290) (by decide +kernel) rfl
theorem tw_292 : (Jvm.Cond.lays "PatternBench" "PatternBench" "isReady" "Z") ∈ mm_T := tw_of (i := 292) (by decide +kernel) rfl
theorem tw_294 : (Jvm.Cond.lays "PatternBench" "PatternBench" "isMatched" "Z") ∈ mm_T := tw_of (i := 294) (by decide +kernel) rfl
theorem tw_296 : (Jvm.Cond.lays "PatternBench" "PatternBench" "matchStart" "I") ∈ mm_T := tw_of (i := 296) (by decide +kernel) rfl
theorem tw_298 : (Jvm.Cond.lays "PatternBench" "PatternBench" "matchEnd" "I") ∈ mm_T := tw_of (i := 298) (by decide +kernel) rfl
theorem tw_300 : (Jvm.Cond.lays "PatternBench" "PatternBench" "matchCaptures" "J") ∈ mm_T := tw_of (i := 300) (by decide +kernel) rfl
theorem tw_302 : (Jvm.Cond.lays "PatternBench" "PatternBench" "lastSteps" "I") ∈ mm_T := tw_of (i := 302) (by decide +kernel) rfl
theorem tw_305 : (Jvm.Cond.methodLink "PatternBenchLaw" (21 : Nat) ({ cls := "PatternBench", name := "write", desc := "(I)I" } : Jvm.MethodName)) ∈ mm_T := tw_of (i := 305) (by decide +kernel) rfl
theorem tw_306 : (Jvm.Cond.instanceMethod ({ cls := "PatternBench", name := "write", desc := "(I)I" } : Jvm.MethodName)) ∈ mm_T := tw_of (i := 306) (by decide +kernel) rfl
theorem tw_307 : (Jvm.Cond.selects "PatternBench" ({ cls := "PatternBench", name := "write", desc := "(I)I" } : Jvm.MethodName) ({ cls := "PatternBench", name := "write", desc := "(I)I" } : Jvm.MethodName)) ∈ mm_T := tw_of (i := 307) (by decide +kernel) rfl
theorem tw_308 : (Jvm.Cond.code ({ cls := "PatternBench", name := "write", desc := "(I)I" } : Jvm.MethodName) prog_1_method_2_code (2 : Nat) (Option.some Jvm.ClassFile.FieldType.int)) ∈ mm_T := tw_of (i := 308) (by decide +kernel) rfl
theorem tw_309 : (Jvm.Cond.methodLink "PatternBench" (55 : Nat) ({ cls := "PatternBench", name := "mayStandInPattern", desc := "(I)Z" } : Jvm.MethodName)) ∈ mm_T := tw_of (i := 309) (by decide +kernel) rfl
theorem tw_310 : (Jvm.Cond.static ({ cls := "PatternBench", name := "mayStandInPattern", desc := "(I)Z" } : Jvm.MethodName)) ∈ mm_T := tw_of (i := 310) (by decide +kernel) rfl
theorem tw_311 : (Jvm.Cond.code ({ cls := "PatternBench", name := "mayStandInPattern", desc := "(I)Z" } : Jvm.MethodName) prog_1_method_17_code (1 : Nat) (Option.some Jvm.ClassFile.FieldType.boolean)) ∈ mm_T := tw_of (i := 311) (by decide +kernel) rfl
theorem tw_312 : (Jvm.Cond.methodLink "PatternBench" (92 : Nat) ({ cls := "PatternBench", name := "isLetter", desc := "(I)Z" } : Jvm.MethodName)) ∈ mm_T := tw_of (i := 312) (by decide +kernel) rfl
theorem tw_313 : (Jvm.Cond.static ({ cls := "PatternBench", name := "isLetter", desc := "(I)Z" } : Jvm.MethodName)) ∈ mm_T := tw_of (i := 313) (by decide +kernel) rfl
theorem tw_314 : (Jvm.Cond.code ({ cls := "PatternBench", name := "isLetter", desc := "(I)Z" } : Jvm.MethodName) prog_1_method_15_code (1 : Nat) (Option.some Jvm.ClassFile.FieldType.boolean)) ∈ mm_T := tw_of (i := 314) (by decide +kernel) rfl
theorem tw_315 : (Jvm.Cond.methodLink "PatternBench" (126 : Nat) ({ cls := "PatternBench", name := "isDigit", desc := "(I)Z" } : Jvm.MethodName)) ∈ mm_T := tw_of (i := 315) (by decide +kernel) rfl
theorem tw_316 : (Jvm.Cond.static ({ cls := "PatternBench", name := "isDigit", desc := "(I)Z" } : Jvm.MethodName)) ∈ mm_T := tw_of (i := 316) (by decide +kernel) rfl
theorem tw_317 : (Jvm.Cond.code ({ cls := "PatternBench", name := "isDigit", desc := "(I)Z" } : Jvm.MethodName) prog_1_method_16_code (1 : Nat) (Option.some Jvm.ClassFile.FieldType.boolean)) ∈ mm_T := tw_of (i := 317) (by decide +kernel) rfl
theorem tw_319 : (Jvm.Cond.methodLink "PatternBench" (131 : Nat) ({ cls := "java/lang/String", name := "indexOf", desc := "(I)I" } : Jvm.MethodName)) ∈ mm_T := tw_of (i := 319) (by decide +kernel) rfl
theorem tw_320 : (Jvm.Cond.instanceMethod ({ cls := "java/lang/String", name := "indexOf", desc := "(I)I" } : Jvm.MethodName)) ∈ mm_T := tw_of (i := 320) (by decide +kernel) rfl
theorem tw_321 : (Jvm.Cond.selects "java/lang/String" ({ cls := "java/lang/String", name := "indexOf", desc := "(I)I" } : Jvm.MethodName) ({ cls := "java/lang/String", name := "indexOf", desc := "(I)I" } : Jvm.MethodName)) ∈ mm_T := tw_of (i := 321) (by decide +kernel) rfl
theorem tw_322 : (Jvm.Cond.code ({ cls := "java/lang/String", name := "indexOf", desc := "(I)I" } : Jvm.MethodName) prog_13_method_79_code (2 : Nat) (Option.some Jvm.ClassFile.FieldType.int)) ∈ mm_T := tw_of (i := 322) (by decide +kernel) rfl
theorem tw_323 : (Jvm.Cond.methodLink "java/lang/String" (633 : Nat) ({ cls := "java/lang/String", name := "indexOf", desc := "(II)I" } : Jvm.MethodName)) ∈ mm_T := tw_of (i := 323) (by decide +kernel) rfl
theorem tw_324 : (Jvm.Cond.instanceMethod ({ cls := "java/lang/String", name := "indexOf", desc := "(II)I" } : Jvm.MethodName)) ∈ mm_T := tw_of (i := 324) (by decide +kernel) rfl
theorem tw_325 : (Jvm.Cond.selects "java/lang/String" ({ cls := "java/lang/String", name := "indexOf", desc := "(II)I" } : Jvm.MethodName) ({ cls := "java/lang/String", name := "indexOf", desc := "(II)I" } : Jvm.MethodName)) ∈ mm_T := tw_of (i := 325) (by decide +kernel) rfl
theorem tw_326 : (Jvm.Cond.code ({ cls := "java/lang/String", name := "indexOf", desc := "(II)I" } : Jvm.MethodName) prog_13_method_80_code (3 : Nat) (Option.some Jvm.ClassFile.FieldType.int)) ∈ mm_T := tw_of (i := 326) (by decide +kernel) rfl
theorem tw_327 : (Jvm.Cond.methodLink "java/lang/String" (492 : Nat) ({ cls := "java/lang/String", name := "isLatin1", desc := "()Z" } : Jvm.MethodName)) ∈ mm_T := tw_of (i := 327) (by decide +kernel) rfl
theorem tw_328 : (Jvm.Cond.instanceMethod ({ cls := "java/lang/String", name := "isLatin1", desc := "()Z" } : Jvm.MethodName)) ∈ mm_T := tw_of (i := 328) (by decide +kernel) rfl
theorem tw_329 : (Jvm.Cond.selects "java/lang/String" ({ cls := "java/lang/String", name := "isLatin1", desc := "()Z" } : Jvm.MethodName) ({ cls := "java/lang/String", name := "isLatin1", desc := "()Z" } : Jvm.MethodName)) ∈ mm_T := tw_of (i := 329) (by decide +kernel) rfl
theorem tw_330 : (Jvm.Cond.code ({ cls := "java/lang/String", name := "isLatin1", desc := "()Z" } : Jvm.MethodName) prog_13_method_154_code (1 : Nat) (Option.some Jvm.ClassFile.FieldType.boolean)) ∈ mm_T := tw_of (i := 330) (by decide +kernel) rfl
theorem tw_331 : (Jvm.Cond.fieldLink "java/lang/String" (38 : Nat) "java/lang/String" "COMPACT_STRINGS" "Z") ∈ mm_T := tw_of (i := 331) (by decide +kernel) rfl
theorem tw_333 : (Jvm.Cond.methodLink "java/lang/String" (505 : Nat) ({ cls := "java/lang/String", name := "length", desc := "()I" } : Jvm.MethodName)) ∈ mm_T := tw_of (i := 333) (by decide +kernel) rfl
theorem tw_334 : (Jvm.Cond.instanceMethod ({ cls := "java/lang/String", name := "length", desc := "()I" } : Jvm.MethodName)) ∈ mm_T := tw_of (i := 334) (by decide +kernel) rfl
theorem tw_335 : (Jvm.Cond.selects "java/lang/String" ({ cls := "java/lang/String", name := "length", desc := "()I" } : Jvm.MethodName) ({ cls := "java/lang/String", name := "length", desc := "()I" } : Jvm.MethodName)) ∈ mm_T := tw_of (i := 335) (by decide +kernel) rfl
theorem tw_336 : (Jvm.Cond.code ({ cls := "java/lang/String", name := "length", desc := "()I" } : Jvm.MethodName) prog_13_method_54_code (1 : Nat) (Option.some Jvm.ClassFile.FieldType.int)) ∈ mm_T := tw_of (i := 336) (by decide +kernel) rfl
theorem tw_337 : (Jvm.Cond.methodLink "java/lang/String" (335 : Nat) ({ cls := "java/lang/String", name := "coder", desc := "()B" } : Jvm.MethodName)) ∈ mm_T := tw_of (i := 337) (by decide +kernel) rfl
theorem tw_338 : (Jvm.Cond.instanceMethod ({ cls := "java/lang/String", name := "coder", desc := "()B" } : Jvm.MethodName)) ∈ mm_T := tw_of (i := 338) (by decide +kernel) rfl
theorem tw_339 : (Jvm.Cond.selects "java/lang/String" ({ cls := "java/lang/String", name := "coder", desc := "()B" } : Jvm.MethodName) ({ cls := "java/lang/String", name := "coder", desc := "()B" } : Jvm.MethodName)) ∈ mm_T := tw_of (i := 339) (by decide +kernel) rfl
theorem tw_340 : (Jvm.Cond.code ({ cls := "java/lang/String", name := "coder", desc := "()B" } : Jvm.MethodName) prog_13_method_152_code (1 : Nat) (Option.some Jvm.ClassFile.FieldType.byte)) ∈ mm_T := tw_of (i := 340) (by decide +kernel) rfl
theorem tw_341 : (Jvm.Cond.methodLink "java/lang/String" (637 : Nat) ({ cls := "java/lang/StringLatin1", name := "indexOf", desc := "([BIII)I" } : Jvm.MethodName)) ∈ mm_T := tw_of (i := 341) (by decide +kernel) rfl
theorem tw_342 : (Jvm.Cond.static ({ cls := "java/lang/StringLatin1", name := "indexOf", desc := "([BIII)I" } : Jvm.MethodName)) ∈ mm_T := tw_of (i := 342) (by decide +kernel) rfl
theorem tw_343 : (Jvm.Cond.code ({ cls := "java/lang/StringLatin1", name := "indexOf", desc := "([BIII)I" } : Jvm.MethodName) prog_14_method_22_code (4 : Nat) (Option.some Jvm.ClassFile.FieldType.int)) ∈ mm_T := tw_of (i := 343) (by decide +kernel) rfl
theorem tw_344 : (Jvm.Cond.methodLink "java/lang/StringLatin1" (88 : Nat) ({ cls := "java/lang/StringLatin1", name := "canEncode", desc := "(I)Z" } : Jvm.MethodName)) ∈ mm_T := tw_of (i := 344) (by decide +kernel) rfl
theorem tw_345 : (Jvm.Cond.static ({ cls := "java/lang/StringLatin1", name := "canEncode", desc := "(I)Z" } : Jvm.MethodName)) ∈ mm_T := tw_of (i := 345) (by decide +kernel) rfl
theorem tw_346 : (Jvm.Cond.code ({ cls := "java/lang/StringLatin1", name := "canEncode", desc := "(I)Z" } : Jvm.MethodName) prog_14_method_4_code (1 : Nat) (Option.some Jvm.ClassFile.FieldType.boolean)) ∈ mm_T := tw_of (i := 346) (by decide +kernel) rfl
theorem tw_347 : (Jvm.Cond.methodLink "java/lang/StringLatin1" (92 : Nat) ({ cls := "java/lang/Math", name := "max", desc := "(II)I" } : Jvm.MethodName)) ∈ mm_T := tw_of (i := 347) (by decide +kernel) rfl
theorem tw_348 : (Jvm.Cond.methodLink "java/lang/StringLatin1" (38 : Nat) ({ cls := "java/lang/Math", name := "min", desc := "(II)I" } : Jvm.MethodName)) ∈ mm_T := tw_of (i := 348) (by decide +kernel) rfl
theorem tw_349 : (Jvm.Cond.methodLink "java/lang/StringLatin1" (95 : Nat) ({ cls := "java/lang/StringLatin1", name := "indexOfChar", desc := "([BIII)I" } : Jvm.MethodName)) ∈ mm_T := tw_of (i := 349) (by decide +kernel) rfl
theorem tw_350 : (Jvm.Cond.static ({ cls := "java/lang/StringLatin1", name := "indexOfChar", desc := "([BIII)I" } : Jvm.MethodName)) ∈ mm_T := tw_of (i := 350) (by decide +kernel) rfl
theorem tw_351 : (Jvm.Cond.code ({ cls := "java/lang/StringLatin1", name := "indexOfChar", desc := "([BIII)I" } : Jvm.MethodName) prog_14_method_23_code (6 : Nat) (Option.some Jvm.ClassFile.FieldType.int)) ∈ mm_T := tw_of (i := 351) (by decide +kernel) rfl
theorem tw_352 : (Jvm.Cond.methodLink "java/lang/String" (640 : Nat) ({ cls := "java/lang/StringUTF16", name := "indexOf", desc := "([BIII)I" } : Jvm.MethodName)) ∈ mm_T := tw_of (i := 352) (by decide +kernel) rfl
theorem tw_353 : (Jvm.Cond.static ({ cls := "java/lang/StringUTF16", name := "indexOf", desc := "([BIII)I" } : Jvm.MethodName)) ∈ mm_T := tw_of (i := 353) (by decide +kernel) rfl
theorem tw_354 : (Jvm.Cond.code ({ cls := "java/lang/StringUTF16", name := "indexOf", desc := "([BIII)I" } : Jvm.MethodName) prog_15_method_40_code (4 : Nat) (Option.some Jvm.ClassFile.FieldType.int)) ∈ mm_T := tw_of (i := 354) (by decide +kernel) rfl
theorem tw_355 : (Jvm.Cond.methodLink "java/lang/StringUTF16" (224 : Nat) ({ cls := "java/lang/Math", name := "max", desc := "(II)I" } : Jvm.MethodName)) ∈ mm_T := tw_of (i := 355) (by decide +kernel) rfl
theorem tw_356 : (Jvm.Cond.methodLink "java/lang/StringUTF16" (183 : Nat) ({ cls := "java/lang/Math", name := "min", desc := "(II)I" } : Jvm.MethodName)) ∈ mm_T := tw_of (i := 356) (by decide +kernel) rfl
theorem tw_357 : (Jvm.Cond.constant "java/lang/StringUTF16" (227 : Nat) (65536 : Int32)) ∈ mm_T := tw_of (i := 357) (by decide +kernel) rfl
theorem tw_358 : (Jvm.Cond.methodLink "java/lang/StringUTF16" (228 : Nat) ({ cls := "java/lang/StringUTF16", name := "indexOfChar", desc := "([BIII)I" } : Jvm.MethodName)) ∈ mm_T := tw_of (i := 358) (by decide +kernel) rfl
theorem tw_359 : (Jvm.Cond.static ({ cls := "java/lang/StringUTF16", name := "indexOfChar", desc := "([BIII)I" } : Jvm.MethodName)) ∈ mm_T := tw_of (i := 359) (by decide +kernel) rfl
theorem tw_360 : (Jvm.Cond.code ({ cls := "java/lang/StringUTF16", name := "indexOfChar", desc := "([BIII)I" } : Jvm.MethodName) prog_15_method_47_code (4 : Nat) (Option.some Jvm.ClassFile.FieldType.int)) ∈ mm_T := tw_of (i := 360) (by decide +kernel) rfl
theorem tw_361 : (Jvm.Cond.methodLink "java/lang/StringUTF16" (96 : Nat) ({ cls := "java/lang/StringUTF16", name := "checkBoundsBeginEnd", desc := "(II[B)V" } : Jvm.MethodName)) ∈ mm_T := tw_of (i := 361) (by decide +kernel) rfl
theorem tw_362 : (Jvm.Cond.static ({ cls := "java/lang/StringUTF16", name := "checkBoundsBeginEnd", desc := "(II[B)V" } : Jvm.MethodName)) ∈ mm_T := tw_of (i := 362) (by decide +kernel) rfl
theorem tw_363 : (Jvm.Cond.code ({ cls := "java/lang/StringUTF16", name := "checkBoundsBeginEnd", desc := "(II[B)V" } : Jvm.MethodName) prog_15_method_93_code (3 : Nat) (Option.none : Option Jvm.ClassFile.FieldType)) ∈ mm_T := tw_of (i := 363) (by decide +kernel) rfl
theorem tw_364 : (Jvm.Cond.methodLink "java/lang/StringUTF16" (48 : Nat) ({ cls := "java/lang/StringUTF16", name := "length", desc := "([B)I" } : Jvm.MethodName)) ∈ mm_T := tw_of (i := 364) (by decide +kernel) rfl
theorem tw_365 : (Jvm.Cond.static ({ cls := "java/lang/StringUTF16", name := "length", desc := "([B)I" } : Jvm.MethodName)) ∈ mm_T := tw_of (i := 365) (by decide +kernel) rfl
theorem tw_366 : (Jvm.Cond.code ({ cls := "java/lang/StringUTF16", name := "length", desc := "([B)I" } : Jvm.MethodName) prog_15_method_6_code (1 : Nat) (Option.some Jvm.ClassFile.FieldType.int)) ∈ mm_T := tw_of (i := 366) (by decide +kernel) rfl
theorem tw_367 : (Jvm.Cond.methodLink "java/lang/StringUTF16" (241 : Nat) ({ cls := "java/lang/String", name := "checkBoundsBeginEnd", desc := "(III)V" } : Jvm.MethodName)) ∈ mm_T := tw_of (i := 367) (by decide +kernel) rfl
theorem tw_368 : (Jvm.Cond.static ({ cls := "java/lang/String", name := "checkBoundsBeginEnd", desc := "(III)V" } : Jvm.MethodName)) ∈ mm_T := tw_of (i := 368) (by decide +kernel) rfl
theorem tw_369 : (Jvm.Cond.code ({ cls := "java/lang/String", name := "checkBoundsBeginEnd", desc := "(III)V" } : Jvm.MethodName) prog_13_method_158_code (3 : Nat) (Option.none : Option Jvm.ClassFile.FieldType)) ∈ mm_T := tw_of (i := 369) (by decide +kernel) rfl
theorem tw_370 : (Jvm.Cond.fieldLink "java/lang/String" (1053 : Nat) "jdk/internal/util/Preconditions" "SIOOBE_FORMATTER" "Ljava/util/function/BiFunction;") ∈ mm_T := tw_of (i := 370) (by decide +kernel) rfl
theorem tw_372 : (Jvm.Cond.methodLink "java/lang/String" (1062 : Nat) ({ cls := "jdk/internal/util/Preconditions", name := "checkFromToIndex", desc := "(IIILjava/util/function/BiFunction;)I" } : Jvm.MethodName)) ∈ mm_T := tw_of (i := 372) (by decide +kernel) rfl
theorem tw_373 : (Jvm.Cond.static ({ cls := "jdk/internal/util/Preconditions", name := "checkFromToIndex", desc := "(IIILjava/util/function/BiFunction;)I" } : Jvm.MethodName)) ∈ mm_T := tw_of (i := 373) (by decide +kernel) rfl
theorem tw_374 : (Jvm.Cond.code ({ cls := "jdk/internal/util/Preconditions", name := "checkFromToIndex", desc := "(IIILjava/util/function/BiFunction;)I" } : Jvm.MethodName) prog_16_method_12_code (4 : Nat) (Option.some Jvm.ClassFile.FieldType.int)) ∈ mm_T := tw_of (i := 374) (by decide +kernel) rfl
theorem tw_375 : (Jvm.Cond.methodLink "java/lang/StringUTF16" (244 : Nat) ({ cls := "java/lang/StringUTF16", name := "indexOfCharUnsafe", desc := "([BIII)I" } : Jvm.MethodName)) ∈ mm_T := tw_of (i := 375) (by decide +kernel) rfl
theorem tw_376 : (Jvm.Cond.static ({ cls := "java/lang/StringUTF16", name := "indexOfCharUnsafe", desc := "([BIII)I" } : Jvm.MethodName)) ∈ mm_T := tw_of (i := 376) (by decide +kernel) rfl
theorem tw_377 : (Jvm.Cond.code ({ cls := "java/lang/StringUTF16", name := "indexOfCharUnsafe", desc := "([BIII)I" } : Jvm.MethodName) prog_15_method_48_code (5 : Nat) (Option.some Jvm.ClassFile.FieldType.int)) ∈ mm_T := tw_of (i := 377) (by decide +kernel) rfl
theorem tw_378 : (Jvm.Cond.methodLink "java/lang/StringUTF16" (71 : Nat) ({ cls := "java/lang/StringUTF16", name := "getChar", desc := "([BI)C" } : Jvm.MethodName)) ∈ mm_T := tw_of (i := 378) (by decide +kernel) rfl
theorem tw_379 : (Jvm.Cond.static ({ cls := "java/lang/StringUTF16", name := "getChar", desc := "([BI)C" } : Jvm.MethodName)) ∈ mm_T := tw_of (i := 379) (by decide +kernel) rfl
theorem tw_380 : (Jvm.Cond.code ({ cls := "java/lang/StringUTF16", name := "getChar", desc := "([BI)C" } : Jvm.MethodName) prog_15_method_5_code (2 : Nat) (Option.some Jvm.ClassFile.FieldType.char)) ∈ mm_T := tw_of (i := 380) (by decide +kernel) rfl
theorem tw_381 : (Jvm.Cond.fieldLink "java/lang/StringUTF16" (44 : Nat) "java/lang/StringUTF16" "$assertionsDisabled" "Z") ∈ mm_T := tw_of (i := 381) (by decide +kernel) rfl
theorem tw_383 : (Jvm.Cond.fieldLink "java/lang/StringUTF16" (59 : Nat) "java/lang/StringUTF16" "HI_BYTE_SHIFT" "I") ∈ mm_T := tw_of (i := 383) (by decide +kernel) rfl
theorem tw_385 : (Jvm.Cond.fieldLink "java/lang/StringUTF16" (63 : Nat) "java/lang/StringUTF16" "LO_BYTE_SHIFT" "I") ∈ mm_T := tw_of (i := 385) (by decide +kernel) rfl
theorem tw_387 : (Jvm.Cond.methodLink "java/lang/StringUTF16" (232 : Nat) ({ cls := "java/lang/StringUTF16", name := "indexOfSupplementary", desc := "([BIII)I" } : Jvm.MethodName)) ∈ mm_T := tw_of (i := 387) (by decide +kernel) rfl
theorem tw_388 : (Jvm.Cond.static ({ cls := "java/lang/StringUTF16", name := "indexOfSupplementary", desc := "([BIII)I" } : Jvm.MethodName)) ∈ mm_T := tw_of (i := 388) (by decide +kernel) rfl
theorem tw_389 : (Jvm.Cond.code ({ cls := "java/lang/StringUTF16", name := "indexOfSupplementary", desc := "([BIII)I" } : Jvm.MethodName) prog_15_method_49_code (7 : Nat) (Option.some Jvm.ClassFile.FieldType.int)) ∈ mm_T := tw_of (i := 389) (by decide +kernel) rfl
theorem tw_390 : (Jvm.Cond.methodLink "java/lang/StringUTF16" (164 : Nat) ({ cls := "java/lang/Character", name := "isValidCodePoint", desc := "(I)Z" } : Jvm.MethodName)) ∈ mm_T := tw_of (i := 390) (by decide +kernel) rfl
theorem tw_391 : (Jvm.Cond.static ({ cls := "java/lang/Character", name := "isValidCodePoint", desc := "(I)Z" } : Jvm.MethodName)) ∈ mm_T := tw_of (i := 391) (by decide +kernel) rfl
theorem tw_392 : (Jvm.Cond.code ({ cls := "java/lang/Character", name := "isValidCodePoint", desc := "(I)Z" } : Jvm.MethodName) prog_11_method_11_code (2 : Nat) (Option.some Jvm.ClassFile.FieldType.boolean)) ∈ mm_T := tw_of (i := 392) (by decide +kernel) rfl
theorem tw_393 : (Jvm.Cond.methodLink "java/lang/StringUTF16" (157 : Nat) ({ cls := "java/lang/Character", name := "highSurrogate", desc := "(I)C" } : Jvm.MethodName)) ∈ mm_T := tw_of (i := 393) (by decide +kernel) rfl
theorem tw_394 : (Jvm.Cond.static ({ cls := "java/lang/Character", name := "highSurrogate", desc := "(I)C" } : Jvm.MethodName)) ∈ mm_T := tw_of (i := 394) (by decide +kernel) rfl
theorem tw_395 : (Jvm.Cond.code ({ cls := "java/lang/Character", name := "highSurrogate", desc := "(I)C" } : Jvm.MethodName) prog_11_method_28_code (1 : Nat) (Option.some Jvm.ClassFile.FieldType.char)) ∈ mm_T := tw_of (i := 395) (by decide +kernel) rfl
theorem tw_396 : (Jvm.Cond.constant "java/lang/Character" (110 : Nat) (55232 : Int32)) ∈ mm_T := tw_of (i := 396) (by decide +kernel) rfl
theorem tw_397 : (Jvm.Cond.methodLink "java/lang/StringUTF16" (161 : Nat) ({ cls := "java/lang/Character", name := "lowSurrogate", desc := "(I)C" } : Jvm.MethodName)) ∈ mm_T := tw_of (i := 397) (by decide +kernel) rfl
theorem tw_398 : (Jvm.Cond.static ({ cls := "java/lang/Character", name := "lowSurrogate", desc := "(I)C" } : Jvm.MethodName)) ∈ mm_T := tw_of (i := 398) (by decide +kernel) rfl
theorem tw_399 : (Jvm.Cond.code ({ cls := "java/lang/Character", name := "lowSurrogate", desc := "(I)C" } : Jvm.MethodName) prog_11_method_29_code (1 : Nat) (Option.some Jvm.ClassFile.FieldType.char)) ∈ mm_T := tw_of (i := 399) (by decide +kernel) rfl
theorem tw_400 : (Jvm.Cond.constant "java/lang/Character" (76 : Nat) (56320 : Int32)) ∈ mm_T := tw_of (i := 400) (by decide +kernel) rfl
theorem tw_401 : (Jvm.Cond.methodLink "PatternBench" (63 : Nat) ({ cls := "PatternBench$Text", name := "isFull", desc := "()Z" } : Jvm.MethodName)) ∈ mm_T := tw_of (i := 401) (by decide +kernel) rfl
theorem tw_402 : (Jvm.Cond.instanceMethod ({ cls := "PatternBench$Text", name := "isFull", desc := "()Z" } : Jvm.MethodName)) ∈ mm_T := tw_of (i := 402) (by decide +kernel) rfl
theorem tw_403 : (Jvm.Cond.selects "PatternBench$Text" ({ cls := "PatternBench$Text", name := "isFull", desc := "()Z" } : Jvm.MethodName) ({ cls := "PatternBench$Text", name := "isFull", desc := "()Z" } : Jvm.MethodName)) ∈ mm_T := tw_of (i := 403) (by decide +kernel) rfl
theorem tw_404 : (Jvm.Cond.code ({ cls := "PatternBench$Text", name := "isFull", desc := "()Z" } : Jvm.MethodName) prog_8_method_2_code (1 : Nat) (Option.some Jvm.ClassFile.FieldType.boolean)) ∈ mm_T := tw_of (i := 404) (by decide +kernel) rfl
theorem tw_405 : (Jvm.Cond.methodLink "PatternBench" (69 : Nat) ({ cls := "PatternBench$Text", name := "add", desc := "(I)I" } : Jvm.MethodName)) ∈ mm_T := tw_of (i := 405) (by decide +kernel) rfl
theorem tw_406 : (Jvm.Cond.instanceMethod ({ cls := "PatternBench$Text", name := "add", desc := "(I)I" } : Jvm.MethodName)) ∈ mm_T := tw_of (i := 406) (by decide +kernel) rfl
theorem tw_407 : (Jvm.Cond.selects "PatternBench$Text" ({ cls := "PatternBench$Text", name := "add", desc := "(I)I" } : Jvm.MethodName) ({ cls := "PatternBench$Text", name := "add", desc := "(I)I" } : Jvm.MethodName)) ∈ mm_T := tw_of (i := 407) (by decide +kernel) rfl
theorem tw_408 : (Jvm.Cond.code ({ cls := "PatternBench$Text", name := "add", desc := "(I)I" } : Jvm.MethodName) prog_8_method_3_code (2 : Nat) (Option.some Jvm.ClassFile.FieldType.int)) ∈ mm_T := tw_of (i := 408) (by decide +kernel) rfl
theorem tw_409 : (Jvm.Cond.methodLink "PatternBench$Text" (19 : Nat) ({ cls := "PatternBench$Text", name := "isFull", desc := "()Z" } : Jvm.MethodName)) ∈ mm_T := tw_of (i := 409) (by decide +kernel) rfl
theorem tw_410 : (Jvm.Cond.arrayClass Jvm.ClassFile.FieldType.byte) ∈ mm_T := tw_of (i := 410) (by decide +kernel) rfl
theorem tw_411 : (Jvm.Cond.methodLink "PatternBenchLaw" (26 : Nat) ({ cls := "PatternBench", name := "compile", desc := "()I" } : Jvm.MethodName)) ∈ mm_T := tw_of (i := 411) (by decide +kernel) rfl
theorem tw_412 : (Jvm.Cond.instanceMethod ({ cls := "PatternBench", name := "compile", desc := "()I" } : Jvm.MethodName)) ∈ mm_T := tw_of (i := 412) (by decide +kernel) rfl
theorem tw_413 : (Jvm.Cond.selects "PatternBench" ({ cls := "PatternBench", name := "compile", desc := "()I" } : Jvm.MethodName) ({ cls := "PatternBench", name := "compile", desc := "()I" } : Jvm.MethodName)) ∈ mm_T := tw_of (i := 413) (by decide +kernel) rfl
theorem tw_414 : (Jvm.Cond.code ({ cls := "PatternBench", name := "compile", desc := "()I" } : Jvm.MethodName) prog_1_method_3_code (3 : Nat) (Option.some Jvm.ClassFile.FieldType.int)) ∈ mm_T := tw_of (i := 414) (by decide +kernel) rfl
theorem tw_415 : (Jvm.Cond.methodLink "PatternBench" (73 : Nat) ({ cls := "PatternBench$Reader", name := "read", desc := "()Z" } : Jvm.MethodName)) ∈ mm_T := tw_of (i := 415) (by decide +kernel) rfl
theorem tw_416 : (Jvm.Cond.instanceMethod ({ cls := "PatternBench$Reader", name := "read", desc := "()Z" } : Jvm.MethodName)) ∈ mm_T := tw_of (i := 416) (by decide +kernel) rfl
theorem tw_417 : (Jvm.Cond.selects "PatternBench$Reader" ({ cls := "PatternBench$Reader", name := "read", desc := "()Z" } : Jvm.MethodName) ({ cls := "PatternBench$Reader", name := "read", desc := "()Z" } : Jvm.MethodName)) ∈ mm_T := tw_of (i := 417) (by decide +kernel) rfl
theorem tw_418 : (Jvm.Cond.code ({ cls := "PatternBench$Reader", name := "read", desc := "()Z" } : Jvm.MethodName) prog_7_method_2_code (3 : Nat) (Option.some Jvm.ClassFile.FieldType.boolean)) ∈ mm_T := tw_of (i := 418) (by decide +kernel) rfl
theorem tw_419 : (Jvm.Cond.methodLink "PatternBench$Reader" (57 : Nat) ({ cls := "PatternBench$Program", name := "empty", desc := "()V" } : Jvm.MethodName)) ∈ mm_T := tw_of (i := 419) (by decide +kernel) rfl
theorem tw_420 : (Jvm.Cond.instanceMethod ({ cls := "PatternBench$Program", name := "empty", desc := "()V" } : Jvm.MethodName)) ∈ mm_T := tw_of (i := 420) (by decide +kernel) rfl
theorem tw_421 : (Jvm.Cond.selects "PatternBench$Program" ({ cls := "PatternBench$Program", name := "empty", desc := "()V" } : Jvm.MethodName) ({ cls := "PatternBench$Program", name := "empty", desc := "()V" } : Jvm.MethodName)) ∈ mm_T := tw_of (i := 421) (by decide +kernel) rfl
theorem tw_422 : (Jvm.Cond.code ({ cls := "PatternBench$Program", name := "empty", desc := "()V" } : Jvm.MethodName) prog_6_method_2_code (1 : Nat) (Option.none : Option Jvm.ClassFile.FieldType)) ∈ mm_T := tw_of (i := 422) (by decide +kernel) rfl
theorem tw_423 : (Jvm.Cond.methodLink "PatternBench$Reader" (60 : Nat) ({ cls := "PatternBench$Reader", name := "openLevel", desc := "(II)V" } : Jvm.MethodName)) ∈ mm_T := tw_of (i := 423) (by decide +kernel) rfl
theorem tw_425 : (Jvm.Cond.instanceMethod ({ cls := "PatternBench$Reader", name := "openLevel", desc := "(II)V" } : Jvm.MethodName)) ∈ mm_T := tw_of (i := 425) (by decide +kernel) rfl
theorem tw_426 : (Jvm.Cond.code ({ cls := "PatternBench$Reader", name := "openLevel", desc := "(II)V" } : Jvm.MethodName) prog_7_method_6_code (3 : Nat) (Option.none : Option Jvm.ClassFile.FieldType)) ∈ mm_T := tw_of (i := 426) (by decide +kernel) rfl
theorem tw_427 : (Jvm.Cond.methodLink "PatternBench$Reader" (115 : Nat) ({ cls := "PatternBench$Program", name := "addRow", desc := "()I" } : Jvm.MethodName)) ∈ mm_T := tw_of (i := 427) (by decide +kernel) rfl
theorem tw_428 : (Jvm.Cond.instanceMethod ({ cls := "PatternBench$Program", name := "addRow", desc := "()I" } : Jvm.MethodName)) ∈ mm_T := tw_of (i := 428) (by decide +kernel) rfl
theorem tw_429 : (Jvm.Cond.selects "PatternBench$Program" ({ cls := "PatternBench$Program", name := "addRow", desc := "()I" } : Jvm.MethodName) ({ cls := "PatternBench$Program", name := "addRow", desc := "()I" } : Jvm.MethodName)) ∈ mm_T := tw_of (i := 429) (by decide +kernel) rfl
theorem tw_430 : (Jvm.Cond.code ({ cls := "PatternBench$Program", name := "addRow", desc := "()I" } : Jvm.MethodName) prog_6_method_3_code (2 : Nat) (Option.some Jvm.ClassFile.FieldType.int)) ∈ mm_T := tw_of (i := 430) (by decide +kernel) rfl
theorem tw_431 : (Jvm.Cond.methodLink "PatternBench$Reader" (70 : Nat) ({ cls := "PatternBench$Reader", name := "readPart", desc := "()I" } : Jvm.MethodName)) ∈ mm_T := tw_of (i := 431) (by decide +kernel) rfl
theorem tw_433 : (Jvm.Cond.instanceMethod ({ cls := "PatternBench$Reader", name := "readPart", desc := "()I" } : Jvm.MethodName)) ∈ mm_T := tw_of (i := 433) (by decide +kernel) rfl
theorem tw_434 : (Jvm.Cond.code ({ cls := "PatternBench$Reader", name := "readPart", desc := "()I" } : Jvm.MethodName) prog_7_method_3_code (1 : Nat) (Option.some Jvm.ClassFile.FieldType.int)) ∈ mm_T := tw_of (i := 434) (by decide +kernel) rfl
theorem tw_435 : (Jvm.Cond.methodLink "PatternBench$Reader" (83 : Nat) ({ cls := "PatternBench$Reader", name := "ahead", desc := "(I)I" } : Jvm.MethodName)) ∈ mm_T := tw_of (i := 435) (by decide +kernel) rfl
theorem tw_437 : (Jvm.Cond.instanceMethod ({ cls := "PatternBench$Reader", name := "ahead", desc := "(I)I" } : Jvm.MethodName)) ∈ mm_T := tw_of (i := 437) (by decide +kernel) rfl
theorem tw_438 : (Jvm.Cond.code ({ cls := "PatternBench$Reader", name := "ahead", desc := "(I)I" } : Jvm.MethodName) prog_7_method_4_code (2 : Nat) (Option.some Jvm.ClassFile.FieldType.int)) ∈ mm_T := tw_of (i := 438) (by decide +kernel) rfl
theorem tw_439 : (Jvm.Cond.methodLink "PatternBench$Reader" (112 : Nat) ({ cls := "PatternBench$Text", name := "codeAt", desc := "(I)I" } : Jvm.MethodName)) ∈ mm_T := tw_of (i := 439) (by decide +kernel) rfl
theorem tw_440 : (Jvm.Cond.instanceMethod ({ cls := "PatternBench$Text", name := "codeAt", desc := "(I)I" } : Jvm.MethodName)) ∈ mm_T := tw_of (i := 440) (by decide +kernel) rfl
theorem tw_441 : (Jvm.Cond.selects "PatternBench$Text" ({ cls := "PatternBench$Text", name := "codeAt", desc := "(I)I" } : Jvm.MethodName) ({ cls := "PatternBench$Text", name := "codeAt", desc := "(I)I" } : Jvm.MethodName)) ∈ mm_T := tw_of (i := 441) (by decide +kernel) rfl
theorem tw_442 : (Jvm.Cond.code ({ cls := "PatternBench$Text", name := "codeAt", desc := "(I)I" } : Jvm.MethodName) prog_8_method_4_code (2 : Nat) (Option.some Jvm.ClassFile.FieldType.int)) ∈ mm_T := tw_of (i := 442) (by decide +kernel) rfl
theorem tw_443 : (Jvm.Cond.methodLink "PatternBench$Reader" (87 : Nat) ({ cls := "PatternBench$Reader", name := "openNextRow", desc := "()I" } : Jvm.MethodName)) ∈ mm_T := tw_of (i := 443) (by decide +kernel) rfl
theorem tw_445 : (Jvm.Cond.instanceMethod ({ cls := "PatternBench$Reader", name := "openNextRow", desc := "()I" } : Jvm.MethodName)) ∈ mm_T := tw_of (i := 445) (by decide +kernel) rfl
theorem tw_446 : (Jvm.Cond.code ({ cls := "PatternBench$Reader", name := "openNextRow", desc := "()I" } : Jvm.MethodName) prog_7_method_7_code (2 : Nat) (Option.some Jvm.ClassFile.FieldType.int)) ∈ mm_T := tw_of (i := 446) (by decide +kernel) rfl
theorem tw_447 : (Jvm.Cond.methodLink "PatternBench$Reader" (90 : Nat) ({ cls := "PatternBench$Reader", name := "closeChoice", desc := "()I" } : Jvm.MethodName)) ∈ mm_T := tw_of (i := 447) (by decide +kernel) rfl
theorem tw_449 : (Jvm.Cond.instanceMethod ({ cls := "PatternBench$Reader", name := "closeChoice", desc := "()I" } : Jvm.MethodName)) ∈ mm_T := tw_of (i := 449) (by decide +kernel) rfl
theorem tw_450 : (Jvm.Cond.code ({ cls := "PatternBench$Reader", name := "closeChoice", desc := "()I" } : Jvm.MethodName) prog_7_method_10_code (2 : Nat) (Option.some Jvm.ClassFile.FieldType.int)) ∈ mm_T := tw_of (i := 450) (by decide +kernel) rfl
theorem tw_451 : (Jvm.Cond.methodLink "PatternBench$Reader" (124 : Nat) ({ cls := "PatternBench$Reader", name := "refuse", desc := "()I" } : Jvm.MethodName)) ∈ mm_T := tw_of (i := 451) (by decide +kernel) rfl
theorem tw_453 : (Jvm.Cond.instanceMethod ({ cls := "PatternBench$Reader", name := "refuse", desc := "()I" } : Jvm.MethodName)) ∈ mm_T := tw_of (i := 453) (by decide +kernel) rfl
theorem tw_454 : (Jvm.Cond.code ({ cls := "PatternBench$Reader", name := "refuse", desc := "()I" } : Jvm.MethodName) prog_7_method_5_code (1 : Nat) (Option.some Jvm.ClassFile.FieldType.int)) ∈ mm_T := tw_of (i := 454) (by decide +kernel) rfl
theorem tw_455 : (Jvm.Cond.methodLinkNest "PatternBench$Reader" (93 : Nat) ({ cls := "PatternBench", name := "isDigit", desc := "(I)Z" } : Jvm.MethodName) "PatternBench") ∈ mm_N := tw_n (i := 455) (by decide +kernel) rfl
theorem tw_456 : (Jvm.Cond.methodLink "PatternBench$Reader" (97 : Nat) ({ cls := "PatternBench$Reader", name := "readCall", desc := "()I" } : Jvm.MethodName)) ∈ mm_T := tw_of (i := 456) (by decide +kernel) rfl
theorem tw_458 : (Jvm.Cond.instanceMethod ({ cls := "PatternBench$Reader", name := "readCall", desc := "()I" } : Jvm.MethodName)) ∈ mm_T := tw_of (i := 458) (by decide +kernel) rfl
theorem tw_459 : (Jvm.Cond.code ({ cls := "PatternBench$Reader", name := "readCall", desc := "()I" } : Jvm.MethodName) prog_7_method_11_code (2 : Nat) (Option.some Jvm.ClassFile.FieldType.int)) ∈ mm_T := tw_of (i := 459) (by decide +kernel) rfl
theorem tw_460 : (Jvm.Cond.methodLink "PatternBench$Reader" (134 : Nat) ({ cls := "java/lang/Math", name := "max", desc := "(II)I" } : Jvm.MethodName)) ∈ mm_T := tw_of (i := 460) (by decide +kernel) rfl
theorem tw_461 : (Jvm.Cond.methodLink "PatternBench$Reader" (127 : Nat) ({ cls := "PatternBench$Reader", name := "appendItem", desc := "(II)I" } : Jvm.MethodName)) ∈ mm_T := tw_of (i := 461) (by decide +kernel) rfl
theorem tw_463 : (Jvm.Cond.instanceMethod ({ cls := "PatternBench$Reader", name := "appendItem", desc := "(II)I" } : Jvm.MethodName)) ∈ mm_T := tw_of (i := 463) (by decide +kernel) rfl
theorem tw_464 : (Jvm.Cond.code ({ cls := "PatternBench$Reader", name := "appendItem", desc := "(II)I" } : Jvm.MethodName) prog_7_method_17_code (4 : Nat) (Option.some Jvm.ClassFile.FieldType.int)) ∈ mm_T := tw_of (i := 464) (by decide +kernel) rfl
theorem tw_465 : (Jvm.Cond.methodLink "PatternBench$Reader" (149 : Nat) ({ cls := "PatternBench$Program", name := "addItem", desc := "(II)I" } : Jvm.MethodName)) ∈ mm_T := tw_of (i := 465) (by decide +kernel) rfl
theorem tw_466 : (Jvm.Cond.instanceMethod ({ cls := "PatternBench$Program", name := "addItem", desc := "(II)I" } : Jvm.MethodName)) ∈ mm_T := tw_of (i := 466) (by decide +kernel) rfl
theorem tw_467 : (Jvm.Cond.selects "PatternBench$Program" ({ cls := "PatternBench$Program", name := "addItem", desc := "(II)I" } : Jvm.MethodName) ({ cls := "PatternBench$Program", name := "addItem", desc := "(II)I" } : Jvm.MethodName)) ∈ mm_T := tw_of (i := 467) (by decide +kernel) rfl
theorem tw_468 : (Jvm.Cond.code ({ cls := "PatternBench$Program", name := "addItem", desc := "(II)I" } : Jvm.MethodName) prog_6_method_4_code (4 : Nat) (Option.some Jvm.ClassFile.FieldType.int)) ∈ mm_T := tw_of (i := 468) (by decide +kernel) rfl
theorem tw_469 : (Jvm.Cond.methodLink "PatternBench$Reader" (100 : Nat) ({ cls := "PatternBench$Reader", name := "openChoice", desc := "()I" } : Jvm.MethodName)) ∈ mm_T := tw_of (i := 469) (by decide +kernel) rfl
theorem tw_471 : (Jvm.Cond.instanceMethod ({ cls := "PatternBench$Reader", name := "openChoice", desc := "()I" } : Jvm.MethodName)) ∈ mm_T := tw_of (i := 471) (by decide +kernel) rfl
theorem tw_472 : (Jvm.Cond.code ({ cls := "PatternBench$Reader", name := "openChoice", desc := "()I" } : Jvm.MethodName) prog_7_method_8_code (4 : Nat) (Option.some Jvm.ClassFile.FieldType.int)) ∈ mm_T := tw_of (i := 472) (by decide +kernel) rfl
theorem tw_473 : (Jvm.Cond.methodLink "PatternBench$Reader" (121 : Nat) ({ cls := "PatternBench$Reader", name := "kindOfChoice", desc := "()I" } : Jvm.MethodName)) ∈ mm_T := tw_of (i := 473) (by decide +kernel) rfl
theorem tw_475 : (Jvm.Cond.instanceMethod ({ cls := "PatternBench$Reader", name := "kindOfChoice", desc := "()I" } : Jvm.MethodName)) ∈ mm_T := tw_of (i := 475) (by decide +kernel) rfl
theorem tw_476 : (Jvm.Cond.code ({ cls := "PatternBench$Reader", name := "kindOfChoice", desc := "()I" } : Jvm.MethodName) prog_7_method_9_code (1 : Nat) (Option.some Jvm.ClassFile.FieldType.int)) ∈ mm_T := tw_of (i := 476) (by decide +kernel) rfl
theorem tw_477 : (Jvm.Cond.methodLink "PatternBench$Reader" (103 : Nat) ({ cls := "PatternBench$Reader", name := "readClass", desc := "()I" } : Jvm.MethodName)) ∈ mm_T := tw_of (i := 477) (by decide +kernel) rfl
theorem tw_479 : (Jvm.Cond.instanceMethod ({ cls := "PatternBench$Reader", name := "readClass", desc := "()I" } : Jvm.MethodName)) ∈ mm_T := tw_of (i := 479) (by decide +kernel) rfl
theorem tw_480 : (Jvm.Cond.code ({ cls := "PatternBench$Reader", name := "readClass", desc := "()I" } : Jvm.MethodName) prog_7_method_14_code (4 : Nat) (Option.some Jvm.ClassFile.FieldType.int)) ∈ mm_T := tw_of (i := 480) (by decide +kernel) rfl
theorem tw_481 : (Jvm.Cond.methodLinkNest "PatternBench$Reader" (139 : Nat) ({ cls := "PatternBench", name := "isLetter", desc := "(I)Z" } : Jvm.MethodName) "PatternBench") ∈ mm_N := tw_n (i := 481) (by decide +kernel) rfl
theorem tw_482 : (Jvm.Cond.methodLink "PatternBench$Reader" (146 : Nat) ({ cls := "PatternBench$Reader", name := "readClassPart", desc := "()I" } : Jvm.MethodName)) ∈ mm_T := tw_of (i := 482) (by decide +kernel) rfl
theorem tw_484 : (Jvm.Cond.instanceMethod ({ cls := "PatternBench$Reader", name := "readClassPart", desc := "()I" } : Jvm.MethodName)) ∈ mm_T := tw_of (i := 484) (by decide +kernel) rfl
theorem tw_485 : (Jvm.Cond.code ({ cls := "PatternBench$Reader", name := "readClassPart", desc := "()I" } : Jvm.MethodName) prog_7_method_15_code (3 : Nat) (Option.some Jvm.ClassFile.FieldType.int)) ∈ mm_T := tw_of (i := 485) (by decide +kernel) rfl
theorem tw_486 : (Jvm.Cond.methodLink "PatternBench$Reader" (142 : Nat) ({ cls := "PatternBench$Reader", name := "lettersBetween", desc := "(II)I" } : Jvm.MethodName)) ∈ mm_T := tw_of (i := 486) (by decide +kernel) rfl
theorem tw_487 : (Jvm.Cond.static ({ cls := "PatternBench$Reader", name := "lettersBetween", desc := "(II)I" } : Jvm.MethodName)) ∈ mm_T := tw_of (i := 487) (by decide +kernel) rfl
theorem tw_488 : (Jvm.Cond.code ({ cls := "PatternBench$Reader", name := "lettersBetween", desc := "(II)I" } : Jvm.MethodName) prog_7_method_16_code (2 : Nat) (Option.some Jvm.ClassFile.FieldType.int)) ∈ mm_T := tw_of (i := 488) (by decide +kernel) rfl
theorem tw_489 : (Jvm.Cond.constant "PatternBench$Reader" (145 : Nat) (67108863 : Int32)) ∈ mm_T := tw_of (i := 489) (by decide +kernel) rfl
theorem tw_490 : (Jvm.Cond.methodLink "PatternBench$Reader" (106 : Nat) ({ cls := "PatternBench$Reader", name := "readReference", desc := "()I" } : Jvm.MethodName)) ∈ mm_T := tw_of (i := 490) (by decide +kernel) rfl
theorem tw_492 : (Jvm.Cond.instanceMethod ({ cls := "PatternBench$Reader", name := "readReference", desc := "()I" } : Jvm.MethodName)) ∈ mm_T := tw_of (i := 492) (by decide +kernel) rfl
theorem tw_493 : (Jvm.Cond.code ({ cls := "PatternBench$Reader", name := "readReference", desc := "()I" } : Jvm.MethodName) prog_7_method_12_code (2 : Nat) (Option.some Jvm.ClassFile.FieldType.int)) ∈ mm_T := tw_of (i := 493) (by decide +kernel) rfl
theorem tw_494 : (Jvm.Cond.methodLink "PatternBench$Reader" (109 : Nat) ({ cls := "PatternBench$Reader", name := "readSign", desc := "()I" } : Jvm.MethodName)) ∈ mm_T := tw_of (i := 494) (by decide +kernel) rfl
theorem tw_496 : (Jvm.Cond.instanceMethod ({ cls := "PatternBench$Reader", name := "readSign", desc := "()I" } : Jvm.MethodName)) ∈ mm_T := tw_of (i := 496) (by decide +kernel) rfl
theorem tw_497 : (Jvm.Cond.code ({ cls := "PatternBench$Reader", name := "readSign", desc := "()I" } : Jvm.MethodName) prog_7_method_13_code (2 : Nat) (Option.some Jvm.ClassFile.FieldType.int)) ∈ mm_T := tw_of (i := 497) (by decide +kernel) rfl
theorem tw_498 : (Jvm.Cond.methodLink "PatternBench$Reader" (74 : Nat) ({ cls := "PatternBench$Reader", name := "readRepeat", desc := "(I)V" } : Jvm.MethodName)) ∈ mm_T := tw_of (i := 498) (by decide +kernel) rfl
theorem tw_500 : (Jvm.Cond.instanceMethod ({ cls := "PatternBench$Reader", name := "readRepeat", desc := "(I)V" } : Jvm.MethodName)) ∈ mm_T := tw_of (i := 500) (by decide +kernel) rfl
theorem tw_501 : (Jvm.Cond.code ({ cls := "PatternBench$Reader", name := "readRepeat", desc := "(I)V" } : Jvm.MethodName) prog_7_method_18_code (2 : Nat) (Option.none : Option Jvm.ClassFile.FieldType)) ∈ mm_T := tw_of (i := 501) (by decide +kernel) rfl
theorem tw_502 : (Jvm.Cond.methodLink "PatternBench$Reader" (158 : Nat) ({ cls := "PatternBench$Reader", name := "setRepeat", desc := "(IIII)V" } : Jvm.MethodName)) ∈ mm_T := tw_of (i := 502) (by decide +kernel) rfl
theorem tw_504 : (Jvm.Cond.instanceMethod ({ cls := "PatternBench$Reader", name := "setRepeat", desc := "(IIII)V" } : Jvm.MethodName)) ∈ mm_T := tw_of (i := 504) (by decide +kernel) rfl
theorem tw_505 : (Jvm.Cond.code ({ cls := "PatternBench$Reader", name := "setRepeat", desc := "(IIII)V" } : Jvm.MethodName) prog_7_method_20_code (5 : Nat) (Option.none : Option Jvm.ClassFile.FieldType)) ∈ mm_T := tw_of (i := 505) (by decide +kernel) rfl
theorem tw_506 : (Jvm.Cond.methodLink "PatternBench$Reader" (162 : Nat) ({ cls := "PatternBench$Reader", name := "readTimes", desc := "(I)V" } : Jvm.MethodName)) ∈ mm_T := tw_of (i := 506) (by decide +kernel) rfl
theorem tw_508 : (Jvm.Cond.instanceMethod ({ cls := "PatternBench$Reader", name := "readTimes", desc := "(I)V" } : Jvm.MethodName)) ∈ mm_T := tw_of (i := 508) (by decide +kernel) rfl
theorem tw_509 : (Jvm.Cond.code ({ cls := "PatternBench$Reader", name := "readTimes", desc := "(I)V" } : Jvm.MethodName) prog_7_method_19_code (3 : Nat) (Option.none : Option Jvm.ClassFile.FieldType)) ∈ mm_T := tw_of (i := 509) (by decide +kernel) rfl
theorem tw_510 : (Jvm.Cond.methodLink "PatternBenchLaw" (31 : Nat) ({ cls := "PatternBench", name := "feed", desc := "(I)I" } : Jvm.MethodName)) ∈ mm_T := tw_of (i := 510) (by decide +kernel) rfl
theorem tw_511 : (Jvm.Cond.instanceMethod ({ cls := "PatternBench", name := "feed", desc := "(I)I" } : Jvm.MethodName)) ∈ mm_T := tw_of (i := 511) (by decide +kernel) rfl
theorem tw_512 : (Jvm.Cond.selects "PatternBench" ({ cls := "PatternBench", name := "feed", desc := "(I)I" } : Jvm.MethodName) ({ cls := "PatternBench", name := "feed", desc := "(I)I" } : Jvm.MethodName)) ∈ mm_T := tw_of (i := 512) (by decide +kernel) rfl
theorem tw_513 : (Jvm.Cond.code ({ cls := "PatternBench", name := "feed", desc := "(I)I" } : Jvm.MethodName) prog_1_method_4_code (2 : Nat) (Option.some Jvm.ClassFile.FieldType.int)) ∈ mm_T := tw_of (i := 513) (by decide +kernel) rfl
theorem tw_514 : (Jvm.Cond.methodLink "PatternBenchLaw" (35 : Nat) ({ cls := "PatternBench", name := "clear", desc := "()I" } : Jvm.MethodName)) ∈ mm_T := tw_of (i := 514) (by decide +kernel) rfl
theorem tw_515 : (Jvm.Cond.instanceMethod ({ cls := "PatternBench", name := "clear", desc := "()I" } : Jvm.MethodName)) ∈ mm_T := tw_of (i := 515) (by decide +kernel) rfl
theorem tw_516 : (Jvm.Cond.selects "PatternBench" ({ cls := "PatternBench", name := "clear", desc := "()I" } : Jvm.MethodName) ({ cls := "PatternBench", name := "clear", desc := "()I" } : Jvm.MethodName)) ∈ mm_T := tw_of (i := 516) (by decide +kernel) rfl
theorem tw_517 : (Jvm.Cond.code ({ cls := "PatternBench", name := "clear", desc := "()I" } : Jvm.MethodName) prog_1_method_5_code (2 : Nat) (Option.some Jvm.ClassFile.FieldType.int)) ∈ mm_T := tw_of (i := 517) (by decide +kernel) rfl
theorem tw_518 : (Jvm.Cond.methodLink "PatternBenchLaw" (39 : Nat) ({ cls := "PatternBench", name := "search", desc := "(I)I" } : Jvm.MethodName)) ∈ mm_T := tw_of (i := 518) (by decide +kernel) rfl
theorem tw_519 : (Jvm.Cond.instanceMethod ({ cls := "PatternBench", name := "search", desc := "(I)I" } : Jvm.MethodName)) ∈ mm_T := tw_of (i := 519) (by decide +kernel) rfl
theorem tw_520 : (Jvm.Cond.selects "PatternBench" ({ cls := "PatternBench", name := "search", desc := "(I)I" } : Jvm.MethodName) ({ cls := "PatternBench", name := "search", desc := "(I)I" } : Jvm.MethodName)) ∈ mm_T := tw_of (i := 520) (by decide +kernel) rfl
theorem tw_521 : (Jvm.Cond.code ({ cls := "PatternBench", name := "search", desc := "(I)I" } : Jvm.MethodName) prog_1_method_6_code (2 : Nat) (Option.some Jvm.ClassFile.FieldType.int)) ∈ mm_T := tw_of (i := 521) (by decide +kernel) rfl
theorem tw_522 : (Jvm.Cond.methodLink "PatternBench" (98 : Nat) ({ cls := "PatternBench", name := "searchFrom", desc := "(I)I" } : Jvm.MethodName)) ∈ mm_T := tw_of (i := 522) (by decide +kernel) rfl
theorem tw_524 : (Jvm.Cond.instanceMethod ({ cls := "PatternBench", name := "searchFrom", desc := "(I)I" } : Jvm.MethodName)) ∈ mm_T := tw_of (i := 524) (by decide +kernel) rfl
theorem tw_525 : (Jvm.Cond.code ({ cls := "PatternBench", name := "searchFrom", desc := "(I)I" } : Jvm.MethodName) prog_1_method_13_code (3 : Nat) (Option.some Jvm.ClassFile.FieldType.int)) ∈ mm_T := tw_of (i := 525) (by decide +kernel) rfl
theorem tw_526 : (Jvm.Cond.methodLink "PatternBench" (114 : Nat) ({ cls := "PatternBench$Matcher", name := "find", desc := "(I)I" } : Jvm.MethodName)) ∈ mm_T := tw_of (i := 526) (by decide +kernel) rfl
theorem tw_527 : (Jvm.Cond.instanceMethod ({ cls := "PatternBench$Matcher", name := "find", desc := "(I)I" } : Jvm.MethodName)) ∈ mm_T := tw_of (i := 527) (by decide +kernel) rfl
theorem tw_528 : (Jvm.Cond.selects "PatternBench$Matcher" ({ cls := "PatternBench$Matcher", name := "find", desc := "(I)I" } : Jvm.MethodName) ({ cls := "PatternBench$Matcher", name := "find", desc := "(I)I" } : Jvm.MethodName)) ∈ mm_T := tw_of (i := 528) (by decide +kernel) rfl
theorem tw_529 : (Jvm.Cond.code ({ cls := "PatternBench$Matcher", name := "find", desc := "(I)I" } : Jvm.MethodName) prog_5_method_2_code (4 : Nat) (Option.some Jvm.ClassFile.FieldType.int)) ∈ mm_T := tw_of (i := 529) (by decide +kernel) rfl
theorem tw_530 : (Jvm.Cond.methodLink "PatternBench$Matcher" (67 : Nat) ({ cls := "PatternBench$Matcher", name := "beginAt", desc := "(I)V" } : Jvm.MethodName)) ∈ mm_T := tw_of (i := 530) (by decide +kernel) rfl
theorem tw_532 : (Jvm.Cond.instanceMethod ({ cls := "PatternBench$Matcher", name := "beginAt", desc := "(I)V" } : Jvm.MethodName)) ∈ mm_T := tw_of (i := 532) (by decide +kernel) rfl
theorem tw_533 : (Jvm.Cond.code ({ cls := "PatternBench$Matcher", name := "beginAt", desc := "(I)V" } : Jvm.MethodName) prog_5_method_3_code (2 : Nat) (Option.none : Option Jvm.ClassFile.FieldType)) ∈ mm_T := tw_of (i := 533) (by decide +kernel) rfl
theorem tw_534 : (Jvm.Cond.methodLink "PatternBench$Matcher" (78 : Nat) ({ cls := "PatternBench$Frames", name := "empty", desc := "()V" } : Jvm.MethodName)) ∈ mm_T := tw_of (i := 534) (by decide +kernel) rfl
theorem tw_535 : (Jvm.Cond.instanceMethod ({ cls := "PatternBench$Frames", name := "empty", desc := "()V" } : Jvm.MethodName)) ∈ mm_T := tw_of (i := 535) (by decide +kernel) rfl
theorem tw_536 : (Jvm.Cond.selects "PatternBench$Frames" ({ cls := "PatternBench$Frames", name := "empty", desc := "()V" } : Jvm.MethodName) ({ cls := "PatternBench$Frames", name := "empty", desc := "()V" } : Jvm.MethodName)) ∈ mm_T := tw_of (i := 536) (by decide +kernel) rfl
theorem tw_537 : (Jvm.Cond.code ({ cls := "PatternBench$Frames", name := "empty", desc := "()V" } : Jvm.MethodName) prog_4_method_2_code (1 : Nat) (Option.none : Option Jvm.ClassFile.FieldType)) ∈ mm_T := tw_of (i := 537) (by decide +kernel) rfl
theorem tw_538 : (Jvm.Cond.methodLink "PatternBench$Matcher" (81 : Nat) ({ cls := "PatternBench$Choices", name := "cutTo", desc := "(I)V" } : Jvm.MethodName)) ∈ mm_T := tw_of (i := 538) (by decide +kernel) rfl
theorem tw_539 : (Jvm.Cond.instanceMethod ({ cls := "PatternBench$Choices", name := "cutTo", desc := "(I)V" } : Jvm.MethodName)) ∈ mm_T := tw_of (i := 539) (by decide +kernel) rfl
theorem tw_540 : (Jvm.Cond.selects "PatternBench$Choices" ({ cls := "PatternBench$Choices", name := "cutTo", desc := "(I)V" } : Jvm.MethodName) ({ cls := "PatternBench$Choices", name := "cutTo", desc := "(I)V" } : Jvm.MethodName)) ∈ mm_T := tw_of (i := 540) (by decide +kernel) rfl
theorem tw_541 : (Jvm.Cond.code ({ cls := "PatternBench$Choices", name := "cutTo", desc := "(I)V" } : Jvm.MethodName) prog_3_method_4_code (2 : Nat) (Option.none : Option Jvm.ClassFile.FieldType)) ∈ mm_T := tw_of (i := 541) (by decide +kernel) rfl
theorem tw_542 : (Jvm.Cond.methodLink "PatternBench$Matcher" (88 : Nat) ({ cls := "PatternBench$Matcher", name := "go", desc := "(II)V" } : Jvm.MethodName)) ∈ mm_T := tw_of (i := 542) (by decide +kernel) rfl
theorem tw_544 : (Jvm.Cond.instanceMethod ({ cls := "PatternBench$Matcher", name := "go", desc := "(II)V" } : Jvm.MethodName)) ∈ mm_T := tw_of (i := 544) (by decide +kernel) rfl
theorem tw_545 : (Jvm.Cond.code ({ cls := "PatternBench$Matcher", name := "go", desc := "(II)V" } : Jvm.MethodName) prog_5_method_5_code (3 : Nat) (Option.none : Option Jvm.ClassFile.FieldType)) ∈ mm_T := tw_of (i := 545) (by decide +kernel) rfl
theorem tw_546 : (Jvm.Cond.constant "PatternBench$Matcher" (70 : Nat) (1000000 : Int32)) ∈ mm_T := tw_of (i := 546) (by decide +kernel) rfl
theorem tw_547 : (Jvm.Cond.methodLink "PatternBench$Matcher" (71 : Nat) ({ cls := "PatternBench$Matcher", name := "goesOn", desc := "()Z" } : Jvm.MethodName)) ∈ mm_T := tw_of (i := 547) (by decide +kernel) rfl
theorem tw_549 : (Jvm.Cond.instanceMethod ({ cls := "PatternBench$Matcher", name := "goesOn", desc := "()Z" } : Jvm.MethodName)) ∈ mm_T := tw_of (i := 549) (by decide +kernel) rfl
theorem tw_550 : (Jvm.Cond.code ({ cls := "PatternBench$Matcher", name := "goesOn", desc := "()Z" } : Jvm.MethodName) prog_5_method_4_code (1 : Nat) (Option.some Jvm.ClassFile.FieldType.boolean)) ∈ mm_T := tw_of (i := 550) (by decide +kernel) rfl
theorem tw_551 : (Jvm.Cond.methodLink "PatternBench$Matcher" (92 : Nat) ({ cls := "PatternBench$Frames", name := "hasRoom", desc := "(I)Z" } : Jvm.MethodName)) ∈ mm_T := tw_of (i := 551) (by decide +kernel) rfl
theorem tw_552 : (Jvm.Cond.instanceMethod ({ cls := "PatternBench$Frames", name := "hasRoom", desc := "(I)Z" } : Jvm.MethodName)) ∈ mm_T := tw_of (i := 552) (by decide +kernel) rfl
theorem tw_553 : (Jvm.Cond.selects "PatternBench$Frames" ({ cls := "PatternBench$Frames", name := "hasRoom", desc := "(I)Z" } : Jvm.MethodName) ({ cls := "PatternBench$Frames", name := "hasRoom", desc := "(I)Z" } : Jvm.MethodName)) ∈ mm_T := tw_of (i := 553) (by decide +kernel) rfl
theorem tw_554 : (Jvm.Cond.code ({ cls := "PatternBench$Frames", name := "hasRoom", desc := "(I)Z" } : Jvm.MethodName) prog_4_method_3_code (2 : Nat) (Option.some Jvm.ClassFile.FieldType.boolean)) ∈ mm_T := tw_of (i := 554) (by decide +kernel) rfl
theorem tw_555 : (Jvm.Cond.methodLink "PatternBench$Matcher" (96 : Nat) ({ cls := "PatternBench$Choices", name := "hasRoom", desc := "(I)Z" } : Jvm.MethodName)) ∈ mm_T := tw_of (i := 555) (by decide +kernel) rfl
theorem tw_556 : (Jvm.Cond.instanceMethod ({ cls := "PatternBench$Choices", name := "hasRoom", desc := "(I)Z" } : Jvm.MethodName)) ∈ mm_T := tw_of (i := 556) (by decide +kernel) rfl
theorem tw_557 : (Jvm.Cond.selects "PatternBench$Choices" ({ cls := "PatternBench$Choices", name := "hasRoom", desc := "(I)Z" } : Jvm.MethodName) ({ cls := "PatternBench$Choices", name := "hasRoom", desc := "(I)Z" } : Jvm.MethodName)) ∈ mm_T := tw_of (i := 557) (by decide +kernel) rfl
theorem tw_558 : (Jvm.Cond.code ({ cls := "PatternBench$Choices", name := "hasRoom", desc := "(I)Z" } : Jvm.MethodName) prog_3_method_2_code (2 : Nat) (Option.some Jvm.ClassFile.FieldType.boolean)) ∈ mm_T := tw_of (i := 558) (by decide +kernel) rfl
theorem tw_559 : (Jvm.Cond.methodLink "PatternBench$Matcher" (75 : Nat) ({ cls := "PatternBench$Matcher", name := "takeTurn", desc := "()V" } : Jvm.MethodName)) ∈ mm_T := tw_of (i := 559) (by decide +kernel) rfl
theorem tw_561 : (Jvm.Cond.instanceMethod ({ cls := "PatternBench$Matcher", name := "takeTurn", desc := "()V" } : Jvm.MethodName)) ∈ mm_T := tw_of (i := 561) (by decide +kernel) rfl
theorem tw_562 : (Jvm.Cond.code ({ cls := "PatternBench$Matcher", name := "takeTurn", desc := "()V" } : Jvm.MethodName) prog_5_method_6_code (1 : Nat) (Option.none : Option Jvm.ClassFile.FieldType)) ∈ mm_T := tw_of (i := 562) (by decide +kernel) rfl
theorem tw_563 : (Jvm.Cond.methodLink "PatternBench$Matcher" (97 : Nat) ({ cls := "PatternBench$Matcher", name := "enterRow", desc := "(I)V" } : Jvm.MethodName)) ∈ mm_T := tw_of (i := 563) (by decide +kernel) rfl
theorem tw_565 : (Jvm.Cond.instanceMethod ({ cls := "PatternBench$Matcher", name := "enterRow", desc := "(I)V" } : Jvm.MethodName)) ∈ mm_T := tw_of (i := 565) (by decide +kernel) rfl
theorem tw_566 : (Jvm.Cond.code ({ cls := "PatternBench$Matcher", name := "enterRow", desc := "(I)V" } : Jvm.MethodName) prog_5_method_7_code (3 : Nat) (Option.none : Option Jvm.ClassFile.FieldType)) ∈ mm_T := tw_of (i := 566) (by decide +kernel) rfl
theorem tw_567 : (Jvm.Cond.methodLink "PatternBench$Matcher" (124 : Nat) ({ cls := "PatternBench$Choices", name := "add", desc := "(IIIJI)V" } : Jvm.MethodName)) ∈ mm_T := tw_of (i := 567) (by decide +kernel) rfl
theorem tw_568 : (Jvm.Cond.instanceMethod ({ cls := "PatternBench$Choices", name := "add", desc := "(IIIJI)V" } : Jvm.MethodName)) ∈ mm_T := tw_of (i := 568) (by decide +kernel) rfl
theorem tw_569 : (Jvm.Cond.selects "PatternBench$Choices" ({ cls := "PatternBench$Choices", name := "add", desc := "(IIIJI)V" } : Jvm.MethodName) ({ cls := "PatternBench$Choices", name := "add", desc := "(IIIJI)V" } : Jvm.MethodName)) ∈ mm_T := tw_of (i := 569) (by decide +kernel) rfl
theorem tw_570 : (Jvm.Cond.code ({ cls := "PatternBench$Choices", name := "add", desc := "(IIIJI)V" } : Jvm.MethodName) prog_3_method_3_code (7 : Nat) (Option.none : Option Jvm.ClassFile.FieldType)) ∈ mm_T := tw_of (i := 570) (by decide +kernel) rfl
theorem tw_571 : (Jvm.Cond.methodLink "PatternBench$Matcher" (100 : Nat) ({ cls := "PatternBench$Matcher", name := "enterItem", desc := "(I)V" } : Jvm.MethodName)) ∈ mm_T := tw_of (i := 571) (by decide +kernel) rfl
theorem tw_573 : (Jvm.Cond.instanceMethod ({ cls := "PatternBench$Matcher", name := "enterItem", desc := "(I)V" } : Jvm.MethodName)) ∈ mm_T := tw_of (i := 573) (by decide +kernel) rfl
theorem tw_574 : (Jvm.Cond.code ({ cls := "PatternBench$Matcher", name := "enterItem", desc := "(I)V" } : Jvm.MethodName) prog_5_method_8_code (3 : Nat) (Option.none : Option Jvm.ClassFile.FieldType)) ∈ mm_T := tw_of (i := 574) (by decide +kernel) rfl
theorem tw_575 : (Jvm.Cond.methodLink "PatternBench$Matcher" (143 : Nat) ({ cls := "PatternBench$Frames", name := "add", desc := "(IIIIJI)I" } : Jvm.MethodName)) ∈ mm_T := tw_of (i := 575) (by decide +kernel) rfl
theorem tw_576 : (Jvm.Cond.instanceMethod ({ cls := "PatternBench$Frames", name := "add", desc := "(IIIIJI)I" } : Jvm.MethodName)) ∈ mm_T := tw_of (i := 576) (by decide +kernel) rfl
theorem tw_577 : (Jvm.Cond.selects "PatternBench$Frames" ({ cls := "PatternBench$Frames", name := "add", desc := "(IIIIJI)I" } : Jvm.MethodName) ({ cls := "PatternBench$Frames", name := "add", desc := "(IIIIJI)I" } : Jvm.MethodName)) ∈ mm_T := tw_of (i := 577) (by decide +kernel) rfl
theorem tw_578 : (Jvm.Cond.code ({ cls := "PatternBench$Frames", name := "add", desc := "(IIIIJI)I" } : Jvm.MethodName) prog_4_method_4_code (9 : Nat) (Option.some Jvm.ClassFile.FieldType.int)) ∈ mm_T := tw_of (i := 578) (by decide +kernel) rfl
theorem tw_579 : (Jvm.Cond.methodLink "PatternBench$Matcher" (146 : Nat) ({ cls := "PatternBench$Matcher", name := "fork", desc := "(I)V" } : Jvm.MethodName)) ∈ mm_T := tw_of (i := 579) (by decide +kernel) rfl
theorem tw_581 : (Jvm.Cond.instanceMethod ({ cls := "PatternBench$Matcher", name := "fork", desc := "(I)V" } : Jvm.MethodName)) ∈ mm_T := tw_of (i := 581) (by decide +kernel) rfl
theorem tw_582 : (Jvm.Cond.code ({ cls := "PatternBench$Matcher", name := "fork", desc := "(I)V" } : Jvm.MethodName) prog_5_method_9_code (3 : Nat) (Option.none : Option Jvm.ClassFile.FieldType)) ∈ mm_T := tw_of (i := 582) (by decide +kernel) rfl
theorem tw_583 : (Jvm.Cond.methodLink "PatternBench$Matcher" (103 : Nat) ({ cls := "PatternBench$Matcher", name := "tryAtom", desc := "(I)V" } : Jvm.MethodName)) ∈ mm_T := tw_of (i := 583) (by decide +kernel) rfl
theorem tw_585 : (Jvm.Cond.instanceMethod ({ cls := "PatternBench$Matcher", name := "tryAtom", desc := "(I)V" } : Jvm.MethodName)) ∈ mm_T := tw_of (i := 585) (by decide +kernel) rfl
theorem tw_586 : (Jvm.Cond.code ({ cls := "PatternBench$Matcher", name := "tryAtom", desc := "(I)V" } : Jvm.MethodName) prog_5_method_10_code (2 : Nat) (Option.none : Option Jvm.ClassFile.FieldType)) ∈ mm_T := tw_of (i := 586) (by decide +kernel) rfl
theorem tw_587 : (Jvm.Cond.methodLink "PatternBench$Matcher" (106 : Nat) ({ cls := "PatternBench$Matcher", name := "ask", desc := "(I)V" } : Jvm.MethodName)) ∈ mm_T := tw_of (i := 587) (by decide +kernel) rfl
theorem tw_589 : (Jvm.Cond.instanceMethod ({ cls := "PatternBench$Matcher", name := "ask", desc := "(I)V" } : Jvm.MethodName)) ∈ mm_T := tw_of (i := 589) (by decide +kernel) rfl
theorem tw_590 : (Jvm.Cond.code ({ cls := "PatternBench$Matcher", name := "ask", desc := "(I)V" } : Jvm.MethodName) prog_5_method_14_code (2 : Nat) (Option.none : Option Jvm.ClassFile.FieldType)) ∈ mm_T := tw_of (i := 590) (by decide +kernel) rfl
theorem tw_591 : (Jvm.Cond.methodLink "PatternBench$Matcher" (166 : Nat) ({ cls := "PatternBench$Matcher", name := "askLetter", desc := "(I)V" } : Jvm.MethodName)) ∈ mm_T := tw_of (i := 591) (by decide +kernel) rfl
theorem tw_593 : (Jvm.Cond.instanceMethod ({ cls := "PatternBench$Matcher", name := "askLetter", desc := "(I)V" } : Jvm.MethodName)) ∈ mm_T := tw_of (i := 593) (by decide +kernel) rfl
theorem tw_594 : (Jvm.Cond.code ({ cls := "PatternBench$Matcher", name := "askLetter", desc := "(I)V" } : Jvm.MethodName) prog_5_method_15_code (2 : Nat) (Option.none : Option Jvm.ClassFile.FieldType)) ∈ mm_T := tw_of (i := 594) (by decide +kernel) rfl
theorem tw_595 : (Jvm.Cond.methodLink "PatternBench$Matcher" (172 : Nat) ({ cls := "PatternBench$Matcher", name := "askSame", desc := "(I)V" } : Jvm.MethodName)) ∈ mm_T := tw_of (i := 595) (by decide +kernel) rfl
theorem tw_597 : (Jvm.Cond.instanceMethod ({ cls := "PatternBench$Matcher", name := "askSame", desc := "(I)V" } : Jvm.MethodName)) ∈ mm_T := tw_of (i := 597) (by decide +kernel) rfl
theorem tw_598 : (Jvm.Cond.code ({ cls := "PatternBench$Matcher", name := "askSame", desc := "(I)V" } : Jvm.MethodName) prog_5_method_16_code (4 : Nat) (Option.none : Option Jvm.ClassFile.FieldType)) ∈ mm_T := tw_of (i := 598) (by decide +kernel) rfl
theorem tw_599 : (Jvm.Cond.methodLink "PatternBench$Matcher" (184 : Nat) ({ cls := "PatternBench$Captures", name := "from", desc := "(JI)I" } : Jvm.MethodName)) ∈ mm_T := tw_of (i := 599) (by decide +kernel) rfl
theorem tw_600 : (Jvm.Cond.static ({ cls := "PatternBench$Captures", name := "from", desc := "(JI)I" } : Jvm.MethodName)) ∈ mm_T := tw_of (i := 600) (by decide +kernel) rfl
theorem tw_601 : (Jvm.Cond.code ({ cls := "PatternBench$Captures", name := "from", desc := "(JI)I" } : Jvm.MethodName) prog_2_method_3_code (4 : Nat) (Option.some Jvm.ClassFile.FieldType.int)) ∈ mm_T := tw_of (i := 601) (by decide +kernel) rfl
theorem tw_602 : (Jvm.Cond.methodLink "PatternBench$Matcher" (190 : Nat) ({ cls := "PatternBench$Captures", name := "to", desc := "(JI)I" } : Jvm.MethodName)) ∈ mm_T := tw_of (i := 602) (by decide +kernel) rfl
theorem tw_603 : (Jvm.Cond.static ({ cls := "PatternBench$Captures", name := "to", desc := "(JI)I" } : Jvm.MethodName)) ∈ mm_T := tw_of (i := 603) (by decide +kernel) rfl
theorem tw_604 : (Jvm.Cond.code ({ cls := "PatternBench$Captures", name := "to", desc := "(JI)I" } : Jvm.MethodName) prog_2_method_4_code (4 : Nat) (Option.some Jvm.ClassFile.FieldType.int)) ∈ mm_T := tw_of (i := 604) (by decide +kernel) rfl
theorem tw_605 : (Jvm.Cond.methodLink "PatternBench$Matcher" (193 : Nat) ({ cls := "PatternBench$Matcher", name := "standsHere", desc := "(II)Z" } : Jvm.MethodName)) ∈ mm_T := tw_of (i := 605) (by decide +kernel) rfl
theorem tw_607 : (Jvm.Cond.instanceMethod ({ cls := "PatternBench$Matcher", name := "standsHere", desc := "(II)Z" } : Jvm.MethodName)) ∈ mm_T := tw_of (i := 607) (by decide +kernel) rfl
theorem tw_608 : (Jvm.Cond.code ({ cls := "PatternBench$Matcher", name := "standsHere", desc := "(II)Z" } : Jvm.MethodName) prog_5_method_17_code (4 : Nat) (Option.some Jvm.ClassFile.FieldType.boolean)) ∈ mm_T := tw_of (i := 608) (by decide +kernel) rfl
theorem tw_609 : (Jvm.Cond.methodLink "PatternBench$Matcher" (175 : Nat) ({ cls := "PatternBench$Matcher", name := "askCall", desc := "(I)V" } : Jvm.MethodName)) ∈ mm_T := tw_of (i := 609) (by decide +kernel) rfl
theorem tw_611 : (Jvm.Cond.instanceMethod ({ cls := "PatternBench$Matcher", name := "askCall", desc := "(I)V" } : Jvm.MethodName)) ∈ mm_T := tw_of (i := 611) (by decide +kernel) rfl
theorem tw_612 : (Jvm.Cond.code ({ cls := "PatternBench$Matcher", name := "askCall", desc := "(I)V" } : Jvm.MethodName) prog_5_method_18_code (2 : Nat) (Option.none : Option Jvm.ClassFile.FieldType)) ∈ mm_T := tw_of (i := 612) (by decide +kernel) rfl
theorem tw_613 : (Jvm.Cond.methodLink "PatternBench$Matcher" (178 : Nat) ({ cls := "PatternBench$Matcher", name := "askBody", desc := "(I)V" } : Jvm.MethodName)) ∈ mm_T := tw_of (i := 613) (by decide +kernel) rfl
theorem tw_615 : (Jvm.Cond.instanceMethod ({ cls := "PatternBench$Matcher", name := "askBody", desc := "(I)V" } : Jvm.MethodName)) ∈ mm_T := tw_of (i := 615) (by decide +kernel) rfl
theorem tw_616 : (Jvm.Cond.code ({ cls := "PatternBench$Matcher", name := "askBody", desc := "(I)V" } : Jvm.MethodName) prog_5_method_19_code (3 : Nat) (Option.none : Option Jvm.ClassFile.FieldType)) ∈ mm_T := tw_of (i := 616) (by decide +kernel) rfl
theorem tw_617 : (Jvm.Cond.methodLink "PatternBench$Matcher" (109 : Nat) ({ cls := "PatternBench$Matcher", name := "goAfterAtom", desc := "(I)V" } : Jvm.MethodName)) ∈ mm_T := tw_of (i := 617) (by decide +kernel) rfl
theorem tw_619 : (Jvm.Cond.instanceMethod ({ cls := "PatternBench$Matcher", name := "goAfterAtom", desc := "(I)V" } : Jvm.MethodName)) ∈ mm_T := tw_of (i := 619) (by decide +kernel) rfl
theorem tw_620 : (Jvm.Cond.code ({ cls := "PatternBench$Matcher", name := "goAfterAtom", desc := "(I)V" } : Jvm.MethodName) prog_5_method_11_code (3 : Nat) (Option.none : Option Jvm.ClassFile.FieldType)) ∈ mm_T := tw_of (i := 620) (by decide +kernel) rfl
theorem tw_621 : (Jvm.Cond.methodLink "PatternBench$Matcher" (112 : Nat) ({ cls := "PatternBench$Matcher", name := "goAfterItem", desc := "(I)V" } : Jvm.MethodName)) ∈ mm_T := tw_of (i := 621) (by decide +kernel) rfl
theorem tw_623 : (Jvm.Cond.instanceMethod ({ cls := "PatternBench$Matcher", name := "goAfterItem", desc := "(I)V" } : Jvm.MethodName)) ∈ mm_T := tw_of (i := 623) (by decide +kernel) rfl
theorem tw_624 : (Jvm.Cond.code ({ cls := "PatternBench$Matcher", name := "goAfterItem", desc := "(I)V" } : Jvm.MethodName) prog_5_method_12_code (2 : Nat) (Option.none : Option Jvm.ClassFile.FieldType)) ∈ mm_T := tw_of (i := 624) (by decide +kernel) rfl
theorem tw_625 : (Jvm.Cond.methodLink "PatternBench$Matcher" (115 : Nat) ({ cls := "PatternBench$Matcher", name := "resume", desc := "(I)V" } : Jvm.MethodName)) ∈ mm_T := tw_of (i := 625) (by decide +kernel) rfl
theorem tw_627 : (Jvm.Cond.instanceMethod ({ cls := "PatternBench$Matcher", name := "resume", desc := "(I)V" } : Jvm.MethodName)) ∈ mm_T := tw_of (i := 627) (by decide +kernel) rfl
theorem tw_628 : (Jvm.Cond.code ({ cls := "PatternBench$Matcher", name := "resume", desc := "(I)V" } : Jvm.MethodName) prog_5_method_20_code (3 : Nat) (Option.none : Option Jvm.ClassFile.FieldType)) ∈ mm_T := tw_of (i := 628) (by decide +kernel) rfl
theorem tw_629 : (Jvm.Cond.methodLink "PatternBench$Matcher" (210 : Nat) ({ cls := "PatternBench$Matcher", name := "leaveBody", desc := "(II)V" } : Jvm.MethodName)) ∈ mm_T := tw_of (i := 629) (by decide +kernel) rfl
theorem tw_631 : (Jvm.Cond.instanceMethod ({ cls := "PatternBench$Matcher", name := "leaveBody", desc := "(II)V" } : Jvm.MethodName)) ∈ mm_T := tw_of (i := 631) (by decide +kernel) rfl
theorem tw_632 : (Jvm.Cond.code ({ cls := "PatternBench$Matcher", name := "leaveBody", desc := "(II)V" } : Jvm.MethodName) prog_5_method_22_code (4 : Nat) (Option.none : Option Jvm.ClassFile.FieldType)) ∈ mm_T := tw_of (i := 632) (by decide +kernel) rfl
theorem tw_633 : (Jvm.Cond.methodLink "PatternBench$Matcher" (221 : Nat) ({ cls := "PatternBench$Captures", name := "with", desc := "(JIII)J" } : Jvm.MethodName)) ∈ mm_T := tw_of (i := 633) (by decide +kernel) rfl
theorem tw_634 : (Jvm.Cond.static ({ cls := "PatternBench$Captures", name := "with", desc := "(JIII)J" } : Jvm.MethodName)) ∈ mm_T := tw_of (i := 634) (by decide +kernel) rfl
theorem tw_635 : (Jvm.Cond.code ({ cls := "PatternBench$Captures", name := "with", desc := "(JIII)J" } : Jvm.MethodName) prog_2_method_2_code (8 : Nat) (Option.some Jvm.ClassFile.FieldType.long)) ∈ mm_T := tw_of (i := 635) (by decide +kernel) rfl
theorem tw_636 : (Jvm.Cond.constantLong "PatternBench$Captures" (11 : Nat) (4095 : Int64)) ∈ mm_T := tw_of (i := 636) (by decide +kernel) rfl
theorem tw_637 : (Jvm.Cond.constantLong "PatternBench$Captures" (13 : Nat) (-1 : Int64)) ∈ mm_T := tw_of (i := 637) (by decide +kernel) rfl
theorem tw_638 : (Jvm.Cond.methodLink "PatternBench$Matcher" (215 : Nat) ({ cls := "PatternBench$Matcher", name := "leaveTimesTurn", desc := "(II)V" } : Jvm.MethodName)) ∈ mm_T := tw_of (i := 638) (by decide +kernel) rfl
theorem tw_640 : (Jvm.Cond.instanceMethod ({ cls := "PatternBench$Matcher", name := "leaveTimesTurn", desc := "(II)V" } : Jvm.MethodName)) ∈ mm_T := tw_of (i := 640) (by decide +kernel) rfl
theorem tw_641 : (Jvm.Cond.code ({ cls := "PatternBench$Matcher", name := "leaveTimesTurn", desc := "(II)V" } : Jvm.MethodName) prog_5_method_21_code (4 : Nat) (Option.none : Option Jvm.ClassFile.FieldType)) ∈ mm_T := tw_of (i := 641) (by decide +kernel) rfl
theorem tw_642 : (Jvm.Cond.methodLink "PatternBench$Matcher" (118 : Nat) ({ cls := "PatternBench$Matcher", name := "takeChoice", desc := "()V" } : Jvm.MethodName)) ∈ mm_T := tw_of (i := 642) (by decide +kernel) rfl
theorem tw_644 : (Jvm.Cond.instanceMethod ({ cls := "PatternBench$Matcher", name := "takeChoice", desc := "()V" } : Jvm.MethodName)) ∈ mm_T := tw_of (i := 644) (by decide +kernel) rfl
theorem tw_645 : (Jvm.Cond.code ({ cls := "PatternBench$Matcher", name := "takeChoice", desc := "()V" } : Jvm.MethodName) prog_5_method_13_code (2 : Nat) (Option.none : Option Jvm.ClassFile.FieldType)) ∈ mm_T := tw_of (i := 645) (by decide +kernel) rfl
theorem tw_646 : (Jvm.Cond.methodLink "PatternBenchLaw" (43 : Nat) ({ cls := "PatternBench", name := "again", desc := "()I" } : Jvm.MethodName)) ∈ mm_T := tw_of (i := 646) (by decide +kernel) rfl
theorem tw_647 : (Jvm.Cond.instanceMethod ({ cls := "PatternBench", name := "again", desc := "()I" } : Jvm.MethodName)) ∈ mm_T := tw_of (i := 647) (by decide +kernel) rfl
theorem tw_648 : (Jvm.Cond.selects "PatternBench" ({ cls := "PatternBench", name := "again", desc := "()I" } : Jvm.MethodName) ({ cls := "PatternBench", name := "again", desc := "()I" } : Jvm.MethodName)) ∈ mm_T := tw_of (i := 648) (by decide +kernel) rfl
theorem tw_649 : (Jvm.Cond.code ({ cls := "PatternBench", name := "again", desc := "()I" } : Jvm.MethodName) prog_1_method_7_code (2 : Nat) (Option.some Jvm.ClassFile.FieldType.int)) ∈ mm_T := tw_of (i := 649) (by decide +kernel) rfl
theorem tw_650 : (Jvm.Cond.methodLink "PatternBench" (101 : Nat) ({ cls := "PatternBench", name := "placeBehindMatch", desc := "()I" } : Jvm.MethodName)) ∈ mm_T := tw_of (i := 650) (by decide +kernel) rfl
theorem tw_652 : (Jvm.Cond.instanceMethod ({ cls := "PatternBench", name := "placeBehindMatch", desc := "()I" } : Jvm.MethodName)) ∈ mm_T := tw_of (i := 652) (by decide +kernel) rfl
theorem tw_653 : (Jvm.Cond.code ({ cls := "PatternBench", name := "placeBehindMatch", desc := "()I" } : Jvm.MethodName) prog_1_method_14_code (1 : Nat) (Option.some Jvm.ClassFile.FieldType.int)) ∈ mm_T := tw_of (i := 653) (by decide +kernel) rfl
theorem tw_654 : (Jvm.Cond.methodLink "PatternBenchLaw" (47 : Nat) ({ cls := "PatternBench", name := "start", desc := "(I)I" } : Jvm.MethodName)) ∈ mm_T := tw_of (i := 654) (by decide +kernel) rfl
theorem tw_655 : (Jvm.Cond.instanceMethod ({ cls := "PatternBench", name := "start", desc := "(I)I" } : Jvm.MethodName)) ∈ mm_T := tw_of (i := 655) (by decide +kernel) rfl
theorem tw_656 : (Jvm.Cond.selects "PatternBench" ({ cls := "PatternBench", name := "start", desc := "(I)I" } : Jvm.MethodName) ({ cls := "PatternBench", name := "start", desc := "(I)I" } : Jvm.MethodName)) ∈ mm_T := tw_of (i := 656) (by decide +kernel) rfl
theorem tw_657 : (Jvm.Cond.code ({ cls := "PatternBench", name := "start", desc := "(I)I" } : Jvm.MethodName) prog_1_method_8_code (2 : Nat) (Option.some Jvm.ClassFile.FieldType.int)) ∈ mm_T := tw_of (i := 657) (by decide +kernel) rfl
theorem tw_658 : (Jvm.Cond.methodLink "PatternBench" (105 : Nat) ({ cls := "PatternBench$Captures", name := "from", desc := "(JI)I" } : Jvm.MethodName)) ∈ mm_T := tw_of (i := 658) (by decide +kernel) rfl
theorem tw_659 : (Jvm.Cond.methodLink "PatternBenchLaw" (51 : Nat) ({ cls := "PatternBench", name := "end", desc := "(I)I" } : Jvm.MethodName)) ∈ mm_T := tw_of (i := 659) (by decide +kernel) rfl
theorem tw_660 : (Jvm.Cond.instanceMethod ({ cls := "PatternBench", name := "end", desc := "(I)I" } : Jvm.MethodName)) ∈ mm_T := tw_of (i := 660) (by decide +kernel) rfl
theorem tw_661 : (Jvm.Cond.selects "PatternBench" ({ cls := "PatternBench", name := "end", desc := "(I)I" } : Jvm.MethodName) ({ cls := "PatternBench", name := "end", desc := "(I)I" } : Jvm.MethodName)) ∈ mm_T := tw_of (i := 661) (by decide +kernel) rfl
theorem tw_662 : (Jvm.Cond.code ({ cls := "PatternBench", name := "end", desc := "(I)I" } : Jvm.MethodName) prog_1_method_9_code (2 : Nat) (Option.some Jvm.ClassFile.FieldType.int)) ∈ mm_T := tw_of (i := 662) (by decide +kernel) rfl
theorem tw_663 : (Jvm.Cond.methodLink "PatternBench" (111 : Nat) ({ cls := "PatternBench$Captures", name := "to", desc := "(JI)I" } : Jvm.MethodName)) ∈ mm_T := tw_of (i := 663) (by decide +kernel) rfl
theorem tw_664 : (Jvm.Cond.methodLink "PatternBenchLaw" (55 : Nat) ({ cls := "PatternBench", name := "steps", desc := "()I" } : Jvm.MethodName)) ∈ mm_T := tw_of (i := 664) (by decide +kernel) rfl
theorem tw_665 : (Jvm.Cond.instanceMethod ({ cls := "PatternBench", name := "steps", desc := "()I" } : Jvm.MethodName)) ∈ mm_T := tw_of (i := 665) (by decide +kernel) rfl
theorem tw_666 : (Jvm.Cond.selects "PatternBench" ({ cls := "PatternBench", name := "steps", desc := "()I" } : Jvm.MethodName) ({ cls := "PatternBench", name := "steps", desc := "()I" } : Jvm.MethodName)) ∈ mm_T := tw_of (i := 666) (by decide +kernel) rfl
theorem tw_667 : (Jvm.Cond.code ({ cls := "PatternBench", name := "steps", desc := "()I" } : Jvm.MethodName) prog_1_method_10_code (1 : Nat) (Option.some Jvm.ClassFile.FieldType.int)) ∈ mm_T := tw_of (i := 667) (by decide +kernel) rfl
theorem tw_668 : (Jvm.Cond.methodLink "PatternBenchLaw" (59 : Nat) ({ cls := "PatternBench", name := "matches", desc := "()I" } : Jvm.MethodName)) ∈ mm_T := tw_of (i := 668) (by decide +kernel) rfl
theorem tw_669 : (Jvm.Cond.instanceMethod ({ cls := "PatternBench", name := "matches", desc := "()I" } : Jvm.MethodName)) ∈ mm_T := tw_of (i := 669) (by decide +kernel) rfl
theorem tw_670 : (Jvm.Cond.selects "PatternBench" ({ cls := "PatternBench", name := "matches", desc := "()I" } : Jvm.MethodName) ({ cls := "PatternBench", name := "matches", desc := "()I" } : Jvm.MethodName)) ∈ mm_T := tw_of (i := 670) (by decide +kernel) rfl
theorem tw_671 : (Jvm.Cond.code ({ cls := "PatternBench", name := "matches", desc := "()I" } : Jvm.MethodName) prog_1_method_11_code (5 : Nat) (Option.some Jvm.ClassFile.FieldType.int)) ∈ mm_T := tw_of (i := 671) (by decide +kernel) rfl
theorem tw_672 : (Jvm.Cond.methodLink "PatternBenchLaw" (63 : Nat) ({ cls := "PatternBench", name := "count", desc := "(I)I" } : Jvm.MethodName)) ∈ mm_T := tw_of (i := 672) (by decide +kernel) rfl
theorem tw_673 : (Jvm.Cond.instanceMethod ({ cls := "PatternBench", name := "count", desc := "(I)I" } : Jvm.MethodName)) ∈ mm_T := tw_of (i := 673) (by decide +kernel) rfl
theorem tw_674 : (Jvm.Cond.selects "PatternBench" ({ cls := "PatternBench", name := "count", desc := "(I)I" } : Jvm.MethodName) ({ cls := "PatternBench", name := "count", desc := "(I)I" } : Jvm.MethodName)) ∈ mm_T := tw_of (i := 674) (by decide +kernel) rfl
theorem tw_675 : (Jvm.Cond.code ({ cls := "PatternBench", name := "count", desc := "(I)I" } : Jvm.MethodName) prog_1_method_12_code (2 : Nat) (Option.some Jvm.ClassFile.FieldType.int)) ∈ mm_T := tw_of (i := 675) (by decide +kernel) rfl
theorem tw_676 : (Jvm.Cond.methodLink "PatternBenchLaw" (9 : Nat) ({ cls := "PatternBenchLaw", name := "cell", desc := "([II)I" } : Jvm.MethodName)) ∈ mm_T := tw_of (i := 676) (by decide +kernel) rfl
theorem tw_677 : (Jvm.Cond.static ({ cls := "PatternBenchLaw", name := "cell", desc := "([II)I" } : Jvm.MethodName)) ∈ mm_T := tw_of (i := 677) (by decide +kernel) rfl
theorem tw_678 : (Jvm.Cond.code ({ cls := "PatternBenchLaw", name := "cell", desc := "([II)I" } : Jvm.MethodName) method_2_code (2 : Nat) (Option.some Jvm.ClassFile.FieldType.int)) ∈ mm_T := tw_of (i := 678) (by decide +kernel) rfl
theorem tw_679 : (Jvm.Cond.classLink "PatternBenchLaw" (18 : Nat) "PatternBenchModel") ∈ mm_T := tw_of (i := 679) (by decide +kernel) rfl
theorem tw_680 : (Jvm.Cond.instantiable "PatternBenchModel" (27 : Nat)) ∈ mm_T := tw_of (i := 680) (by decide +kernel) rfl
theorem tw_681 : (Jvm.Cond.methodLink "PatternBenchLaw" (20 : Nat) ({ cls := "PatternBenchModel", name := "<init>", desc := "(I)V" } : Jvm.MethodName)) ∈ mm_T := tw_of (i := 681) (by decide +kernel) rfl
theorem tw_682 : (Jvm.Cond.instanceMethod ({ cls := "PatternBenchModel", name := "<init>", desc := "(I)V" } : Jvm.MethodName)) ∈ mm_T := tw_of (i := 682) (by decide +kernel) rfl
theorem tw_683 : (Jvm.Cond.code ({ cls := "PatternBenchModel", name := "<init>", desc := "(I)V" } : Jvm.MethodName) prog_10_method_1_code (2 : Nat) (Option.none : Option Jvm.ClassFile.FieldType)) ∈ mm_T := tw_of (i := 683) (by decide +kernel) rfl
theorem tw_684 : (Jvm.Cond.methodLink "PatternBenchModel" (1 : Nat) ({ cls := "java/lang/Object", name := "<init>", desc := "()V" } : Jvm.MethodName)) ∈ mm_T := tw_of (i := 684) (by decide +kernel) rfl
theorem tw_685 : (Jvm.Cond.fieldLink "PatternBenchModel" (35 : Nat) "PatternBenchModel" "limit" "I") ∈ mm_T := tw_of (i := 685) (by decide +kernel) rfl
theorem tw_686 : (Jvm.Cond.fieldLink "PatternBenchModel" (50 : Nat) "PatternBenchModel" "drafted" "I") ∈ mm_T := tw_of (i := 686) (by decide +kernel) rfl
theorem tw_687 : (Jvm.Cond.fieldLink "PatternBenchModel" (7 : Nat) "PatternBenchModel" "draft" "[I") ∈ mm_T := tw_of (i := 687) (by decide +kernel) rfl
theorem tw_688 : (Jvm.Cond.fieldLink "PatternBenchModel" (83 : Nat) "PatternBenchModel" "ready" "Z") ∈ mm_T := tw_of (i := 688) (by decide +kernel) rfl
theorem tw_689 : (Jvm.Cond.fieldLink "PatternBenchModel" (87 : Nat) "PatternBenchModel" "length" "I") ∈ mm_T := tw_of (i := 689) (by decide +kernel) rfl
theorem tw_690 : (Jvm.Cond.fieldLink "PatternBenchModel" (90 : Nat) "PatternBenchModel" "groups" "I") ∈ mm_T := tw_of (i := 690) (by decide +kernel) rfl
theorem tw_691 : (Jvm.Cond.fieldLink "PatternBenchModel" (93 : Nat) "PatternBenchModel" "size" "I") ∈ mm_T := tw_of (i := 691) (by decide +kernel) rfl
theorem tw_692 : (Jvm.Cond.fieldLink "PatternBenchModel" (13 : Nat) "PatternBenchModel" "text" "[I") ∈ mm_T := tw_of (i := 692) (by decide +kernel) rfl
theorem tw_693 : (Jvm.Cond.fieldLink "PatternBenchModel" (99 : Nat) "PatternBenchModel" "letters" "I") ∈ mm_T := tw_of (i := 693) (by decide +kernel) rfl
theorem tw_694 : (Jvm.Cond.fieldLink "PatternBenchModel" (16 : Nat) "PatternBenchModel" "subject" "[I") ∈ mm_T := tw_of (i := 694) (by decide +kernel) rfl
theorem tw_695 : (Jvm.Cond.fieldLink "PatternBenchModel" (173 : Nat) "PatternBenchModel" "steps" "I") ∈ mm_T := tw_of (i := 695) (by decide +kernel) rfl
theorem tw_696 : (Jvm.Cond.fieldLink "PatternBenchModel" (96 : Nat) "PatternBenchModel" "matched" "Z") ∈ mm_T := tw_of (i := 696) (by decide +kernel) rfl
theorem tw_697 : (Jvm.Cond.fieldLink "PatternBenchModel" (220 : Nat) "PatternBenchModel" "first" "I") ∈ mm_T := tw_of (i := 697) (by decide +kernel) rfl
theorem tw_698 : (Jvm.Cond.fieldLink "PatternBenchModel" (223 : Nat) "PatternBenchModel" "last" "I") ∈ mm_T := tw_of (i := 698) (by decide +kernel) rfl
theorem tw_699 : (Jvm.Cond.fieldLink "PatternBenchModel" (226 : Nat) "PatternBenchModel" "found" "J") ∈ mm_T := tw_of (i := 699) (by decide +kernel) rfl
theorem tw_700 : (Jvm.Cond.fieldLink "PatternBenchModel" (19 : Nat) "PatternBenchModel" "sums" "[I") ∈ mm_T := tw_of (i := 700) (by decide +kernel) rfl
theorem tw_701 : (Jvm.Cond.fieldLink "PatternBenchModel" (114 : Nat) "PatternBenchModel" "frames" "I") ∈ mm_T := tw_of (i := 701) (by decide +kernel) rfl
theorem tw_702 : (Jvm.Cond.fieldLink "PatternBenchModel" (22 : Nat) "PatternBenchModel" "frame" "[J") ∈ mm_T := tw_of (i := 702) (by decide +kernel) rfl
theorem tw_703 : (Jvm.Cond.fieldLink "PatternBenchModel" (26 : Nat) "PatternBenchModel" "kept" "[J") ∈ mm_T := tw_of (i := 703) (by decide +kernel) rfl
theorem tw_704 : (Jvm.Cond.fieldLink "PatternBenchModel" (117 : Nat) "PatternBenchModel" "backs" "I") ∈ mm_T := tw_of (i := 704) (by decide +kernel) rfl
theorem tw_705 : (Jvm.Cond.fieldLink "PatternBenchModel" (29 : Nat) "PatternBenchModel" "back" "[J") ∈ mm_T := tw_of (i := 705) (by decide +kernel) rfl
theorem tw_706 : (Jvm.Cond.fieldLink "PatternBenchModel" (32 : Nat) "PatternBenchModel" "bKept" "[J") ∈ mm_T := tw_of (i := 706) (by decide +kernel) rfl
theorem tw_707 : (Jvm.Cond.fieldLink "PatternBenchModel" (127 : Nat) "PatternBenchModel" "mode" "I") ∈ mm_T := tw_of (i := 707) (by decide +kernel) rfl
theorem tw_708 : (Jvm.Cond.fieldLink "PatternBenchModel" (130 : Nat) "PatternBenchModel" "at" "I") ∈ mm_T := tw_of (i := 708) (by decide +kernel) rfl
theorem tw_709 : (Jvm.Cond.fieldLink "PatternBenchModel" (120 : Nat) "PatternBenchModel" "p" "I") ∈ mm_T := tw_of (i := 709) (by decide +kernel) rfl
theorem tw_710 : (Jvm.Cond.fieldLink "PatternBenchModel" (133 : Nat) "PatternBenchModel" "k" "I") ∈ mm_T := tw_of (i := 710) (by decide +kernel) rfl
theorem tw_711 : (Jvm.Cond.fieldLink "PatternBenchModel" (123 : Nat) "PatternBenchModel" "caps" "J") ∈ mm_T := tw_of (i := 711) (by decide +kernel) rfl
theorem tw_712 : (Jvm.Cond.laysFinal "PatternBenchModel" "PatternBenchModel" "limit" "I") ∈ mm_T := tw_of (i := 712) (by decide +kernel) rfl
theorem tw_714 : (Jvm.Cond.lays "PatternBenchModel" "PatternBenchModel" "drafted" "I") ∈ mm_T := tw_of (i := 714) (by decide +kernel) rfl
theorem tw_716 : (Jvm.Cond.laysFinal "PatternBenchModel" "PatternBenchModel" "draft" "[I") ∈ mm_T := tw_of (i := 716) (by decide +kernel) rfl
theorem tw_718 : (Jvm.Cond.lays "PatternBenchModel" "PatternBenchModel" "ready" "Z") ∈ mm_T := tw_of (i := 718) (by decide +kernel) rfl
theorem tw_720 : (Jvm.Cond.lays "PatternBenchModel" "PatternBenchModel" "length" "I") ∈ mm_T := tw_of (i := 720) (by decide +kernel) rfl
theorem tw_722 : (Jvm.Cond.lays "PatternBenchModel" "PatternBenchModel" "groups" "I") ∈ mm_T := tw_of (i := 722) (by decide +kernel) rfl
theorem tw_724 : (Jvm.Cond.lays "PatternBenchModel" "PatternBenchModel" "size" "I") ∈ mm_T := tw_of (i := 724) (by decide +kernel) rfl
theorem tw_726 : (Jvm.Cond.laysFinal "PatternBenchModel" "PatternBenchModel" "text" "[I") ∈ mm_T := tw_of (i := 726) (by decide +kernel) rfl
theorem tw_728 : (Jvm.Cond.lays "PatternBenchModel" "PatternBenchModel" "letters" "I") ∈ mm_T := tw_of (i := 728) (by decide +kernel) rfl
theorem tw_730 : (Jvm.Cond.laysFinal "PatternBenchModel" "PatternBenchModel" "subject" "[I") ∈ mm_T := tw_of (i := 730) (by decide +kernel) rfl
theorem tw_732 : (Jvm.Cond.lays "PatternBenchModel" "PatternBenchModel" "steps" "I") ∈ mm_T := tw_of (i := 732) (by decide +kernel) rfl
theorem tw_734 : (Jvm.Cond.lays "PatternBenchModel" "PatternBenchModel" "matched" "Z") ∈ mm_T := tw_of (i := 734) (by decide +kernel) rfl
theorem tw_736 : (Jvm.Cond.lays "PatternBenchModel" "PatternBenchModel" "first" "I") ∈ mm_T := tw_of (i := 736) (by decide +kernel) rfl
theorem tw_738 : (Jvm.Cond.lays "PatternBenchModel" "PatternBenchModel" "last" "I") ∈ mm_T := tw_of (i := 738) (by decide +kernel) rfl
theorem tw_740 : (Jvm.Cond.lays "PatternBenchModel" "PatternBenchModel" "found" "J") ∈ mm_T := tw_of (i := 740) (by decide +kernel) rfl
theorem tw_742 : (Jvm.Cond.laysFinal "PatternBenchModel" "PatternBenchModel" "sums" "[I") ∈ mm_T := tw_of (i := 742) (by decide +kernel) rfl
theorem tw_744 : (Jvm.Cond.lays "PatternBenchModel" "PatternBenchModel" "frames" "I") ∈ mm_T := tw_of (i := 744) (by decide +kernel) rfl
theorem tw_746 : (Jvm.Cond.laysFinal "PatternBenchModel" "PatternBenchModel" "frame" "[J") ∈ mm_T := tw_of (i := 746) (by decide +kernel) rfl
theorem tw_748 : (Jvm.Cond.laysFinal "PatternBenchModel" "PatternBenchModel" "kept" "[J") ∈ mm_T := tw_of (i := 748) (by decide +kernel) rfl
theorem tw_750 : (Jvm.Cond.lays "PatternBenchModel" "PatternBenchModel" "backs" "I") ∈ mm_T := tw_of (i := 750) (by decide +kernel) rfl
theorem tw_752 : (Jvm.Cond.laysFinal "PatternBenchModel" "PatternBenchModel" "back" "[J") ∈ mm_T := tw_of (i := 752) (by decide +kernel) rfl
theorem tw_754 : (Jvm.Cond.laysFinal "PatternBenchModel" "PatternBenchModel" "bKept" "[J") ∈ mm_T := tw_of (i := 754) (by decide +kernel) rfl
theorem tw_756 : (Jvm.Cond.lays "PatternBenchModel" "PatternBenchModel" "mode" "I") ∈ mm_T := tw_of (i := 756) (by decide +kernel) rfl
theorem tw_758 : (Jvm.Cond.lays "PatternBenchModel" "PatternBenchModel" "at" "I") ∈ mm_T := tw_of (i := 758) (by decide +kernel) rfl
theorem tw_760 : (Jvm.Cond.lays "PatternBenchModel" "PatternBenchModel" "p" "I") ∈ mm_T := tw_of (i := 760) (by decide +kernel) rfl
theorem tw_762 : (Jvm.Cond.lays "PatternBenchModel" "PatternBenchModel" "k" "I") ∈ mm_T := tw_of (i := 762) (by decide +kernel) rfl
theorem tw_764 : (Jvm.Cond.lays "PatternBenchModel" "PatternBenchModel" "caps" "J") ∈ mm_T := tw_of (i := 764) (by decide +kernel) rfl
theorem tw_767 : (Jvm.Cond.methodLink "PatternBenchLaw" (25 : Nat) ({ cls := "PatternBenchModel", name := "write", desc := "(I)I" } : Jvm.MethodName)) ∈ mm_T := tw_of (i := 767) (by decide +kernel) rfl
theorem tw_768 : (Jvm.Cond.instanceMethod ({ cls := "PatternBenchModel", name := "write", desc := "(I)I" } : Jvm.MethodName)) ∈ mm_T := tw_of (i := 768) (by decide +kernel) rfl
theorem tw_769 : (Jvm.Cond.selects "PatternBenchModel" ({ cls := "PatternBenchModel", name := "write", desc := "(I)I" } : Jvm.MethodName) ({ cls := "PatternBenchModel", name := "write", desc := "(I)I" } : Jvm.MethodName)) ∈ mm_T := tw_of (i := 769) (by decide +kernel) rfl
theorem tw_770 : (Jvm.Cond.code ({ cls := "PatternBenchModel", name := "write", desc := "(I)I" } : Jvm.MethodName) prog_10_method_5_code (2 : Nat) (Option.some Jvm.ClassFile.FieldType.int)) ∈ mm_T := tw_of (i := 770) (by decide +kernel) rfl
theorem tw_771 : (Jvm.Cond.methodLink "PatternBenchModel" (43 : Nat) ({ cls := "PatternBenchModel", name := "letter", desc := "(I)Z" } : Jvm.MethodName)) ∈ mm_T := tw_of (i := 771) (by decide +kernel) rfl
theorem tw_772 : (Jvm.Cond.static ({ cls := "PatternBenchModel", name := "letter", desc := "(I)Z" } : Jvm.MethodName)) ∈ mm_T := tw_of (i := 772) (by decide +kernel) rfl
theorem tw_773 : (Jvm.Cond.code ({ cls := "PatternBenchModel", name := "letter", desc := "(I)Z" } : Jvm.MethodName) prog_10_method_3_code (1 : Nat) (Option.some Jvm.ClassFile.FieldType.boolean)) ∈ mm_T := tw_of (i := 773) (by decide +kernel) rfl
theorem tw_774 : (Jvm.Cond.methodLink "PatternBenchModel" (39 : Nat) ({ cls := "PatternBenchModel", name := "in", desc := "(III)Z" } : Jvm.MethodName)) ∈ mm_T := tw_of (i := 774) (by decide +kernel) rfl
theorem tw_775 : (Jvm.Cond.static ({ cls := "PatternBenchModel", name := "in", desc := "(III)Z" } : Jvm.MethodName)) ∈ mm_T := tw_of (i := 775) (by decide +kernel) rfl
theorem tw_776 : (Jvm.Cond.code ({ cls := "PatternBenchModel", name := "in", desc := "(III)Z" } : Jvm.MethodName) prog_10_method_2_code (3 : Nat) (Option.some Jvm.ClassFile.FieldType.boolean)) ∈ mm_T := tw_of (i := 776) (by decide +kernel) rfl
theorem tw_777 : (Jvm.Cond.methodLink "PatternBenchModel" (47 : Nat) ({ cls := "PatternBenchModel", name := "sign", desc := "(I)Z" } : Jvm.MethodName)) ∈ mm_T := tw_of (i := 777) (by decide +kernel) rfl
theorem tw_778 : (Jvm.Cond.static ({ cls := "PatternBenchModel", name := "sign", desc := "(I)Z" } : Jvm.MethodName)) ∈ mm_T := tw_of (i := 778) (by decide +kernel) rfl
theorem tw_779 : (Jvm.Cond.code ({ cls := "PatternBenchModel", name := "sign", desc := "(I)Z" } : Jvm.MethodName) prog_10_method_4_code (1 : Nat) (Option.some Jvm.ClassFile.FieldType.boolean)) ∈ mm_T := tw_of (i := 779) (by decide +kernel) rfl
theorem tw_780 : (Jvm.Cond.methodLink "PatternBenchLaw" (30 : Nat) ({ cls := "PatternBenchModel", name := "compile", desc := "()I" } : Jvm.MethodName)) ∈ mm_T := tw_of (i := 780) (by decide +kernel) rfl
theorem tw_781 : (Jvm.Cond.instanceMethod ({ cls := "PatternBenchModel", name := "compile", desc := "()I" } : Jvm.MethodName)) ∈ mm_T := tw_of (i := 781) (by decide +kernel) rfl
theorem tw_782 : (Jvm.Cond.selects "PatternBenchModel" ({ cls := "PatternBenchModel", name := "compile", desc := "()I" } : Jvm.MethodName) ({ cls := "PatternBenchModel", name := "compile", desc := "()I" } : Jvm.MethodName)) ∈ mm_T := tw_of (i := 782) (by decide +kernel) rfl
theorem tw_783 : (Jvm.Cond.code ({ cls := "PatternBenchModel", name := "compile", desc := "()I" } : Jvm.MethodName) prog_10_method_15_code (6 : Nat) (Option.some Jvm.ClassFile.FieldType.int)) ∈ mm_T := tw_of (i := 783) (by decide +kernel) rfl
theorem tw_784 : (Jvm.Cond.methodLink "PatternBenchModel" (73 : Nat) ({ cls := "PatternBenchModel", name := "measure", desc := "()I" } : Jvm.MethodName)) ∈ mm_T := tw_of (i := 784) (by decide +kernel) rfl
theorem tw_786 : (Jvm.Cond.instanceMethod ({ cls := "PatternBenchModel", name := "measure", desc := "()I" } : Jvm.MethodName)) ∈ mm_T := tw_of (i := 786) (by decide +kernel) rfl
theorem tw_787 : (Jvm.Cond.code ({ cls := "PatternBenchModel", name := "measure", desc := "()I" } : Jvm.MethodName) prog_10_method_14_code (5 : Nat) (Option.some Jvm.ClassFile.FieldType.int)) ∈ mm_T := tw_of (i := 787) (by decide +kernel) rfl
theorem tw_788 : (Jvm.Cond.methodLink "PatternBenchModel" (60 : Nat) ({ cls := "PatternBenchModel", name := "opener", desc := "(I)I" } : Jvm.MethodName)) ∈ mm_T := tw_of (i := 788) (by decide +kernel) rfl
theorem tw_790 : (Jvm.Cond.instanceMethod ({ cls := "PatternBenchModel", name := "opener", desc := "(I)I" } : Jvm.MethodName)) ∈ mm_T := tw_of (i := 790) (by decide +kernel) rfl
theorem tw_791 : (Jvm.Cond.code ({ cls := "PatternBenchModel", name := "opener", desc := "(I)I" } : Jvm.MethodName) prog_10_method_8_code (3 : Nat) (Option.some Jvm.ClassFile.FieldType.int)) ∈ mm_T := tw_of (i := 791) (by decide +kernel) rfl
theorem tw_792 : (Jvm.Cond.methodLink "PatternBenchModel" (53 : Nat) ({ cls := "PatternBenchModel", name := "c", desc := "(I)I" } : Jvm.MethodName)) ∈ mm_T := tw_of (i := 792) (by decide +kernel) rfl
theorem tw_794 : (Jvm.Cond.instanceMethod ({ cls := "PatternBenchModel", name := "c", desc := "(I)I" } : Jvm.MethodName)) ∈ mm_T := tw_of (i := 794) (by decide +kernel) rfl
theorem tw_795 : (Jvm.Cond.code ({ cls := "PatternBenchModel", name := "c", desc := "(I)I" } : Jvm.MethodName) prog_10_method_6_code (2 : Nat) (Option.some Jvm.ClassFile.FieldType.int)) ∈ mm_T := tw_of (i := 795) (by decide +kernel) rfl
theorem tw_796 : (Jvm.Cond.methodLink "PatternBenchModel" (63 : Nat) ({ cls := "PatternBenchModel", name := "behindPlain", desc := "(I)I" } : Jvm.MethodName)) ∈ mm_T := tw_of (i := 796) (by decide +kernel) rfl
theorem tw_798 : (Jvm.Cond.instanceMethod ({ cls := "PatternBenchModel", name := "behindPlain", desc := "(I)I" } : Jvm.MethodName)) ∈ mm_T := tw_of (i := 798) (by decide +kernel) rfl
theorem tw_799 : (Jvm.Cond.code ({ cls := "PatternBenchModel", name := "behindPlain", desc := "(I)I" } : Jvm.MethodName) prog_10_method_9_code (4 : Nat) (Option.some Jvm.ClassFile.FieldType.int)) ∈ mm_T := tw_of (i := 799) (by decide +kernel) rfl
theorem tw_800 : (Jvm.Cond.methodLink "PatternBenchModel" (57 : Nat) ({ cls := "PatternBenchModel", name := "behindClass", desc := "(I)I" } : Jvm.MethodName)) ∈ mm_T := tw_of (i := 800) (by decide +kernel) rfl
theorem tw_802 : (Jvm.Cond.instanceMethod ({ cls := "PatternBenchModel", name := "behindClass", desc := "(I)I" } : Jvm.MethodName)) ∈ mm_T := tw_of (i := 802) (by decide +kernel) rfl
theorem tw_803 : (Jvm.Cond.code ({ cls := "PatternBenchModel", name := "behindClass", desc := "(I)I" } : Jvm.MethodName) prog_10_method_7_code (5 : Nat) (Option.some Jvm.ClassFile.FieldType.int)) ∈ mm_T := tw_of (i := 803) (by decide +kernel) rfl
theorem tw_804 : (Jvm.Cond.methodLink "PatternBenchModel" (66 : Nat) ({ cls := "PatternBenchModel", name := "behindRepeat", desc := "(I)I" } : Jvm.MethodName)) ∈ mm_T := tw_of (i := 804) (by decide +kernel) rfl
theorem tw_806 : (Jvm.Cond.instanceMethod ({ cls := "PatternBenchModel", name := "behindRepeat", desc := "(I)I" } : Jvm.MethodName)) ∈ mm_T := tw_of (i := 806) (by decide +kernel) rfl
theorem tw_807 : (Jvm.Cond.code ({ cls := "PatternBenchModel", name := "behindRepeat", desc := "(I)I" } : Jvm.MethodName) prog_10_method_10_code (3 : Nat) (Option.some Jvm.ClassFile.FieldType.int)) ∈ mm_T := tw_of (i := 807) (by decide +kernel) rfl
theorem tw_808 : (Jvm.Cond.methodLink "PatternBenchModel" (69 : Nat) ({ cls := "PatternBenchModel", name := "sized", desc := "(II)I" } : Jvm.MethodName)) ∈ mm_T := tw_of (i := 808) (by decide +kernel) rfl
theorem tw_810 : (Jvm.Cond.instanceMethod ({ cls := "PatternBenchModel", name := "sized", desc := "(II)I" } : Jvm.MethodName)) ∈ mm_T := tw_of (i := 810) (by decide +kernel) rfl
theorem tw_811 : (Jvm.Cond.code ({ cls := "PatternBenchModel", name := "sized", desc := "(II)I" } : Jvm.MethodName) prog_10_method_11_code (3 : Nat) (Option.some Jvm.ClassFile.FieldType.int)) ∈ mm_T := tw_of (i := 811) (by decide +kernel) rfl
theorem tw_812 : (Jvm.Cond.methodLink "PatternBenchModel" (77 : Nat) ({ cls := "PatternBenchModel", name := "groupsOf", desc := "()I" } : Jvm.MethodName)) ∈ mm_T := tw_of (i := 812) (by decide +kernel) rfl
theorem tw_814 : (Jvm.Cond.instanceMethod ({ cls := "PatternBenchModel", name := "groupsOf", desc := "()I" } : Jvm.MethodName)) ∈ mm_T := tw_of (i := 814) (by decide +kernel) rfl
theorem tw_815 : (Jvm.Cond.code ({ cls := "PatternBenchModel", name := "groupsOf", desc := "()I" } : Jvm.MethodName) prog_10_method_12_code (3 : Nat) (Option.some Jvm.ClassFile.FieldType.int)) ∈ mm_T := tw_of (i := 815) (by decide +kernel) rfl
theorem tw_816 : (Jvm.Cond.methodLink "PatternBenchModel" (80 : Nat) ({ cls := "PatternBenchModel", name := "namesGood", desc := "(I)Z" } : Jvm.MethodName)) ∈ mm_T := tw_of (i := 816) (by decide +kernel) rfl
theorem tw_818 : (Jvm.Cond.instanceMethod ({ cls := "PatternBenchModel", name := "namesGood", desc := "(I)Z" } : Jvm.MethodName)) ∈ mm_T := tw_of (i := 818) (by decide +kernel) rfl
theorem tw_819 : (Jvm.Cond.code ({ cls := "PatternBenchModel", name := "namesGood", desc := "(I)Z" } : Jvm.MethodName) prog_10_method_13_code (4 : Nat) (Option.some Jvm.ClassFile.FieldType.boolean)) ∈ mm_T := tw_of (i := 819) (by decide +kernel) rfl
theorem tw_820 : (Jvm.Cond.methodLink "PatternBenchLaw" (34 : Nat) ({ cls := "PatternBenchModel", name := "feed", desc := "(I)I" } : Jvm.MethodName)) ∈ mm_T := tw_of (i := 820) (by decide +kernel) rfl
theorem tw_821 : (Jvm.Cond.instanceMethod ({ cls := "PatternBenchModel", name := "feed", desc := "(I)I" } : Jvm.MethodName)) ∈ mm_T := tw_of (i := 821) (by decide +kernel) rfl
theorem tw_822 : (Jvm.Cond.selects "PatternBenchModel" ({ cls := "PatternBenchModel", name := "feed", desc := "(I)I" } : Jvm.MethodName) ({ cls := "PatternBenchModel", name := "feed", desc := "(I)I" } : Jvm.MethodName)) ∈ mm_T := tw_of (i := 822) (by decide +kernel) rfl
theorem tw_823 : (Jvm.Cond.code ({ cls := "PatternBenchModel", name := "feed", desc := "(I)I" } : Jvm.MethodName) prog_10_method_16_code (2 : Nat) (Option.some Jvm.ClassFile.FieldType.int)) ∈ mm_T := tw_of (i := 823) (by decide +kernel) rfl
theorem tw_824 : (Jvm.Cond.methodLink "PatternBenchLaw" (38 : Nat) ({ cls := "PatternBenchModel", name := "clear", desc := "()I" } : Jvm.MethodName)) ∈ mm_T := tw_of (i := 824) (by decide +kernel) rfl
theorem tw_825 : (Jvm.Cond.instanceMethod ({ cls := "PatternBenchModel", name := "clear", desc := "()I" } : Jvm.MethodName)) ∈ mm_T := tw_of (i := 825) (by decide +kernel) rfl
theorem tw_826 : (Jvm.Cond.selects "PatternBenchModel" ({ cls := "PatternBenchModel", name := "clear", desc := "()I" } : Jvm.MethodName) ({ cls := "PatternBenchModel", name := "clear", desc := "()I" } : Jvm.MethodName)) ∈ mm_T := tw_of (i := 826) (by decide +kernel) rfl
theorem tw_827 : (Jvm.Cond.code ({ cls := "PatternBenchModel", name := "clear", desc := "()I" } : Jvm.MethodName) prog_10_method_17_code (2 : Nat) (Option.some Jvm.ClassFile.FieldType.int)) ∈ mm_T := tw_of (i := 827) (by decide +kernel) rfl
theorem tw_828 : (Jvm.Cond.methodLink "PatternBenchLaw" (42 : Nat) ({ cls := "PatternBenchModel", name := "search", desc := "(I)I" } : Jvm.MethodName)) ∈ mm_T := tw_of (i := 828) (by decide +kernel) rfl
theorem tw_829 : (Jvm.Cond.instanceMethod ({ cls := "PatternBenchModel", name := "search", desc := "(I)I" } : Jvm.MethodName)) ∈ mm_T := tw_of (i := 829) (by decide +kernel) rfl
theorem tw_830 : (Jvm.Cond.selects "PatternBenchModel" ({ cls := "PatternBenchModel", name := "search", desc := "(I)I" } : Jvm.MethodName) ({ cls := "PatternBenchModel", name := "search", desc := "(I)I" } : Jvm.MethodName)) ∈ mm_T := tw_of (i := 830) (by decide +kernel) rfl
theorem tw_831 : (Jvm.Cond.code ({ cls := "PatternBenchModel", name := "search", desc := "(I)I" } : Jvm.MethodName) prog_10_method_46_code (2 : Nat) (Option.some Jvm.ClassFile.FieldType.int)) ∈ mm_T := tw_of (i := 831) (by decide +kernel) rfl
theorem tw_832 : (Jvm.Cond.methodLink "PatternBenchModel" (229 : Nat) ({ cls := "PatternBenchModel", name := "seek", desc := "(I)I" } : Jvm.MethodName)) ∈ mm_T := tw_of (i := 832) (by decide +kernel) rfl
theorem tw_834 : (Jvm.Cond.instanceMethod ({ cls := "PatternBenchModel", name := "seek", desc := "(I)I" } : Jvm.MethodName)) ∈ mm_T := tw_of (i := 834) (by decide +kernel) rfl
theorem tw_835 : (Jvm.Cond.code ({ cls := "PatternBenchModel", name := "seek", desc := "(I)I" } : Jvm.MethodName) prog_10_method_45_code (4 : Nat) (Option.some Jvm.ClassFile.FieldType.int)) ∈ mm_T := tw_of (i := 835) (by decide +kernel) rfl
theorem tw_836 : (Jvm.Cond.methodLink "PatternBenchModel" (217 : Nat) ({ cls := "PatternBenchModel", name := "walk", desc := "(I)I" } : Jvm.MethodName)) ∈ mm_T := tw_of (i := 836) (by decide +kernel) rfl
theorem tw_838 : (Jvm.Cond.instanceMethod ({ cls := "PatternBenchModel", name := "walk", desc := "(I)I" } : Jvm.MethodName)) ∈ mm_T := tw_of (i := 838) (by decide +kernel) rfl
theorem tw_839 : (Jvm.Cond.code ({ cls := "PatternBenchModel", name := "walk", desc := "(I)I" } : Jvm.MethodName) prog_10_method_44_code (4 : Nat) (Option.some Jvm.ClassFile.FieldType.int)) ∈ mm_T := tw_of (i := 839) (by decide +kernel) rfl
theorem tw_840 : (Jvm.Cond.methodLink "PatternBenchModel" (163 : Nat) ({ cls := "PatternBenchModel", name := "go", desc := "(III)V" } : Jvm.MethodName)) ∈ mm_T := tw_of (i := 840) (by decide +kernel) rfl
theorem tw_842 : (Jvm.Cond.instanceMethod ({ cls := "PatternBenchModel", name := "go", desc := "(III)V" } : Jvm.MethodName)) ∈ mm_T := tw_of (i := 842) (by decide +kernel) rfl
theorem tw_843 : (Jvm.Cond.code ({ cls := "PatternBenchModel", name := "go", desc := "(III)V" } : Jvm.MethodName) prog_10_method_31_code (4 : Nat) (Option.none : Option Jvm.ClassFile.FieldType)) ∈ mm_T := tw_of (i := 843) (by decide +kernel) rfl
theorem tw_844 : (Jvm.Cond.constant "PatternBenchModel" (196 : Nat) (1000000 : Int32)) ∈ mm_T := tw_of (i := 844) (by decide +kernel) rfl
theorem tw_845 : (Jvm.Cond.methodLink "PatternBenchModel" (197 : Nat) ({ cls := "PatternBenchModel", name := "retreat", desc := "()Z" } : Jvm.MethodName)) ∈ mm_T := tw_of (i := 845) (by decide +kernel) rfl
theorem tw_847 : (Jvm.Cond.instanceMethod ({ cls := "PatternBenchModel", name := "retreat", desc := "()Z" } : Jvm.MethodName)) ∈ mm_T := tw_of (i := 847) (by decide +kernel) rfl
theorem tw_848 : (Jvm.Cond.code ({ cls := "PatternBenchModel", name := "retreat", desc := "()Z" } : Jvm.MethodName) prog_10_method_43_code (3 : Nat) (Option.some Jvm.ClassFile.FieldType.boolean)) ∈ mm_T := tw_of (i := 848) (by decide +kernel) rfl
theorem tw_849 : (Jvm.Cond.methodLink "PatternBenchModel" (108 : Nat) ({ cls := "PatternBenchModel", name := "rowEnds", desc := "(I)Z" } : Jvm.MethodName)) ∈ mm_T := tw_of (i := 849) (by decide +kernel) rfl
theorem tw_851 : (Jvm.Cond.instanceMethod ({ cls := "PatternBenchModel", name := "rowEnds", desc := "(I)Z" } : Jvm.MethodName)) ∈ mm_T := tw_of (i := 851) (by decide +kernel) rfl
theorem tw_852 : (Jvm.Cond.code ({ cls := "PatternBenchModel", name := "rowEnds", desc := "(I)Z" } : Jvm.MethodName) prog_10_method_21_code (2 : Nat) (Option.some Jvm.ClassFile.FieldType.boolean)) ∈ mm_T := tw_of (i := 852) (by decide +kernel) rfl
theorem tw_853 : (Jvm.Cond.methodLink "PatternBenchModel" (102 : Nat) ({ cls := "PatternBenchModel", name := "t", desc := "(I)I" } : Jvm.MethodName)) ∈ mm_T := tw_of (i := 853) (by decide +kernel) rfl
theorem tw_855 : (Jvm.Cond.instanceMethod ({ cls := "PatternBenchModel", name := "t", desc := "(I)I" } : Jvm.MethodName)) ∈ mm_T := tw_of (i := 855) (by decide +kernel) rfl
theorem tw_856 : (Jvm.Cond.code ({ cls := "PatternBenchModel", name := "t", desc := "(I)I" } : Jvm.MethodName) prog_10_method_18_code (2 : Nat) (Option.some Jvm.ClassFile.FieldType.int)) ∈ mm_T := tw_of (i := 856) (by decide +kernel) rfl
theorem tw_857 : (Jvm.Cond.methodLink "PatternBenchModel" (201 : Nat) ({ cls := "PatternBenchModel", name := "item", desc := "(I)V" } : Jvm.MethodName)) ∈ mm_T := tw_of (i := 857) (by decide +kernel) rfl
theorem tw_859 : (Jvm.Cond.instanceMethod ({ cls := "PatternBenchModel", name := "item", desc := "(I)V" } : Jvm.MethodName)) ∈ mm_T := tw_of (i := 859) (by decide +kernel) rfl
theorem tw_860 : (Jvm.Cond.code ({ cls := "PatternBenchModel", name := "item", desc := "(I)V" } : Jvm.MethodName) prog_10_method_39_code (9 : Nat) (Option.none : Option Jvm.ClassFile.FieldType)) ∈ mm_T := tw_of (i := 860) (by decide +kernel) rfl
theorem tw_861 : (Jvm.Cond.methodLink "PatternBenchModel" (111 : Nat) ({ cls := "PatternBenchModel", name := "behindAtom", desc := "(I)I" } : Jvm.MethodName)) ∈ mm_T := tw_of (i := 861) (by decide +kernel) rfl
theorem tw_863 : (Jvm.Cond.instanceMethod ({ cls := "PatternBenchModel", name := "behindAtom", desc := "(I)I" } : Jvm.MethodName)) ∈ mm_T := tw_of (i := 863) (by decide +kernel) rfl
theorem tw_864 : (Jvm.Cond.code ({ cls := "PatternBenchModel", name := "behindAtom", desc := "(I)I" } : Jvm.MethodName) prog_10_method_20_code (3 : Nat) (Option.some Jvm.ClassFile.FieldType.int)) ∈ mm_T := tw_of (i := 864) (by decide +kernel) rfl
theorem tw_865 : (Jvm.Cond.methodLink "PatternBenchModel" (105 : Nat) ({ cls := "PatternBenchModel", name := "closing", desc := "(I)I" } : Jvm.MethodName)) ∈ mm_T := tw_of (i := 865) (by decide +kernel) rfl
theorem tw_867 : (Jvm.Cond.instanceMethod ({ cls := "PatternBenchModel", name := "closing", desc := "(I)I" } : Jvm.MethodName)) ∈ mm_T := tw_of (i := 867) (by decide +kernel) rfl
theorem tw_868 : (Jvm.Cond.code ({ cls := "PatternBenchModel", name := "closing", desc := "(I)I" } : Jvm.MethodName) prog_10_method_19_code (4 : Nat) (Option.some Jvm.ClassFile.FieldType.int)) ∈ mm_T := tw_of (i := 868) (by decide +kernel) rfl
theorem tw_869 : (Jvm.Cond.methodLink "PatternBenchModel" (159 : Nat) ({ cls := "PatternBenchModel", name := "push", desc := "(IIII)I" } : Jvm.MethodName)) ∈ mm_T := tw_of (i := 869) (by decide +kernel) rfl
theorem tw_871 : (Jvm.Cond.instanceMethod ({ cls := "PatternBenchModel", name := "push", desc := "(IIII)I" } : Jvm.MethodName)) ∈ mm_T := tw_of (i := 871) (by decide +kernel) rfl
theorem tw_872 : (Jvm.Cond.code ({ cls := "PatternBenchModel", name := "push", desc := "(IIII)I" } : Jvm.MethodName) prog_10_method_25_code (5 : Nat) (Option.some Jvm.ClassFile.FieldType.int)) ∈ mm_T := tw_of (i := 872) (by decide +kernel) rfl
theorem tw_873 : (Jvm.Cond.methodLink "PatternBenchModel" (167 : Nat) ({ cls := "PatternBenchModel", name := "pushBack", desc := "(III)V" } : Jvm.MethodName)) ∈ mm_T := tw_of (i := 873) (by decide +kernel) rfl
theorem tw_875 : (Jvm.Cond.instanceMethod ({ cls := "PatternBenchModel", name := "pushBack", desc := "(III)V" } : Jvm.MethodName)) ∈ mm_T := tw_of (i := 875) (by decide +kernel) rfl
theorem tw_876 : (Jvm.Cond.code ({ cls := "PatternBenchModel", name := "pushBack", desc := "(III)V" } : Jvm.MethodName) prog_10_method_30_code (4 : Nat) (Option.none : Option Jvm.ClassFile.FieldType)) ∈ mm_T := tw_of (i := 876) (by decide +kernel) rfl
theorem tw_877 : (Jvm.Cond.methodLink "PatternBenchModel" (204 : Nat) ({ cls := "PatternBenchModel", name := "nextRow", desc := "(I)I" } : Jvm.MethodName)) ∈ mm_T := tw_of (i := 877) (by decide +kernel) rfl
theorem tw_879 : (Jvm.Cond.instanceMethod ({ cls := "PatternBenchModel", name := "nextRow", desc := "(I)I" } : Jvm.MethodName)) ∈ mm_T := tw_of (i := 879) (by decide +kernel) rfl
theorem tw_880 : (Jvm.Cond.code ({ cls := "PatternBenchModel", name := "nextRow", desc := "(I)I" } : Jvm.MethodName) prog_10_method_22_code (3 : Nat) (Option.some Jvm.ClassFile.FieldType.int)) ∈ mm_T := tw_of (i := 880) (by decide +kernel) rfl
theorem tw_881 : (Jvm.Cond.methodLink "PatternBenchModel" (207 : Nat) ({ cls := "PatternBenchModel", name := "atom", desc := "()V" } : Jvm.MethodName)) ∈ mm_T := tw_of (i := 881) (by decide +kernel) rfl
theorem tw_883 : (Jvm.Cond.instanceMethod ({ cls := "PatternBenchModel", name := "atom", desc := "()V" } : Jvm.MethodName)) ∈ mm_T := tw_of (i := 883) (by decide +kernel) rfl
theorem tw_884 : (Jvm.Cond.code ({ cls := "PatternBenchModel", name := "atom", desc := "()V" } : Jvm.MethodName) prog_10_method_41_code (1 : Nat) (Option.none : Option Jvm.ClassFile.FieldType)) ∈ mm_T := tw_of (i := 884) (by decide +kernel) rfl
theorem tw_885 : (Jvm.Cond.methodLink "PatternBenchModel" (179 : Nat) ({ cls := "PatternBenchModel", name := "openChoice", desc := "(I)V" } : Jvm.MethodName)) ∈ mm_T := tw_of (i := 885) (by decide +kernel) rfl
theorem tw_887 : (Jvm.Cond.instanceMethod ({ cls := "PatternBenchModel", name := "openChoice", desc := "(I)V" } : Jvm.MethodName)) ∈ mm_T := tw_of (i := 887) (by decide +kernel) rfl
theorem tw_888 : (Jvm.Cond.code ({ cls := "PatternBenchModel", name := "openChoice", desc := "(I)V" } : Jvm.MethodName) prog_10_method_38_code (4 : Nat) (Option.none : Option Jvm.ClassFile.FieldType)) ∈ mm_T := tw_of (i := 888) (by decide +kernel) rfl
theorem tw_889 : (Jvm.Cond.methodLink "PatternBenchModel" (156 : Nat) ({ cls := "PatternBenchModel", name := "groupAt", desc := "(I)I" } : Jvm.MethodName)) ∈ mm_T := tw_of (i := 889) (by decide +kernel) rfl
theorem tw_891 : (Jvm.Cond.instanceMethod ({ cls := "PatternBenchModel", name := "groupAt", desc := "(I)I" } : Jvm.MethodName)) ∈ mm_T := tw_of (i := 891) (by decide +kernel) rfl
theorem tw_892 : (Jvm.Cond.code ({ cls := "PatternBenchModel", name := "groupAt", desc := "(I)I" } : Jvm.MethodName) prog_10_method_24_code (4 : Nat) (Option.some Jvm.ClassFile.FieldType.int)) ∈ mm_T := tw_of (i := 892) (by decide +kernel) rfl
theorem tw_893 : (Jvm.Cond.methodLink "PatternBenchModel" (170 : Nat) ({ cls := "PatternBenchModel", name := "calls", desc := "()I" } : Jvm.MethodName)) ∈ mm_T := tw_of (i := 893) (by decide +kernel) rfl
theorem tw_895 : (Jvm.Cond.instanceMethod ({ cls := "PatternBenchModel", name := "calls", desc := "()I" } : Jvm.MethodName)) ∈ mm_T := tw_of (i := 895) (by decide +kernel) rfl
theorem tw_896 : (Jvm.Cond.code ({ cls := "PatternBenchModel", name := "calls", desc := "()I" } : Jvm.MethodName) prog_10_method_32_code (3 : Nat) (Option.some Jvm.ClassFile.FieldType.int)) ∈ mm_T := tw_of (i := 896) (by decide +kernel) rfl
theorem tw_897 : (Jvm.Cond.methodLink "PatternBenchModel" (136 : Nat) ({ cls := "PatternBenchModel", name := "kindOf", desc := "(I)I" } : Jvm.MethodName)) ∈ mm_T := tw_of (i := 897) (by decide +kernel) rfl
theorem tw_899 : (Jvm.Cond.instanceMethod ({ cls := "PatternBenchModel", name := "kindOf", desc := "(I)I" } : Jvm.MethodName)) ∈ mm_T := tw_of (i := 899) (by decide +kernel) rfl
theorem tw_900 : (Jvm.Cond.code ({ cls := "PatternBenchModel", name := "kindOf", desc := "(I)I" } : Jvm.MethodName) prog_10_method_26_code (2 : Nat) (Option.some Jvm.ClassFile.FieldType.int)) ∈ mm_T := tw_of (i := 900) (by decide +kernel) rfl
theorem tw_901 : (Jvm.Cond.methodLink "PatternBenchModel" (139 : Nat) ({ cls := "PatternBenchModel", name := "parentOf", desc := "(I)I" } : Jvm.MethodName)) ∈ mm_T := tw_of (i := 901) (by decide +kernel) rfl
theorem tw_903 : (Jvm.Cond.instanceMethod ({ cls := "PatternBenchModel", name := "parentOf", desc := "(I)I" } : Jvm.MethodName)) ∈ mm_T := tw_of (i := 903) (by decide +kernel) rfl
theorem tw_904 : (Jvm.Cond.code ({ cls := "PatternBenchModel", name := "parentOf", desc := "(I)I" } : Jvm.MethodName) prog_10_method_29_code (2 : Nat) (Option.some Jvm.ClassFile.FieldType.int)) ∈ mm_T := tw_of (i := 904) (by decide +kernel) rfl
theorem tw_905 : (Jvm.Cond.methodLink "PatternBenchModel" (176 : Nat) ({ cls := "PatternBenchModel", name := "choiceOf", desc := "(I)I" } : Jvm.MethodName)) ∈ mm_T := tw_of (i := 905) (by decide +kernel) rfl
theorem tw_907 : (Jvm.Cond.instanceMethod ({ cls := "PatternBenchModel", name := "choiceOf", desc := "(I)I" } : Jvm.MethodName)) ∈ mm_T := tw_of (i := 907) (by decide +kernel) rfl
theorem tw_908 : (Jvm.Cond.code ({ cls := "PatternBenchModel", name := "choiceOf", desc := "(I)I" } : Jvm.MethodName) prog_10_method_23_code (4 : Nat) (Option.some Jvm.ClassFile.FieldType.int)) ∈ mm_T := tw_of (i := 908) (by decide +kernel) rfl
theorem tw_909 : (Jvm.Cond.methodLink "PatternBenchModel" (183 : Nat) ({ cls := "PatternBenchModel", name := "plain", desc := "(I)Z" } : Jvm.MethodName)) ∈ mm_T := tw_of (i := 909) (by decide +kernel) rfl
theorem tw_911 : (Jvm.Cond.instanceMethod ({ cls := "PatternBenchModel", name := "plain", desc := "(I)Z" } : Jvm.MethodName)) ∈ mm_T := tw_of (i := 911) (by decide +kernel) rfl
theorem tw_912 : (Jvm.Cond.code ({ cls := "PatternBenchModel", name := "plain", desc := "(I)Z" } : Jvm.MethodName) prog_10_method_37_code (2 : Nat) (Option.some Jvm.ClassFile.FieldType.boolean)) ∈ mm_T := tw_of (i := 912) (by decide +kernel) rfl
theorem tw_913 : (Jvm.Cond.methodLink "PatternBenchModel" (150 : Nat) ({ cls := "PatternBenchModel", name := "repeats", desc := "(I)Z" } : Jvm.MethodName)) ∈ mm_T := tw_of (i := 913) (by decide +kernel) rfl
theorem tw_915 : (Jvm.Cond.instanceMethod ({ cls := "PatternBenchModel", name := "repeats", desc := "(I)Z" } : Jvm.MethodName)) ∈ mm_T := tw_of (i := 915) (by decide +kernel) rfl
theorem tw_916 : (Jvm.Cond.code ({ cls := "PatternBenchModel", name := "repeats", desc := "(I)Z" } : Jvm.MethodName) prog_10_method_35_code (5 : Nat) (Option.some Jvm.ClassFile.FieldType.boolean)) ∈ mm_T := tw_of (i := 916) (by decide +kernel) rfl
theorem tw_917 : (Jvm.Cond.methodLink "PatternBenchModel" (142 : Nat) ({ cls := "PatternBenchModel", name := "capture", desc := "(JIZ)I" } : Jvm.MethodName)) ∈ mm_T := tw_of (i := 917) (by decide +kernel) rfl
theorem tw_919 : (Jvm.Cond.instanceMethod ({ cls := "PatternBenchModel", name := "capture", desc := "(JIZ)I" } : Jvm.MethodName)) ∈ mm_T := tw_of (i := 919) (by decide +kernel) rfl
theorem tw_920 : (Jvm.Cond.code ({ cls := "PatternBenchModel", name := "capture", desc := "(JIZ)I" } : Jvm.MethodName) prog_10_method_33_code (6 : Nat) (Option.some Jvm.ClassFile.FieldType.int)) ∈ mm_T := tw_of (i := 920) (by decide +kernel) rfl
theorem tw_921 : (Jvm.Cond.methodLink "PatternBenchModel" (153 : Nat) ({ cls := "PatternBenchModel", name := "takesLetter", desc := "(I)Z" } : Jvm.MethodName)) ∈ mm_T := tw_of (i := 921) (by decide +kernel) rfl
theorem tw_923 : (Jvm.Cond.instanceMethod ({ cls := "PatternBenchModel", name := "takesLetter", desc := "(I)Z" } : Jvm.MethodName)) ∈ mm_T := tw_of (i := 923) (by decide +kernel) rfl
theorem tw_924 : (Jvm.Cond.code ({ cls := "PatternBenchModel", name := "takesLetter", desc := "(I)Z" } : Jvm.MethodName) prog_10_method_36_code (4 : Nat) (Option.some Jvm.ClassFile.FieldType.boolean)) ∈ mm_T := tw_of (i := 924) (by decide +kernel) rfl
theorem tw_925 : (Jvm.Cond.methodLink "PatternBenchModel" (146 : Nat) ({ cls := "PatternBenchModel", name := "inClass", desc := "(II)Z" } : Jvm.MethodName)) ∈ mm_T := tw_of (i := 925) (by decide +kernel) rfl
theorem tw_927 : (Jvm.Cond.instanceMethod ({ cls := "PatternBenchModel", name := "inClass", desc := "(II)Z" } : Jvm.MethodName)) ∈ mm_T := tw_of (i := 927) (by decide +kernel) rfl
theorem tw_928 : (Jvm.Cond.code ({ cls := "PatternBenchModel", name := "inClass", desc := "(II)Z" } : Jvm.MethodName) prog_10_method_34_code (6 : Nat) (Option.some Jvm.ClassFile.FieldType.boolean)) ∈ mm_T := tw_of (i := 928) (by decide +kernel) rfl
theorem tw_929 : (Jvm.Cond.methodLink "PatternBenchModel" (210 : Nat) ({ cls := "PatternBenchModel", name := "star", desc := "(Z)V" } : Jvm.MethodName)) ∈ mm_T := tw_of (i := 929) (by decide +kernel) rfl
theorem tw_931 : (Jvm.Cond.instanceMethod ({ cls := "PatternBenchModel", name := "star", desc := "(Z)V" } : Jvm.MethodName)) ∈ mm_T := tw_of (i := 931) (by decide +kernel) rfl
theorem tw_932 : (Jvm.Cond.code ({ cls := "PatternBenchModel", name := "star", desc := "(Z)V" } : Jvm.MethodName) prog_10_method_40_code (3 : Nat) (Option.none : Option Jvm.ClassFile.FieldType)) ∈ mm_T := tw_of (i := 932) (by decide +kernel) rfl
theorem tw_933 : (Jvm.Cond.methodLink "PatternBenchModel" (214 : Nat) ({ cls := "PatternBenchModel", name := "carryOn", desc := "()V" } : Jvm.MethodName)) ∈ mm_T := tw_of (i := 933) (by decide +kernel) rfl
theorem tw_935 : (Jvm.Cond.instanceMethod ({ cls := "PatternBenchModel", name := "carryOn", desc := "()V" } : Jvm.MethodName)) ∈ mm_T := tw_of (i := 935) (by decide +kernel) rfl
theorem tw_936 : (Jvm.Cond.code ({ cls := "PatternBenchModel", name := "carryOn", desc := "()V" } : Jvm.MethodName) prog_10_method_42_code (6 : Nat) (Option.none : Option Jvm.ClassFile.FieldType)) ∈ mm_T := tw_of (i := 936) (by decide +kernel) rfl
theorem tw_937 : (Jvm.Cond.methodLink "PatternBenchModel" (186 : Nat) ({ cls := "PatternBenchModel", name := "placeOf", desc := "(I)I" } : Jvm.MethodName)) ∈ mm_T := tw_of (i := 937) (by decide +kernel) rfl
theorem tw_939 : (Jvm.Cond.instanceMethod ({ cls := "PatternBenchModel", name := "placeOf", desc := "(I)I" } : Jvm.MethodName)) ∈ mm_T := tw_of (i := 939) (by decide +kernel) rfl
theorem tw_940 : (Jvm.Cond.code ({ cls := "PatternBenchModel", name := "placeOf", desc := "(I)I" } : Jvm.MethodName) prog_10_method_27_code (2 : Nat) (Option.some Jvm.ClassFile.FieldType.int)) ∈ mm_T := tw_of (i := 940) (by decide +kernel) rfl
theorem tw_941 : (Jvm.Cond.methodLink "PatternBenchModel" (189 : Nat) ({ cls := "PatternBenchModel", name := "numberOf", desc := "(I)I" } : Jvm.MethodName)) ∈ mm_T := tw_of (i := 941) (by decide +kernel) rfl
theorem tw_943 : (Jvm.Cond.instanceMethod ({ cls := "PatternBenchModel", name := "numberOf", desc := "(I)I" } : Jvm.MethodName)) ∈ mm_T := tw_of (i := 943) (by decide +kernel) rfl
theorem tw_944 : (Jvm.Cond.code ({ cls := "PatternBenchModel", name := "numberOf", desc := "(I)I" } : Jvm.MethodName) prog_10_method_28_code (2 : Nat) (Option.some Jvm.ClassFile.FieldType.int)) ∈ mm_T := tw_of (i := 944) (by decide +kernel) rfl
theorem tw_945 : (Jvm.Cond.constantLong "PatternBenchModel" (192 : Nat) (4095 : Int64)) ∈ mm_T := tw_of (i := 945) (by decide +kernel) rfl
theorem tw_946 : (Jvm.Cond.constantLong "PatternBenchModel" (194 : Nat) (-1 : Int64)) ∈ mm_T := tw_of (i := 946) (by decide +kernel) rfl
theorem tw_947 : (Jvm.Cond.methodLink "PatternBenchLaw" (46 : Nat) ({ cls := "PatternBenchModel", name := "again", desc := "()I" } : Jvm.MethodName)) ∈ mm_T := tw_of (i := 947) (by decide +kernel) rfl
theorem tw_948 : (Jvm.Cond.instanceMethod ({ cls := "PatternBenchModel", name := "again", desc := "()I" } : Jvm.MethodName)) ∈ mm_T := tw_of (i := 948) (by decide +kernel) rfl
theorem tw_949 : (Jvm.Cond.selects "PatternBenchModel" ({ cls := "PatternBenchModel", name := "again", desc := "()I" } : Jvm.MethodName) ({ cls := "PatternBenchModel", name := "again", desc := "()I" } : Jvm.MethodName)) ∈ mm_T := tw_of (i := 949) (by decide +kernel) rfl
theorem tw_950 : (Jvm.Cond.code ({ cls := "PatternBenchModel", name := "again", desc := "()I" } : Jvm.MethodName) prog_10_method_47_code (2 : Nat) (Option.some Jvm.ClassFile.FieldType.int)) ∈ mm_T := tw_of (i := 950) (by decide +kernel) rfl
theorem tw_951 : (Jvm.Cond.methodLink "PatternBenchLaw" (50 : Nat) ({ cls := "PatternBenchModel", name := "start", desc := "(I)I" } : Jvm.MethodName)) ∈ mm_T := tw_of (i := 951) (by decide +kernel) rfl
theorem tw_952 : (Jvm.Cond.instanceMethod ({ cls := "PatternBenchModel", name := "start", desc := "(I)I" } : Jvm.MethodName)) ∈ mm_T := tw_of (i := 952) (by decide +kernel) rfl
theorem tw_953 : (Jvm.Cond.selects "PatternBenchModel" ({ cls := "PatternBenchModel", name := "start", desc := "(I)I" } : Jvm.MethodName) ({ cls := "PatternBenchModel", name := "start", desc := "(I)I" } : Jvm.MethodName)) ∈ mm_T := tw_of (i := 953) (by decide +kernel) rfl
theorem tw_954 : (Jvm.Cond.code ({ cls := "PatternBenchModel", name := "start", desc := "(I)I" } : Jvm.MethodName) prog_10_method_49_code (2 : Nat) (Option.some Jvm.ClassFile.FieldType.int)) ∈ mm_T := tw_of (i := 954) (by decide +kernel) rfl
theorem tw_955 : (Jvm.Cond.methodLink "PatternBenchModel" (232 : Nat) ({ cls := "PatternBenchModel", name := "bound", desc := "(IZ)I" } : Jvm.MethodName)) ∈ mm_T := tw_of (i := 955) (by decide +kernel) rfl
theorem tw_957 : (Jvm.Cond.instanceMethod ({ cls := "PatternBenchModel", name := "bound", desc := "(IZ)I" } : Jvm.MethodName)) ∈ mm_T := tw_of (i := 957) (by decide +kernel) rfl
theorem tw_958 : (Jvm.Cond.code ({ cls := "PatternBenchModel", name := "bound", desc := "(IZ)I" } : Jvm.MethodName) prog_10_method_48_code (3 : Nat) (Option.some Jvm.ClassFile.FieldType.int)) ∈ mm_T := tw_of (i := 958) (by decide +kernel) rfl
theorem tw_959 : (Jvm.Cond.methodLink "PatternBenchLaw" (54 : Nat) ({ cls := "PatternBenchModel", name := "end", desc := "(I)I" } : Jvm.MethodName)) ∈ mm_T := tw_of (i := 959) (by decide +kernel) rfl
theorem tw_960 : (Jvm.Cond.instanceMethod ({ cls := "PatternBenchModel", name := "end", desc := "(I)I" } : Jvm.MethodName)) ∈ mm_T := tw_of (i := 960) (by decide +kernel) rfl
theorem tw_961 : (Jvm.Cond.selects "PatternBenchModel" ({ cls := "PatternBenchModel", name := "end", desc := "(I)I" } : Jvm.MethodName) ({ cls := "PatternBenchModel", name := "end", desc := "(I)I" } : Jvm.MethodName)) ∈ mm_T := tw_of (i := 961) (by decide +kernel) rfl
theorem tw_962 : (Jvm.Cond.code ({ cls := "PatternBenchModel", name := "end", desc := "(I)I" } : Jvm.MethodName) prog_10_method_50_code (2 : Nat) (Option.some Jvm.ClassFile.FieldType.int)) ∈ mm_T := tw_of (i := 962) (by decide +kernel) rfl
theorem tw_963 : (Jvm.Cond.methodLink "PatternBenchLaw" (58 : Nat) ({ cls := "PatternBenchModel", name := "steps", desc := "()I" } : Jvm.MethodName)) ∈ mm_T := tw_of (i := 963) (by decide +kernel) rfl
theorem tw_964 : (Jvm.Cond.instanceMethod ({ cls := "PatternBenchModel", name := "steps", desc := "()I" } : Jvm.MethodName)) ∈ mm_T := tw_of (i := 964) (by decide +kernel) rfl
theorem tw_965 : (Jvm.Cond.selects "PatternBenchModel" ({ cls := "PatternBenchModel", name := "steps", desc := "()I" } : Jvm.MethodName) ({ cls := "PatternBenchModel", name := "steps", desc := "()I" } : Jvm.MethodName)) ∈ mm_T := tw_of (i := 965) (by decide +kernel) rfl
theorem tw_966 : (Jvm.Cond.code ({ cls := "PatternBenchModel", name := "steps", desc := "()I" } : Jvm.MethodName) prog_10_method_51_code (1 : Nat) (Option.some Jvm.ClassFile.FieldType.int)) ∈ mm_T := tw_of (i := 966) (by decide +kernel) rfl
theorem tw_967 : (Jvm.Cond.methodLink "PatternBenchLaw" (62 : Nat) ({ cls := "PatternBenchModel", name := "matches", desc := "()I" } : Jvm.MethodName)) ∈ mm_T := tw_of (i := 967) (by decide +kernel) rfl
theorem tw_968 : (Jvm.Cond.instanceMethod ({ cls := "PatternBenchModel", name := "matches", desc := "()I" } : Jvm.MethodName)) ∈ mm_T := tw_of (i := 968) (by decide +kernel) rfl
theorem tw_969 : (Jvm.Cond.selects "PatternBenchModel" ({ cls := "PatternBenchModel", name := "matches", desc := "()I" } : Jvm.MethodName) ({ cls := "PatternBenchModel", name := "matches", desc := "()I" } : Jvm.MethodName)) ∈ mm_T := tw_of (i := 969) (by decide +kernel) rfl
theorem tw_970 : (Jvm.Cond.code ({ cls := "PatternBenchModel", name := "matches", desc := "()I" } : Jvm.MethodName) prog_10_method_52_code (4 : Nat) (Option.some Jvm.ClassFile.FieldType.int)) ∈ mm_T := tw_of (i := 970) (by decide +kernel) rfl
theorem tw_971 : (Jvm.Cond.methodLink "PatternBenchLaw" (66 : Nat) ({ cls := "PatternBenchModel", name := "count", desc := "(I)I" } : Jvm.MethodName)) ∈ mm_T := tw_of (i := 971) (by decide +kernel) rfl
theorem tw_972 : (Jvm.Cond.instanceMethod ({ cls := "PatternBenchModel", name := "count", desc := "(I)I" } : Jvm.MethodName)) ∈ mm_T := tw_of (i := 972) (by decide +kernel) rfl
theorem tw_973 : (Jvm.Cond.selects "PatternBenchModel" ({ cls := "PatternBenchModel", name := "count", desc := "(I)I" } : Jvm.MethodName) ({ cls := "PatternBenchModel", name := "count", desc := "(I)I" } : Jvm.MethodName)) ∈ mm_T := tw_of (i := 973) (by decide +kernel) rfl
theorem tw_974 : (Jvm.Cond.code ({ cls := "PatternBenchModel", name := "count", desc := "(I)I" } : Jvm.MethodName) prog_10_method_53_code (2 : Nat) (Option.some Jvm.ClassFile.FieldType.int)) ∈ mm_T := tw_of (i := 974) (by decide +kernel) rfl
theorem tw_975 : (Jvm.Cond.fieldLink "java/lang/String" (15 : Nat) "java/lang/String" "coder" "B") ∈ mm_T := tw_of (i := 975) (by decide +kernel) rfl
theorem tw_976 : (Jvm.Cond.fieldLink "java/lang/String" (9 : Nat) "java/lang/String" "value" "[B") ∈ mm_T := tw_of (i := 976) (by decide +kernel) rfl
theorem ts_Reader_openLevel : Cond.selects r_Reader y_Reader_openLevel y_Reader_openLevel ∈ mm_T := tw_s (i := 0) (q := (y_Reader_openLevel, 11)) (by decide +kernel)
theorem ts_Reader_readPart : Cond.selects r_Reader y_Reader_readPart y_Reader_readPart ∈ mm_T := tw_s (i := 1) (q := (y_Reader_readPart, 11)) (by decide +kernel)
theorem ts_Reader_ahead : Cond.selects r_Reader y_Reader_ahead y_Reader_ahead ∈ mm_T := tw_s (i := 2) (q := (y_Reader_ahead, 11)) (by decide +kernel)
theorem ts_Reader_openNextRow : Cond.selects r_Reader y_Reader_openNextRow y_Reader_openNextRow ∈ mm_T := tw_s (i := 3) (q := (y_Reader_openNextRow, 11)) (by decide +kernel)
theorem ts_Reader_closeChoice : Cond.selects r_Reader y_Reader_closeChoice y_Reader_closeChoice ∈ mm_T := tw_s (i := 4) (q := (y_Reader_closeChoice, 11)) (by decide +kernel)
theorem ts_Reader_refuse : Cond.selects r_Reader y_Reader_refuse y_Reader_refuse ∈ mm_T := tw_s (i := 5) (q := (y_Reader_refuse, 11)) (by decide +kernel)
theorem ts_Reader_readCall : Cond.selects r_Reader y_Reader_readCall y_Reader_readCall ∈ mm_T := tw_s (i := 6) (q := (y_Reader_readCall, 11)) (by decide +kernel)
theorem ts_Reader_appendItem : Cond.selects r_Reader y_Reader_appendItem y_Reader_appendItem ∈ mm_T := tw_s (i := 7) (q := (y_Reader_appendItem, 11)) (by decide +kernel)
theorem ts_Reader_openChoice : Cond.selects r_Reader y_Reader_openChoice y_Reader_openChoice ∈ mm_T := tw_s (i := 8) (q := (y_Reader_openChoice, 11)) (by decide +kernel)
theorem ts_Reader_kindOfChoice : Cond.selects r_Reader y_Reader_kindOfChoice y_Reader_kindOfChoice ∈ mm_T := tw_s (i := 9) (q := (y_Reader_kindOfChoice, 11)) (by decide +kernel)
theorem ts_Reader_readClass : Cond.selects r_Reader y_Reader_readClass y_Reader_readClass ∈ mm_T := tw_s (i := 10) (q := (y_Reader_readClass, 11)) (by decide +kernel)
theorem ts_Reader_readClassPart : Cond.selects r_Reader y_Reader_readClassPart y_Reader_readClassPart ∈ mm_T := tw_s (i := 11) (q := (y_Reader_readClassPart, 11)) (by decide +kernel)
theorem ts_Reader_readReference : Cond.selects r_Reader y_Reader_readReference y_Reader_readReference ∈ mm_T := tw_s (i := 12) (q := (y_Reader_readReference, 11)) (by decide +kernel)
theorem ts_Reader_readSign : Cond.selects r_Reader y_Reader_readSign y_Reader_readSign ∈ mm_T := tw_s (i := 13) (q := (y_Reader_readSign, 11)) (by decide +kernel)
theorem ts_Reader_readRepeat : Cond.selects r_Reader y_Reader_readRepeat y_Reader_readRepeat ∈ mm_T := tw_s (i := 14) (q := (y_Reader_readRepeat, 11)) (by decide +kernel)
theorem ts_Reader_setRepeat : Cond.selects r_Reader y_Reader_setRepeat y_Reader_setRepeat ∈ mm_T := tw_s (i := 15) (q := (y_Reader_setRepeat, 11)) (by decide +kernel)
theorem ts_Reader_readTimes : Cond.selects r_Reader y_Reader_readTimes y_Reader_readTimes ∈ mm_T := tw_s (i := 16) (q := (y_Reader_readTimes, 11)) (by decide +kernel)
theorem ts_Bench_searchFrom : Cond.selects r_Bench y_Bench_searchFrom y_Bench_searchFrom ∈ mm_T := tw_s (i := 17) (q := (y_Bench_searchFrom, 8)) (by decide +kernel)
theorem ts_Matcher_beginAt : Cond.selects r_Matcher y_Matcher_beginAt y_Matcher_beginAt ∈ mm_T := tw_s (i := 18) (q := (y_Matcher_beginAt, 11)) (by decide +kernel)
theorem ts_Matcher_go : Cond.selects r_Matcher y_Matcher_go y_Matcher_go ∈ mm_T := tw_s (i := 19) (q := (y_Matcher_go, 11)) (by decide +kernel)
theorem ts_Matcher_goesOn : Cond.selects r_Matcher y_Matcher_goesOn y_Matcher_goesOn ∈ mm_T := tw_s (i := 20) (q := (y_Matcher_goesOn, 11)) (by decide +kernel)
theorem ts_Matcher_takeTurn : Cond.selects r_Matcher y_Matcher_takeTurn y_Matcher_takeTurn ∈ mm_T := tw_s (i := 21) (q := (y_Matcher_takeTurn, 11)) (by decide +kernel)
theorem ts_Matcher_enterRow : Cond.selects r_Matcher y_Matcher_enterRow y_Matcher_enterRow ∈ mm_T := tw_s (i := 22) (q := (y_Matcher_enterRow, 11)) (by decide +kernel)
theorem ts_Matcher_enterItem : Cond.selects r_Matcher y_Matcher_enterItem y_Matcher_enterItem ∈ mm_T := tw_s (i := 23) (q := (y_Matcher_enterItem, 11)) (by decide +kernel)
theorem ts_Matcher_fork : Cond.selects r_Matcher y_Matcher_fork y_Matcher_fork ∈ mm_T := tw_s (i := 24) (q := (y_Matcher_fork, 11)) (by decide +kernel)
theorem ts_Matcher_tryAtom : Cond.selects r_Matcher y_Matcher_tryAtom y_Matcher_tryAtom ∈ mm_T := tw_s (i := 25) (q := (y_Matcher_tryAtom, 11)) (by decide +kernel)
theorem ts_Matcher_ask : Cond.selects r_Matcher y_Matcher_ask y_Matcher_ask ∈ mm_T := tw_s (i := 26) (q := (y_Matcher_ask, 11)) (by decide +kernel)
theorem ts_Matcher_askLetter : Cond.selects r_Matcher y_Matcher_askLetter y_Matcher_askLetter ∈ mm_T := tw_s (i := 27) (q := (y_Matcher_askLetter, 11)) (by decide +kernel)
theorem ts_Matcher_askSame : Cond.selects r_Matcher y_Matcher_askSame y_Matcher_askSame ∈ mm_T := tw_s (i := 28) (q := (y_Matcher_askSame, 11)) (by decide +kernel)
theorem ts_Matcher_standsHere : Cond.selects r_Matcher y_Matcher_standsHere y_Matcher_standsHere ∈ mm_T := tw_s (i := 29) (q := (y_Matcher_standsHere, 11)) (by decide +kernel)
theorem ts_Matcher_askCall : Cond.selects r_Matcher y_Matcher_askCall y_Matcher_askCall ∈ mm_T := tw_s (i := 30) (q := (y_Matcher_askCall, 11)) (by decide +kernel)
theorem ts_Matcher_askBody : Cond.selects r_Matcher y_Matcher_askBody y_Matcher_askBody ∈ mm_T := tw_s (i := 31) (q := (y_Matcher_askBody, 11)) (by decide +kernel)
theorem ts_Matcher_goAfterAtom : Cond.selects r_Matcher y_Matcher_goAfterAtom y_Matcher_goAfterAtom ∈ mm_T := tw_s (i := 32) (q := (y_Matcher_goAfterAtom, 11)) (by decide +kernel)
theorem ts_Matcher_goAfterItem : Cond.selects r_Matcher y_Matcher_goAfterItem y_Matcher_goAfterItem ∈ mm_T := tw_s (i := 33) (q := (y_Matcher_goAfterItem, 11)) (by decide +kernel)
theorem ts_Matcher_resume : Cond.selects r_Matcher y_Matcher_resume y_Matcher_resume ∈ mm_T := tw_s (i := 34) (q := (y_Matcher_resume, 11)) (by decide +kernel)
theorem ts_Matcher_leaveBody : Cond.selects r_Matcher y_Matcher_leaveBody y_Matcher_leaveBody ∈ mm_T := tw_s (i := 35) (q := (y_Matcher_leaveBody, 11)) (by decide +kernel)
theorem ts_Matcher_leaveTimesTurn : Cond.selects r_Matcher y_Matcher_leaveTimesTurn y_Matcher_leaveTimesTurn ∈ mm_T := tw_s (i := 36) (q := (y_Matcher_leaveTimesTurn, 11)) (by decide +kernel)
theorem ts_Matcher_takeChoice : Cond.selects r_Matcher y_Matcher_takeChoice y_Matcher_takeChoice ∈ mm_T := tw_s (i := 37) (q := (y_Matcher_takeChoice, 11)) (by decide +kernel)
theorem ts_Bench_placeBehindMatch : Cond.selects r_Bench y_Bench_placeBehindMatch y_Bench_placeBehindMatch ∈ mm_T := tw_s (i := 38) (q := (y_Bench_placeBehindMatch, 8)) (by decide +kernel)
theorem ts_Model_measure : Cond.selects r_Model y_Model_measure y_Model_measure ∈ mm_T := tw_s (i := 39) (q := (y_Model_measure, 27)) (by decide +kernel)
theorem ts_Model_opener : Cond.selects r_Model y_Model_opener y_Model_opener ∈ mm_T := tw_s (i := 40) (q := (y_Model_opener, 27)) (by decide +kernel)
theorem ts_Model_c : Cond.selects r_Model y_Model_c y_Model_c ∈ mm_T := tw_s (i := 41) (q := (y_Model_c, 27)) (by decide +kernel)
theorem ts_Model_behindPlain : Cond.selects r_Model y_Model_behindPlain y_Model_behindPlain ∈ mm_T := tw_s (i := 42) (q := (y_Model_behindPlain, 27)) (by decide +kernel)
theorem ts_Model_behindClass : Cond.selects r_Model y_Model_behindClass y_Model_behindClass ∈ mm_T := tw_s (i := 43) (q := (y_Model_behindClass, 27)) (by decide +kernel)
theorem ts_Model_behindRepeat : Cond.selects r_Model y_Model_behindRepeat y_Model_behindRepeat ∈ mm_T := tw_s (i := 44) (q := (y_Model_behindRepeat, 27)) (by decide +kernel)
theorem ts_Model_sized : Cond.selects r_Model y_Model_sized y_Model_sized ∈ mm_T := tw_s (i := 45) (q := (y_Model_sized, 27)) (by decide +kernel)
theorem ts_Model_groupsOf : Cond.selects r_Model y_Model_groupsOf y_Model_groupsOf ∈ mm_T := tw_s (i := 46) (q := (y_Model_groupsOf, 27)) (by decide +kernel)
theorem ts_Model_namesGood : Cond.selects r_Model y_Model_namesGood y_Model_namesGood ∈ mm_T := tw_s (i := 47) (q := (y_Model_namesGood, 27)) (by decide +kernel)
theorem ts_Model_seek : Cond.selects r_Model y_Model_seek y_Model_seek ∈ mm_T := tw_s (i := 48) (q := (y_Model_seek, 27)) (by decide +kernel)
theorem ts_Model_walk : Cond.selects r_Model y_Model_walk y_Model_walk ∈ mm_T := tw_s (i := 49) (q := (y_Model_walk, 27)) (by decide +kernel)
theorem ts_Model_go : Cond.selects r_Model y_Model_go y_Model_go ∈ mm_T := tw_s (i := 50) (q := (y_Model_go, 27)) (by decide +kernel)
theorem ts_Model_retreat : Cond.selects r_Model y_Model_retreat y_Model_retreat ∈ mm_T := tw_s (i := 51) (q := (y_Model_retreat, 27)) (by decide +kernel)
theorem ts_Model_rowEnds : Cond.selects r_Model y_Model_rowEnds y_Model_rowEnds ∈ mm_T := tw_s (i := 52) (q := (y_Model_rowEnds, 27)) (by decide +kernel)
theorem ts_Model_t : Cond.selects r_Model y_Model_t y_Model_t ∈ mm_T := tw_s (i := 53) (q := (y_Model_t, 27)) (by decide +kernel)
theorem ts_Model_item : Cond.selects r_Model y_Model_item y_Model_item ∈ mm_T := tw_s (i := 54) (q := (y_Model_item, 27)) (by decide +kernel)
theorem ts_Model_behindAtom : Cond.selects r_Model y_Model_behindAtom y_Model_behindAtom ∈ mm_T := tw_s (i := 55) (q := (y_Model_behindAtom, 27)) (by decide +kernel)
theorem ts_Model_closing : Cond.selects r_Model y_Model_closing y_Model_closing ∈ mm_T := tw_s (i := 56) (q := (y_Model_closing, 27)) (by decide +kernel)
theorem ts_Model_push : Cond.selects r_Model y_Model_push y_Model_push ∈ mm_T := tw_s (i := 57) (q := (y_Model_push, 27)) (by decide +kernel)
theorem ts_Model_pushBack : Cond.selects r_Model y_Model_pushBack y_Model_pushBack ∈ mm_T := tw_s (i := 58) (q := (y_Model_pushBack, 27)) (by decide +kernel)
theorem ts_Model_nextRow : Cond.selects r_Model y_Model_nextRow y_Model_nextRow ∈ mm_T := tw_s (i := 59) (q := (y_Model_nextRow, 27)) (by decide +kernel)
theorem ts_Model_atom : Cond.selects r_Model y_Model_atom y_Model_atom ∈ mm_T := tw_s (i := 60) (q := (y_Model_atom, 27)) (by decide +kernel)
theorem ts_Model_openChoice : Cond.selects r_Model y_Model_openChoice y_Model_openChoice ∈ mm_T := tw_s (i := 61) (q := (y_Model_openChoice, 27)) (by decide +kernel)
theorem ts_Model_groupAt : Cond.selects r_Model y_Model_groupAt y_Model_groupAt ∈ mm_T := tw_s (i := 62) (q := (y_Model_groupAt, 27)) (by decide +kernel)
theorem ts_Model_calls : Cond.selects r_Model y_Model_calls y_Model_calls ∈ mm_T := tw_s (i := 63) (q := (y_Model_calls, 27)) (by decide +kernel)
theorem ts_Model_kindOf : Cond.selects r_Model y_Model_kindOf y_Model_kindOf ∈ mm_T := tw_s (i := 64) (q := (y_Model_kindOf, 27)) (by decide +kernel)
theorem ts_Model_parentOf : Cond.selects r_Model y_Model_parentOf y_Model_parentOf ∈ mm_T := tw_s (i := 65) (q := (y_Model_parentOf, 27)) (by decide +kernel)
theorem ts_Model_choiceOf : Cond.selects r_Model y_Model_choiceOf y_Model_choiceOf ∈ mm_T := tw_s (i := 66) (q := (y_Model_choiceOf, 27)) (by decide +kernel)
theorem ts_Model_plain : Cond.selects r_Model y_Model_plain y_Model_plain ∈ mm_T := tw_s (i := 67) (q := (y_Model_plain, 27)) (by decide +kernel)
theorem ts_Model_repeats : Cond.selects r_Model y_Model_repeats y_Model_repeats ∈ mm_T := tw_s (i := 68) (q := (y_Model_repeats, 27)) (by decide +kernel)
theorem ts_Model_capture : Cond.selects r_Model y_Model_capture y_Model_capture ∈ mm_T := tw_s (i := 69) (q := (y_Model_capture, 27)) (by decide +kernel)
theorem ts_Model_takesLetter : Cond.selects r_Model y_Model_takesLetter y_Model_takesLetter ∈ mm_T := tw_s (i := 70) (q := (y_Model_takesLetter, 27)) (by decide +kernel)
theorem ts_Model_inClass : Cond.selects r_Model y_Model_inClass y_Model_inClass ∈ mm_T := tw_s (i := 71) (q := (y_Model_inClass, 27)) (by decide +kernel)
theorem ts_Model_star : Cond.selects r_Model y_Model_star y_Model_star ∈ mm_T := tw_s (i := 72) (q := (y_Model_star, 27)) (by decide +kernel)
theorem ts_Model_carryOn : Cond.selects r_Model y_Model_carryOn y_Model_carryOn ∈ mm_T := tw_s (i := 73) (q := (y_Model_carryOn, 27)) (by decide +kernel)
theorem ts_Model_placeOf : Cond.selects r_Model y_Model_placeOf y_Model_placeOf ∈ mm_T := tw_s (i := 74) (q := (y_Model_placeOf, 27)) (by decide +kernel)
theorem ts_Model_numberOf : Cond.selects r_Model y_Model_numberOf y_Model_numberOf ∈ mm_T := tw_s (i := 75) (q := (y_Model_numberOf, 27)) (by decide +kernel)
theorem ts_Model_bound : Cond.selects r_Model y_Model_bound y_Model_bound ∈ mm_T := tw_s (i := 76) (q := (y_Model_bound, 27)) (by decide +kernel)
