set_option maxRecDepth 20000 in
theorem tw_1_0 : (Jvm.Cond.initialized "SideBySideLaw") ∈ UL := ul_1 0 rfl rfl
set_option maxRecDepth 20000 in
theorem tw_1_1 : (Jvm.Cond.initialized "SideBySide") ∈ UL := ul_1 1 rfl rfl
set_option maxRecDepth 20000 in
theorem tw_1_2 : (Jvm.Cond.initialized "SideBySide$Court") ∈ UL := ul_1 2 rfl rfl
set_option maxRecDepth 20000 in
theorem tw_1_3 : (Jvm.Cond.initialized "SideBySide$Shelf") ∈ UL := ul_1 3 rfl rfl
set_option maxRecDepth 20000 in
theorem tw_1_4 : (Jvm.Cond.initialized "SideBySide$Stroke") ∈ UL := ul_1 4 rfl rfl
set_option maxRecDepth 20000 in
theorem tw_1_5 : (Jvm.Cond.initialized "SideBySide$Smash") ∈ UL := ul_1 5 rfl rfl
set_option maxRecDepth 20000 in
theorem tw_1_6 : (Jvm.Cond.initialized "SideBySide$Drop") ∈ UL := ul_1 6 rfl rfl
set_option maxRecDepth 20000 in
theorem tw_1_7 : (Jvm.Cond.initialized "SideBySide$Lift") ∈ UL := ul_1 7 rfl rfl
set_option maxRecDepth 20000 in
theorem tw_1_8 : (Jvm.Cond.initialized "SideBySide$Push") ∈ UL := ul_1 8 rfl rfl
set_option maxRecDepth 20000 in
theorem tw_1_9 : (Jvm.Cond.initialized "SideBySide$Flick") ∈ UL := ul_1 9 rfl rfl
set_option maxRecDepth 20000 in
theorem tw_1_10 : (Jvm.Cond.initialized "SideBySide$Between") ∈ UL := ul_1 10 rfl rfl
set_option maxRecDepth 20000 in
theorem tw_1_11 : (Jvm.Cond.initialized "SideBySide$Wander") ∈ UL := ul_1 11 rfl rfl
set_option maxRecDepth 20000 in
theorem tw_1_12 : (Jvm.Cond.initialized "SideBySideModel") ∈ UL := ul_1 12 rfl rfl
set_option maxRecDepth 20000 in
theorem tw_1_13 : (Jvm.Cond.initialized "SideBySide$CourtText") ∈ UL := ul_1 13 rfl rfl
set_option maxRecDepth 20000 in
theorem tw_1_14 : (Jvm.Cond.initialized "java/lang/System") ∈ UL := ul_1 14 rfl rfl
set_option maxRecDepth 20000 in
theorem tw_1_15 : (Jvm.Cond.initialized "java/lang/Math") ∈ UL := ul_1 15 rfl rfl
set_option maxRecDepth 20000 in
theorem tw_1_16 : (Jvm.Cond.initialized "java/lang/Integer") ∈ UL := ul_1 16 rfl rfl
set_option maxRecDepth 20000 in
theorem tw_1_17 : (Jvm.Cond.initialized "java/lang/Throwable") ∈ UL := ul_1 17 rfl rfl
set_option maxRecDepth 20000 in
theorem tw_1_18 : (Jvm.Cond.initialized "java/lang/Exception") ∈ UL := ul_1 18 rfl rfl
set_option maxRecDepth 20000 in
theorem tw_1_19 : (Jvm.Cond.initialized "java/lang/RuntimeException") ∈ UL := ul_1 19 rfl rfl
set_option maxRecDepth 20000 in
theorem tw_1_20 : (Jvm.Cond.initialized "java/lang/IllegalArgumentException") ∈ UL := ul_1 20 rfl rfl
set_option maxRecDepth 20000 in
theorem tw_1_21 : (Jvm.Cond.initialized "java/lang/IllegalStateException") ∈ UL := ul_1 21 rfl rfl
set_option maxRecDepth 20000 in
theorem tw_1_22 : (Jvm.Cond.initialized "java/lang/UnsupportedOperationException") ∈ UL := ul_1 22 rfl rfl
set_option maxRecDepth 20000 in
theorem tw_1_23 : (Jvm.Cond.classLink "SideBySideLaw" (8 : Nat) "SideBySide") ∈ UL := ul_1 23 rfl rfl
set_option maxRecDepth 20000 in
theorem tw_1_24 : (Jvm.Cond.instantiable "SideBySide" (9 : Nat)) ∈ UL := ul_1 24 rfl rfl
set_option maxRecDepth 20000 in
theorem tw_1_25 : (Jvm.Cond.methodLink "SideBySideLaw" (17 : Nat) ({ cls := "SideBySide", name := "<init>", desc := "()V" } : Jvm.MethodName)) ∈ UL := ul_1 25 rfl rfl
set_option maxRecDepth 20000 in
theorem tw_1_26 : (Jvm.Cond.instanceMethod ({ cls := "SideBySide", name := "<init>", desc := "()V" } : Jvm.MethodName)) ∈ UL := ul_1 26 rfl rfl
set_option maxRecDepth 20000 in
theorem tw_1_27 : (Jvm.Cond.code ({ cls := "SideBySide", name := "<init>", desc := "()V" } : Jvm.MethodName) prog_1_method_1_code (2 : Nat) (Option.none : Option Jvm.ClassFile.FieldType)) ∈ UL := ul_1 27 rfl rfl
set_option maxRecDepth 20000 in
theorem tw_1_28 : (Jvm.Cond.methodLink "SideBySide" (3 : Nat) ({ cls := "java/lang/Object", name := "<init>", desc := "()V" } : Jvm.MethodName)) ∈ UL := ul_1 28 rfl rfl
set_option maxRecDepth 20000 in
theorem tw_1_29 : (Jvm.Cond.instanceMethod ({ cls := "java/lang/Object", name := "<init>", desc := "()V" } : Jvm.MethodName)) ∈ UL := ul_1 29 rfl rfl
set_option maxRecDepth 20000 in
theorem tw_1_30 : (Jvm.Cond.code ({ cls := "java/lang/Object", name := "<init>", desc := "()V" } : Jvm.MethodName) object_method_1_code (1 : Nat) (Option.none : Option Jvm.ClassFile.FieldType)) ∈ UL := ul_1 30 rfl rfl
set_option maxRecDepth 20000 in
theorem tw_1_31 : (Jvm.Cond.classLink "SideBySide" (9 : Nat) "SideBySide$Court") ∈ UL := ul_1 31 rfl rfl
set_option maxRecDepth 20000 in
theorem tw_1_32 : (Jvm.Cond.instantiable "SideBySide$Court" (12 : Nat)) ∈ UL := ul_1 32 rfl rfl
set_option maxRecDepth 20000 in
theorem tw_1_34 : (Jvm.Cond.instanceMethod ({ cls := "SideBySide$Court", name := "<init>", desc := "()V" } : Jvm.MethodName)) ∈ UL := ul_1 34 rfl rfl
set_option maxRecDepth 20000 in
theorem tw_1_35 : (Jvm.Cond.code ({ cls := "SideBySide$Court", name := "<init>", desc := "()V" } : Jvm.MethodName) prog_3_method_1_code (1 : Nat) (Option.none : Option Jvm.ClassFile.FieldType)) ∈ UL := ul_1 35 rfl rfl
set_option maxRecDepth 20000 in
theorem tw_1_36 : (Jvm.Cond.methodLink "SideBySide$Court" (3 : Nat) ({ cls := "java/lang/Object", name := "<init>", desc := "()V" } : Jvm.MethodName)) ∈ UL := ul_1 36 rfl rfl
set_option maxRecDepth 20000 in
theorem tw_1_37 : (Jvm.Cond.classLink "SideBySide$Court" (33 : Nat) "SideBySide$Stroke") ∈ UL := ul_1 37 rfl rfl
set_option maxRecDepth 20000 in
theorem tw_1_39 : (Jvm.Cond.fieldLink "SideBySide$Court" (9 : Nat) "SideBySide$Court" "at" "[I") ∈ UL := ul_1 39 rfl rfl
set_option maxRecDepth 20000 in
theorem tw_1_40 : (Jvm.Cond.fieldLink "SideBySide" (96 : Nat) "SideBySide$Court" "at" "[I") ∈ UL := ul_1 40 rfl rfl
set_option maxRecDepth 20000 in
theorem tw_1_41 : (Jvm.Cond.fieldLink "SideBySide$Court" (15 : Nat) "SideBySide$Court" "pace" "[I") ∈ UL := ul_1 41 rfl rfl
set_option maxRecDepth 20000 in
theorem tw_1_42 : (Jvm.Cond.fieldLink "SideBySide" (99 : Nat) "SideBySide$Court" "pace" "[I") ∈ UL := ul_1 42 rfl rfl
set_option maxRecDepth 20000 in
theorem tw_1_43 : (Jvm.Cond.fieldLink "SideBySide$Court" (18 : Nat) "SideBySide$Court" "tired" "[I") ∈ UL := ul_1 43 rfl rfl
set_option maxRecDepth 20000 in
theorem tw_1_44 : (Jvm.Cond.fieldLink "SideBySide" (102 : Nat) "SideBySide$Court" "tired" "[I") ∈ UL := ul_1 44 rfl rfl
set_option maxRecDepth 20000 in
theorem tw_1_45 : (Jvm.Cond.fieldLink "SideBySide$Court" (21 : Nat) "SideBySide$Court" "left" "[I") ∈ UL := ul_1 45 rfl rfl
set_option maxRecDepth 20000 in
theorem tw_1_46 : (Jvm.Cond.fieldLink "SideBySide" (105 : Nat) "SideBySide$Court" "left" "[I") ∈ UL := ul_1 46 rfl rfl
set_option maxRecDepth 20000 in
theorem tw_1_47 : (Jvm.Cond.fieldLink "SideBySide$Court" (24 : Nat) "SideBySide$Court" "form" "[I") ∈ UL := ul_1 47 rfl rfl
set_option maxRecDepth 20000 in
theorem tw_1_48 : (Jvm.Cond.fieldLink "SideBySide" (112 : Nat) "SideBySide$Court" "form" "[I") ∈ UL := ul_1 48 rfl rfl
set_option maxRecDepth 20000 in
theorem tw_1_49 : (Jvm.Cond.fieldLink "SideBySide$Court" (27 : Nat) "SideBySide$Court" "habit" "[I") ∈ UL := ul_1 49 rfl rfl
set_option maxRecDepth 20000 in
theorem tw_1_50 : (Jvm.Cond.fieldLink "SideBySide" (115 : Nat) "SideBySide$Court" "habit" "[I") ∈ UL := ul_1 50 rfl rfl
set_option maxRecDepth 20000 in
theorem tw_1_51 : (Jvm.Cond.fieldLink "SideBySide$Court" (30 : Nat) "SideBySide$Court" "points" "[I") ∈ UL := ul_1 51 rfl rfl
set_option maxRecDepth 20000 in
theorem tw_1_52 : (Jvm.Cond.fieldLink "SideBySide" (118 : Nat) "SideBySide$Court" "points" "[I") ∈ UL := ul_1 52 rfl rfl
set_option maxRecDepth 20000 in
theorem tw_1_53 : (Jvm.Cond.fieldLink "SideBySide$Court" (35 : Nat) "SideBySide$Court" "strokes" "[LSideBySide$Stroke;") ∈ UL := ul_1 53 rfl rfl
set_option maxRecDepth 20000 in
theorem tw_1_54 : (Jvm.Cond.fieldLink "SideBySide" (75 : Nat) "SideBySide$Court" "strokes" "[LSideBySide$Stroke;") ∈ UL := ul_1 54 rfl rfl
set_option maxRecDepth 20000 in
theorem tw_1_55 : (Jvm.Cond.fieldLink "SideBySide$Court" (45 : Nat) "SideBySide$Court" "known" "I") ∈ UL := ul_1 55 rfl rfl
set_option maxRecDepth 20000 in
theorem tw_1_56 : (Jvm.Cond.fieldLink "SideBySide" (175 : Nat) "SideBySide$Court" "known" "I") ∈ UL := ul_1 56 rfl rfl
set_option maxRecDepth 20000 in
theorem tw_1_57 : (Jvm.Cond.fieldLink "SideBySide$Court" (49 : Nat) "SideBySide$Court" "has" "I") ∈ UL := ul_1 57 rfl rfl
set_option maxRecDepth 20000 in
theorem tw_1_58 : (Jvm.Cond.fieldLink "SideBySide" (154 : Nat) "SideBySide$Court" "has" "I") ∈ UL := ul_1 58 rfl rfl
set_option maxRecDepth 20000 in
theorem tw_1_59 : (Jvm.Cond.fieldLink "SideBySide$Court" (52 : Nat) "SideBySide$Court" "draught" "I") ∈ UL := ul_1 59 rfl rfl
set_option maxRecDepth 20000 in
theorem tw_1_60 : (Jvm.Cond.fieldLink "SideBySide" (264 : Nat) "SideBySide$Court" "draught" "I") ∈ UL := ul_1 60 rfl rfl
set_option maxRecDepth 20000 in
theorem tw_1_61 : (Jvm.Cond.fieldLink "SideBySide$Court" (55 : Nat) "SideBySide$Court" "hits" "I") ∈ UL := ul_1 61 rfl rfl
set_option maxRecDepth 20000 in
theorem tw_1_62 : (Jvm.Cond.fieldLink "SideBySide" (261 : Nat) "SideBySide$Court" "hits" "I") ∈ UL := ul_1 62 rfl rfl
set_option maxRecDepth 20000 in
theorem tw_1_63 : (Jvm.Cond.laysFinal "SideBySide$Court" "SideBySide$Court" "at" "[I") ∈ UL := ul_1 63 rfl rfl
set_option maxRecDepth 20000 in
theorem tw_1_65 : (Jvm.Cond.laysFinal "SideBySide$Court" "SideBySide$Court" "pace" "[I") ∈ UL := ul_1 65 rfl rfl
set_option maxRecDepth 20000 in
theorem tw_1_67 : (Jvm.Cond.laysFinal "SideBySide$Court" "SideBySide$Court" "tired" "[I") ∈ UL := ul_1 67 rfl rfl
set_option maxRecDepth 20000 in
theorem tw_1_69 : (Jvm.Cond.laysFinal "SideBySide$Court" "SideBySide$Court" "left" "[I") ∈ UL := ul_1 69 rfl rfl
set_option maxRecDepth 20000 in
theorem tw_1_71 : (Jvm.Cond.laysFinal "SideBySide$Court" "SideBySide$Court" "form" "[I") ∈ UL := ul_1 71 rfl rfl
set_option maxRecDepth 20000 in
theorem tw_1_73 : (Jvm.Cond.laysFinal "SideBySide$Court" "SideBySide$Court" "habit" "[I") ∈ UL := ul_1 73 rfl rfl
set_option maxRecDepth 20000 in
theorem tw_1_75 : (Jvm.Cond.laysFinal "SideBySide$Court" "SideBySide$Court" "points" "[I") ∈ UL := ul_1 75 rfl rfl
set_option maxRecDepth 20000 in
theorem tw_1_77 : (Jvm.Cond.laysFinal "SideBySide$Court" "SideBySide$Court" "strokes" "[LSideBySide$Stroke;") ∈ UL := ul_1 77 rfl rfl
set_option maxRecDepth 20000 in
theorem tw_1_79 : (Jvm.Cond.lays "SideBySide$Court" "SideBySide$Court" "known" "I") ∈ UL := ul_1 79 rfl rfl
set_option maxRecDepth 20000 in
theorem tw_1_81 : (Jvm.Cond.lays "SideBySide$Court" "SideBySide$Court" "has" "I") ∈ UL := ul_1 81 rfl rfl
set_option maxRecDepth 20000 in
theorem tw_1_83 : (Jvm.Cond.lays "SideBySide$Court" "SideBySide$Court" "draught" "I") ∈ UL := ul_1 83 rfl rfl
set_option maxRecDepth 20000 in
theorem tw_1_85 : (Jvm.Cond.lays "SideBySide$Court" "SideBySide$Court" "hits" "I") ∈ UL := ul_1 85 rfl rfl
set_option maxRecDepth 20000 in
theorem tw_1_87 : (Jvm.Cond.superclass "SideBySide$Court" "java/lang/Object") ∈ UL := ul_1 87 rfl rfl
set_option maxRecDepth 20000 in
theorem tw_1_88 : (Jvm.Cond.arrayClass Jvm.ClassFile.FieldType.int) ∈ UL := ul_1 88 rfl rfl
set_option maxRecDepth 20000 in
theorem tw_1_89 : (Jvm.Cond.classLink "SideBySide" (22 : Nat) "SideBySide$Shelf") ∈ UL := ul_1 89 rfl rfl
set_option maxRecDepth 20000 in
theorem tw_1_91 : (Jvm.Cond.classLink "SideBySide" (28 : Nat) "SideBySide$Stroke") ∈ UL := ul_1 91 rfl rfl
set_option maxRecDepth 20000 in
theorem tw_1_92 : (Jvm.Cond.instantiable "SideBySide$Shelf" (4 : Nat)) ∈ UL := ul_1 92 rfl rfl
set_option maxRecDepth 20000 in
theorem tw_1_94 : (Jvm.Cond.instanceMethod ({ cls := "SideBySide$Shelf", name := "<init>", desc := "()V" } : Jvm.MethodName)) ∈ UL := ul_1 94 rfl rfl
set_option maxRecDepth 20000 in
theorem tw_1_95 : (Jvm.Cond.code ({ cls := "SideBySide$Shelf", name := "<init>", desc := "()V" } : Jvm.MethodName) prog_9_method_1_code (1 : Nat) (Option.none : Option Jvm.ClassFile.FieldType)) ∈ UL := ul_1 95 rfl rfl
set_option maxRecDepth 20000 in
theorem tw_1_96 : (Jvm.Cond.methodLink "SideBySide$Shelf" (3 : Nat) ({ cls := "java/lang/Object", name := "<init>", desc := "()V" } : Jvm.MethodName)) ∈ UL := ul_1 96 rfl rfl
set_option maxRecDepth 20000 in
theorem tw_1_97 : (Jvm.Cond.fieldLink "SideBySide$Shelf" (9 : Nat) "SideBySide$Shelf" "elements" "[I") ∈ UL := ul_1 97 rfl rfl
set_option maxRecDepth 20000 in
theorem tw_1_98 : (Jvm.Cond.fieldLink "SideBySide" (242 : Nat) "SideBySide$Shelf" "elements" "[I") ∈ UL := ul_1 98 rfl rfl
set_option maxRecDepth 20000 in
theorem tw_1_99 : (Jvm.Cond.fieldLink "SideBySide$Shelf" (19 : Nat) "SideBySide$Shelf" "held" "LSideBySide$Stroke;") ∈ UL := ul_1 99 rfl rfl
set_option maxRecDepth 20000 in
theorem tw_1_100 : (Jvm.Cond.fieldLink "SideBySide" (124 : Nat) "SideBySide$Shelf" "held" "LSideBySide$Stroke;") ∈ UL := ul_1 100 rfl rfl
set_option maxRecDepth 20000 in
theorem tw_1_101 : (Jvm.Cond.fieldLink "SideBySide$Shelf" (15 : Nat) "SideBySide$Shelf" "sort" "I") ∈ UL := ul_1 101 rfl rfl
set_option maxRecDepth 20000 in
theorem tw_1_102 : (Jvm.Cond.fieldLink "SideBySide" (50 : Nat) "SideBySide$Shelf" "sort" "I") ∈ UL := ul_1 102 rfl rfl
set_option maxRecDepth 20000 in
theorem tw_1_103 : (Jvm.Cond.fieldLink "SideBySide$CourtText" (27 : Nat) "SideBySide$Shelf" "size" "I") ∈ UL := ul_1 103 rfl rfl
set_option maxRecDepth 20000 in
theorem tw_1_104 : (Jvm.Cond.fieldLink "SideBySide$Shelf" (30 : Nat) "SideBySide$Shelf" "size" "I") ∈ UL := ul_1 104 rfl rfl
set_option maxRecDepth 20000 in
theorem tw_1_105 : (Jvm.Cond.fieldLink "SideBySide" (239 : Nat) "SideBySide$Shelf" "size" "I") ∈ UL := ul_1 105 rfl rfl
set_option maxRecDepth 20000 in
theorem tw_1_106 : (Jvm.Cond.laysFinal "SideBySide$Shelf" "SideBySide$Shelf" "elements" "[I") ∈ UL := ul_1 106 rfl rfl
set_option maxRecDepth 20000 in
theorem tw_1_108 : (Jvm.Cond.lays "SideBySide$Shelf" "SideBySide$Shelf" "held" "LSideBySide$Stroke;") ∈ UL := ul_1 108 rfl rfl
set_option maxRecDepth 20000 in
theorem tw_1_110 : (Jvm.Cond.lays "SideBySide$Shelf" "SideBySide$Shelf" "sort" "I") ∈ UL := ul_1 110 rfl rfl
set_option maxRecDepth 20000 in
theorem tw_1_112 : (Jvm.Cond.lays "SideBySide$Shelf" "SideBySide$Shelf" "size" "I") ∈ UL := ul_1 112 rfl rfl
set_option maxRecDepth 20000 in
theorem tw_1_114 : (Jvm.Cond.superclass "SideBySide$Shelf" "java/lang/Object") ∈ UL := ul_1 114 rfl rfl
set_option maxRecDepth 20000 in
theorem tw_1_115 : (Jvm.Cond.methodLink "SideBySide" (42 : Nat) ({ cls := "SideBySide$Stroke", name := "of", desc := "(II)LSideBySide$Stroke;" } : Jvm.MethodName)) ∈ UL := ul_1 115 rfl rfl
set_option maxRecDepth 20000 in
theorem tw_1_116 : (Jvm.Cond.static ({ cls := "SideBySide$Stroke", name := "of", desc := "(II)LSideBySide$Stroke;" } : Jvm.MethodName)) ∈ UL := ul_1 116 rfl rfl
set_option maxRecDepth 20000 in
theorem tw_1_117 : (Jvm.Cond.code ({ cls := "SideBySide$Stroke", name := "of", desc := "(II)LSideBySide$Stroke;" } : Jvm.MethodName) prog_11_method_2_code (2 : Nat) (Option.some (Jvm.ClassFile.FieldType.object "SideBySide$Stroke"))) ∈ UL := ul_1 117 rfl rfl
set_option maxRecDepth 20000 in
theorem tw_1_118 : (Jvm.Cond.classLink "SideBySide$Stroke" (13 : Nat) "SideBySide$Smash") ∈ UL := ul_1 118 rfl rfl
set_option maxRecDepth 20000 in
theorem tw_1_119 : (Jvm.Cond.instantiable "SideBySide$Smash" (1 : Nat)) ∈ UL := ul_1 119 rfl rfl
set_option maxRecDepth 20000 in
theorem tw_1_120 : (Jvm.Cond.methodLink "SideBySide$Stroke" (15 : Nat) ({ cls := "SideBySide$Smash", name := "<init>", desc := "(I)V" } : Jvm.MethodName)) ∈ UL := ul_1 120 rfl rfl
set_option maxRecDepth 20000 in
theorem tw_1_121 : (Jvm.Cond.instanceMethod ({ cls := "SideBySide$Smash", name := "<init>", desc := "(I)V" } : Jvm.MethodName)) ∈ UL := ul_1 121 rfl rfl
set_option maxRecDepth 20000 in
theorem tw_1_122 : (Jvm.Cond.code ({ cls := "SideBySide$Smash", name := "<init>", desc := "(I)V" } : Jvm.MethodName) prog_10_method_1_code (2 : Nat) (Option.none : Option Jvm.ClassFile.FieldType)) ∈ UL := ul_1 122 rfl rfl
set_option maxRecDepth 20000 in
theorem tw_1_123 : (Jvm.Cond.methodLink "SideBySide$Smash" (1 : Nat) ({ cls := "SideBySide$Stroke", name := "<init>", desc := "(I)V" } : Jvm.MethodName)) ∈ UL := ul_1 123 rfl rfl
set_option maxRecDepth 20000 in
theorem tw_1_124 : (Jvm.Cond.instanceMethod ({ cls := "SideBySide$Stroke", name := "<init>", desc := "(I)V" } : Jvm.MethodName)) ∈ UL := ul_1 124 rfl rfl
set_option maxRecDepth 20000 in
theorem tw_1_125 : (Jvm.Cond.code ({ cls := "SideBySide$Stroke", name := "<init>", desc := "(I)V" } : Jvm.MethodName) prog_11_method_1_code (2 : Nat) (Option.none : Option Jvm.ClassFile.FieldType)) ∈ UL := ul_1 125 rfl rfl
set_option maxRecDepth 20000 in
theorem tw_1_126 : (Jvm.Cond.methodLink "SideBySide$Stroke" (1 : Nat) ({ cls := "java/lang/Object", name := "<init>", desc := "()V" } : Jvm.MethodName)) ∈ UL := ul_1 126 rfl rfl
set_option maxRecDepth 20000 in
theorem tw_1_127 : (Jvm.Cond.fieldLink "SideBySide$Stroke" (7 : Nat) "SideBySide$Stroke" "figure" "I") ∈ UL := ul_1 127 rfl rfl
set_option maxRecDepth 20000 in
theorem tw_1_128 : (Jvm.Cond.fieldLink "SideBySide$Smash" (7 : Nat) "SideBySide$Smash" "figure" "I") ∈ UL := ul_1 128 rfl rfl
set_option maxRecDepth 20000 in
theorem tw_1_129 : (Jvm.Cond.sameField "SideBySide$Smash" "SideBySide$Stroke" "figure" "I") ∈ UL := ul_1 129 rfl rfl
set_option maxRecDepth 20000 in
theorem tw_1_130 : (Jvm.Cond.fieldLink "SideBySide" (82 : Nat) "SideBySide$Stroke" "figure" "I") ∈ UL := ul_1 130 rfl rfl
set_option maxRecDepth 20000 in
theorem tw_1_131 : (Jvm.Cond.fieldLink "SideBySide$Between" (7 : Nat) "SideBySide$Between" "figure" "I") ∈ UL := ul_1 131 rfl rfl
set_option maxRecDepth 20000 in
theorem tw_1_132 : (Jvm.Cond.sameField "SideBySide$Between" "SideBySide$Stroke" "figure" "I") ∈ UL := ul_1 132 rfl rfl
set_option maxRecDepth 20000 in
theorem tw_1_133 : (Jvm.Cond.fieldLink "SideBySide$Drop" (15 : Nat) "SideBySide$Drop" "figure" "I") ∈ UL := ul_1 133 rfl rfl
set_option maxRecDepth 20000 in
theorem tw_1_134 : (Jvm.Cond.sameField "SideBySide$Drop" "SideBySide$Stroke" "figure" "I") ∈ UL := ul_1 134 rfl rfl
set_option maxRecDepth 20000 in
theorem tw_1_135 : (Jvm.Cond.fieldLink "SideBySide$Push" (15 : Nat) "SideBySide$Push" "figure" "I") ∈ UL := ul_1 135 rfl rfl
set_option maxRecDepth 20000 in
theorem tw_1_136 : (Jvm.Cond.sameField "SideBySide$Push" "SideBySide$Stroke" "figure" "I") ∈ UL := ul_1 136 rfl rfl
set_option maxRecDepth 20000 in
theorem tw_1_137 : (Jvm.Cond.laysFinal "SideBySide$Smash" "SideBySide$Stroke" "figure" "I") ∈ UL := ul_1 137 rfl rfl
set_option maxRecDepth 20000 in
theorem tw_1_139 : (Jvm.Cond.superclass "SideBySide$Smash" "SideBySide$Stroke") ∈ UL := ul_1 139 rfl rfl
set_option maxRecDepth 20000 in
theorem tw_1_140 : (Jvm.Cond.classLink "SideBySide$Stroke" (18 : Nat) "SideBySide$Drop") ∈ UL := ul_1 140 rfl rfl
set_option maxRecDepth 20000 in
theorem tw_1_141 : (Jvm.Cond.instantiable "SideBySide$Drop" (1 : Nat)) ∈ UL := ul_1 141 rfl rfl
set_option maxRecDepth 20000 in
theorem tw_1_142 : (Jvm.Cond.methodLink "SideBySide$Stroke" (20 : Nat) ({ cls := "SideBySide$Drop", name := "<init>", desc := "(I)V" } : Jvm.MethodName)) ∈ UL := ul_1 142 rfl rfl
set_option maxRecDepth 20000 in
theorem tw_1_143 : (Jvm.Cond.instanceMethod ({ cls := "SideBySide$Drop", name := "<init>", desc := "(I)V" } : Jvm.MethodName)) ∈ UL := ul_1 143 rfl rfl
set_option maxRecDepth 20000 in
theorem tw_1_144 : (Jvm.Cond.code ({ cls := "SideBySide$Drop", name := "<init>", desc := "(I)V" } : Jvm.MethodName) prog_5_method_1_code (2 : Nat) (Option.none : Option Jvm.ClassFile.FieldType)) ∈ UL := ul_1 144 rfl rfl
set_option maxRecDepth 20000 in
theorem tw_1_145 : (Jvm.Cond.methodLink "SideBySide$Drop" (1 : Nat) ({ cls := "SideBySide$Stroke", name := "<init>", desc := "(I)V" } : Jvm.MethodName)) ∈ UL := ul_1 145 rfl rfl
set_option maxRecDepth 20000 in
theorem tw_1_146 : (Jvm.Cond.laysFinal "SideBySide$Drop" "SideBySide$Stroke" "figure" "I") ∈ UL := ul_1 146 rfl rfl
set_option maxRecDepth 20000 in
theorem tw_1_147 : (Jvm.Cond.superclass "SideBySide$Drop" "SideBySide$Stroke") ∈ UL := ul_1 147 rfl rfl
set_option maxRecDepth 20000 in
theorem tw_1_148 : (Jvm.Cond.classLink "SideBySide$Stroke" (21 : Nat) "SideBySide$Lift") ∈ UL := ul_1 148 rfl rfl
set_option maxRecDepth 20000 in
theorem tw_1_149 : (Jvm.Cond.instantiable "SideBySide$Lift" (1 : Nat)) ∈ UL := ul_1 149 rfl rfl
set_option maxRecDepth 20000 in
theorem tw_1_150 : (Jvm.Cond.methodLink "SideBySide$Stroke" (23 : Nat) ({ cls := "SideBySide$Lift", name := "<init>", desc := "(I)V" } : Jvm.MethodName)) ∈ UL := ul_1 150 rfl rfl
set_option maxRecDepth 20000 in
theorem tw_1_151 : (Jvm.Cond.instanceMethod ({ cls := "SideBySide$Lift", name := "<init>", desc := "(I)V" } : Jvm.MethodName)) ∈ UL := ul_1 151 rfl rfl
set_option maxRecDepth 20000 in
theorem tw_1_152 : (Jvm.Cond.code ({ cls := "SideBySide$Lift", name := "<init>", desc := "(I)V" } : Jvm.MethodName) prog_7_method_1_code (2 : Nat) (Option.none : Option Jvm.ClassFile.FieldType)) ∈ UL := ul_1 152 rfl rfl
set_option maxRecDepth 20000 in
theorem tw_1_153 : (Jvm.Cond.methodLink "SideBySide$Lift" (1 : Nat) ({ cls := "SideBySide$Stroke", name := "<init>", desc := "(I)V" } : Jvm.MethodName)) ∈ UL := ul_1 153 rfl rfl
set_option maxRecDepth 20000 in
theorem tw_1_154 : (Jvm.Cond.laysFinal "SideBySide$Lift" "SideBySide$Stroke" "figure" "I") ∈ UL := ul_1 154 rfl rfl
set_option maxRecDepth 20000 in
theorem tw_1_155 : (Jvm.Cond.superclass "SideBySide$Lift" "SideBySide$Stroke") ∈ UL := ul_1 155 rfl rfl
set_option maxRecDepth 20000 in
theorem tw_1_156 : (Jvm.Cond.classLink "SideBySide$Stroke" (24 : Nat) "SideBySide$Push") ∈ UL := ul_1 156 rfl rfl
set_option maxRecDepth 20000 in
theorem tw_1_157 : (Jvm.Cond.instantiable "SideBySide$Push" (1 : Nat)) ∈ UL := ul_1 157 rfl rfl
set_option maxRecDepth 20000 in
theorem tw_1_158 : (Jvm.Cond.methodLink "SideBySide$Stroke" (26 : Nat) ({ cls := "SideBySide$Push", name := "<init>", desc := "(I)V" } : Jvm.MethodName)) ∈ UL := ul_1 158 rfl rfl
set_option maxRecDepth 20000 in
theorem tw_1_159 : (Jvm.Cond.instanceMethod ({ cls := "SideBySide$Push", name := "<init>", desc := "(I)V" } : Jvm.MethodName)) ∈ UL := ul_1 159 rfl rfl
set_option maxRecDepth 20000 in
theorem tw_1_160 : (Jvm.Cond.code ({ cls := "SideBySide$Push", name := "<init>", desc := "(I)V" } : Jvm.MethodName) prog_8_method_1_code (2 : Nat) (Option.none : Option Jvm.ClassFile.FieldType)) ∈ UL := ul_1 160 rfl rfl
set_option maxRecDepth 20000 in
theorem tw_1_161 : (Jvm.Cond.methodLink "SideBySide$Push" (1 : Nat) ({ cls := "SideBySide$Drop", name := "<init>", desc := "(I)V" } : Jvm.MethodName)) ∈ UL := ul_1 161 rfl rfl
set_option maxRecDepth 20000 in
theorem tw_1_162 : (Jvm.Cond.laysFinal "SideBySide$Push" "SideBySide$Stroke" "figure" "I") ∈ UL := ul_1 162 rfl rfl
set_option maxRecDepth 20000 in
theorem tw_1_163 : (Jvm.Cond.superclass "SideBySide$Push" "SideBySide$Drop") ∈ UL := ul_1 163 rfl rfl
set_option maxRecDepth 20000 in
theorem tw_1_164 : (Jvm.Cond.classLink "SideBySide$Stroke" (27 : Nat) "SideBySide$Flick") ∈ UL := ul_1 164 rfl rfl
set_option maxRecDepth 20000 in
theorem tw_1_165 : (Jvm.Cond.instantiable "SideBySide$Flick" (1 : Nat)) ∈ UL := ul_1 165 rfl rfl
set_option maxRecDepth 20000 in
theorem tw_1_166 : (Jvm.Cond.methodLink "SideBySide$Stroke" (29 : Nat) ({ cls := "SideBySide$Flick", name := "<init>", desc := "(I)V" } : Jvm.MethodName)) ∈ UL := ul_1 166 rfl rfl
set_option maxRecDepth 20000 in
theorem tw_1_167 : (Jvm.Cond.instanceMethod ({ cls := "SideBySide$Flick", name := "<init>", desc := "(I)V" } : Jvm.MethodName)) ∈ UL := ul_1 167 rfl rfl
set_option maxRecDepth 20000 in
theorem tw_1_168 : (Jvm.Cond.code ({ cls := "SideBySide$Flick", name := "<init>", desc := "(I)V" } : Jvm.MethodName) prog_6_method_1_code (2 : Nat) (Option.none : Option Jvm.ClassFile.FieldType)) ∈ UL := ul_1 168 rfl rfl
set_option maxRecDepth 20000 in
theorem tw_1_169 : (Jvm.Cond.methodLink "SideBySide$Flick" (1 : Nat) ({ cls := "SideBySide$Lift", name := "<init>", desc := "(I)V" } : Jvm.MethodName)) ∈ UL := ul_1 169 rfl rfl
set_option maxRecDepth 20000 in
theorem tw_1_170 : (Jvm.Cond.laysFinal "SideBySide$Flick" "SideBySide$Stroke" "figure" "I") ∈ UL := ul_1 170 rfl rfl
set_option maxRecDepth 20000 in
theorem tw_1_171 : (Jvm.Cond.superclass "SideBySide$Flick" "SideBySide$Lift") ∈ UL := ul_1 171 rfl rfl
set_option maxRecDepth 20000 in
theorem tw_1_172 : (Jvm.Cond.classLink "SideBySide$Stroke" (30 : Nat) "SideBySide$Between") ∈ UL := ul_1 172 rfl rfl
set_option maxRecDepth 20000 in
theorem tw_1_173 : (Jvm.Cond.instantiable "SideBySide$Between" (1 : Nat)) ∈ UL := ul_1 173 rfl rfl
set_option maxRecDepth 20000 in
theorem tw_1_174 : (Jvm.Cond.methodLink "SideBySide$Stroke" (32 : Nat) ({ cls := "SideBySide$Between", name := "<init>", desc := "(I)V" } : Jvm.MethodName)) ∈ UL := ul_1 174 rfl rfl
set_option maxRecDepth 20000 in
theorem tw_1_175 : (Jvm.Cond.instanceMethod ({ cls := "SideBySide$Between", name := "<init>", desc := "(I)V" } : Jvm.MethodName)) ∈ UL := ul_1 175 rfl rfl
set_option maxRecDepth 20000 in
theorem tw_1_176 : (Jvm.Cond.code ({ cls := "SideBySide$Between", name := "<init>", desc := "(I)V" } : Jvm.MethodName) prog_2_method_1_code (2 : Nat) (Option.none : Option Jvm.ClassFile.FieldType)) ∈ UL := ul_1 176 rfl rfl
set_option maxRecDepth 20000 in
theorem tw_1_177 : (Jvm.Cond.methodLink "SideBySide$Between" (1 : Nat) ({ cls := "SideBySide$Stroke", name := "<init>", desc := "(I)V" } : Jvm.MethodName)) ∈ UL := ul_1 177 rfl rfl
set_option maxRecDepth 20000 in
theorem tw_1_178 : (Jvm.Cond.laysFinal "SideBySide$Between" "SideBySide$Stroke" "figure" "I") ∈ UL := ul_1 178 rfl rfl
set_option maxRecDepth 20000 in
theorem tw_1_179 : (Jvm.Cond.superclass "SideBySide$Between" "SideBySide$Stroke") ∈ UL := ul_1 179 rfl rfl
set_option maxRecDepth 20000 in
theorem tw_1_180 : (Jvm.Cond.classLink "SideBySide$Stroke" (33 : Nat) "SideBySide$Wander") ∈ UL := ul_1 180 rfl rfl
set_option maxRecDepth 20000 in
theorem tw_1_181 : (Jvm.Cond.instantiable "SideBySide$Wander" (1 : Nat)) ∈ UL := ul_1 181 rfl rfl
set_option maxRecDepth 20000 in
theorem tw_1_182 : (Jvm.Cond.methodLink "SideBySide$Stroke" (35 : Nat) ({ cls := "SideBySide$Wander", name := "<init>", desc := "(I)V" } : Jvm.MethodName)) ∈ UL := ul_1 182 rfl rfl
set_option maxRecDepth 20000 in
theorem tw_1_183 : (Jvm.Cond.instanceMethod ({ cls := "SideBySide$Wander", name := "<init>", desc := "(I)V" } : Jvm.MethodName)) ∈ UL := ul_1 183 rfl rfl
set_option maxRecDepth 20000 in
theorem tw_1_184 : (Jvm.Cond.code ({ cls := "SideBySide$Wander", name := "<init>", desc := "(I)V" } : Jvm.MethodName) prog_12_method_1_code (2 : Nat) (Option.none : Option Jvm.ClassFile.FieldType)) ∈ UL := ul_1 184 rfl rfl
set_option maxRecDepth 20000 in
theorem tw_1_185 : (Jvm.Cond.methodLink "SideBySide$Wander" (1 : Nat) ({ cls := "SideBySide$Lift", name := "<init>", desc := "(I)V" } : Jvm.MethodName)) ∈ UL := ul_1 185 rfl rfl
set_option maxRecDepth 20000 in
theorem tw_1_186 : (Jvm.Cond.laysFinal "SideBySide$Wander" "SideBySide$Stroke" "figure" "I") ∈ UL := ul_1 186 rfl rfl
set_option maxRecDepth 20000 in
theorem tw_1_187 : (Jvm.Cond.superclass "SideBySide$Wander" "SideBySide$Lift") ∈ UL := ul_1 187 rfl rfl
set_option maxRecDepth 20000 in
theorem tw_1_188 : (Jvm.Cond.classLink "SideBySide$Stroke" (8 : Nat) "SideBySide$Stroke") ∈ UL := ul_1 188 rfl rfl
set_option maxRecDepth 20000 in
theorem tw_1_189 : (Jvm.Cond.instantiable "SideBySide$Stroke" (1 : Nat)) ∈ UL := ul_1 189 rfl rfl
set_option maxRecDepth 20000 in
theorem tw_1_190 : (Jvm.Cond.methodLink "SideBySide$Stroke" (36 : Nat) ({ cls := "SideBySide$Stroke", name := "<init>", desc := "(I)V" } : Jvm.MethodName)) ∈ UL := ul_1 190 rfl rfl
set_option maxRecDepth 20000 in
theorem tw_1_191 : (Jvm.Cond.laysFinal "SideBySide$Stroke" "SideBySide$Stroke" "figure" "I") ∈ UL := ul_1 191 rfl rfl
set_option maxRecDepth 20000 in
theorem tw_1_192 : (Jvm.Cond.superclass "SideBySide$Stroke" "java/lang/Object") ∈ UL := ul_1 192 rfl rfl
set_option maxRecDepth 20000 in
theorem tw_1_193 : (Jvm.Cond.fieldLink "SideBySide" (12 : Nat) "SideBySide" "now" "LSideBySide$Court;") ∈ UL := ul_1 193 rfl rfl
set_option maxRecDepth 20000 in
theorem tw_1_194 : (Jvm.Cond.fieldLink "SideBySide" (16 : Nat) "SideBySide" "mind" "LSideBySide$Court;") ∈ UL := ul_1 194 rfl rfl
set_option maxRecDepth 20000 in
theorem tw_1_195 : (Jvm.Cond.fieldLink "SideBySide" (19 : Nat) "SideBySide" "pictured" "LSideBySide$Court;") ∈ UL := ul_1 195 rfl rfl
set_option maxRecDepth 20000 in
theorem tw_1_196 : (Jvm.Cond.fieldLink "SideBySide" (257 : Nat) "SideBySide" "hasPicture" "Z") ∈ UL := ul_1 196 rfl rfl
set_option maxRecDepth 20000 in
theorem tw_1_197 : (Jvm.Cond.fieldLink "SideBySide" (24 : Nat) "SideBySide" "shelves" "[LSideBySide$Shelf;") ∈ UL := ul_1 197 rfl rfl
set_option maxRecDepth 20000 in
theorem tw_1_198 : (Jvm.Cond.fieldLink "SideBySide" (30 : Nat) "SideBySide" "samples" "[LSideBySide$Stroke;") ∈ UL := ul_1 198 rfl rfl
set_option maxRecDepth 20000 in
theorem tw_1_199 : (Jvm.Cond.fieldLink "SideBySide" (34 : Nat) "SideBySide" "stood" "[I") ∈ UL := ul_1 199 rfl rfl
set_option maxRecDepth 20000 in
theorem tw_1_200 : (Jvm.Cond.fieldLink "SideBySide" (38 : Nat) "SideBySide" "gone" "[I") ∈ UL := ul_1 200 rfl rfl
set_option maxRecDepth 20000 in
theorem tw_1_201 : (Jvm.Cond.fieldLink "SideBySide" (251 : Nat) "SideBySide" "seed" "I") ∈ UL := ul_1 201 rfl rfl
set_option maxRecDepth 20000 in
theorem tw_1_202 : (Jvm.Cond.laysFinal "SideBySide" "SideBySide" "now" "LSideBySide$Court;") ∈ UL := ul_1 202 rfl rfl
set_option maxRecDepth 20000 in
theorem tw_1_204 : (Jvm.Cond.laysFinal "SideBySide" "SideBySide" "mind" "LSideBySide$Court;") ∈ UL := ul_1 204 rfl rfl
set_option maxRecDepth 20000 in
theorem tw_1_206 : (Jvm.Cond.laysFinal "SideBySide" "SideBySide" "pictured" "LSideBySide$Court;") ∈ UL := ul_1 206 rfl rfl
set_option maxRecDepth 20000 in
theorem tw_1_208 : (Jvm.Cond.lays "SideBySide" "SideBySide" "hasPicture" "Z") ∈ UL := ul_1 208 rfl rfl
set_option maxRecDepth 20000 in
theorem tw_1_210 : (Jvm.Cond.laysFinal "SideBySide" "SideBySide" "shelves" "[LSideBySide$Shelf;") ∈ UL := ul_1 210 rfl rfl
set_option maxRecDepth 20000 in
theorem tw_1_212 : (Jvm.Cond.laysFinal "SideBySide" "SideBySide" "samples" "[LSideBySide$Stroke;") ∈ UL := ul_1 212 rfl rfl
set_option maxRecDepth 20000 in
theorem tw_1_214 : (Jvm.Cond.laysFinal "SideBySide" "SideBySide" "stood" "[I") ∈ UL := ul_1 214 rfl rfl
set_option maxRecDepth 20000 in
theorem tw_1_216 : (Jvm.Cond.laysFinal "SideBySide" "SideBySide" "gone" "[I") ∈ UL := ul_1 216 rfl rfl
set_option maxRecDepth 20000 in
theorem tw_1_218 : (Jvm.Cond.lays "SideBySide" "SideBySide" "seed" "I") ∈ UL := ul_1 218 rfl rfl
set_option maxRecDepth 20000 in
theorem tw_1_220 : (Jvm.Cond.superclass "SideBySide" "java/lang/Object") ∈ UL := ul_1 220 rfl rfl
set_option maxRecDepth 20000 in
theorem tw_1_221 : (Jvm.Cond.methodLink "SideBySideLaw" (21 : Nat) ({ cls := "SideBySide", name := "court", desc := "(I)I" } : Jvm.MethodName)) ∈ UL := ul_1 221 rfl rfl
set_option maxRecDepth 20000 in
theorem tw_1_222 : (Jvm.Cond.instanceMethod ({ cls := "SideBySide", name := "court", desc := "(I)I" } : Jvm.MethodName)) ∈ UL := ul_1 222 rfl rfl
set_option maxRecDepth 20000 in
theorem tw_1_223 : (Jvm.Cond.selects "SideBySide" ({ cls := "SideBySide", name := "court", desc := "(I)I" } : Jvm.MethodName) ({ cls := "SideBySide", name := "court", desc := "(I)I" } : Jvm.MethodName)) ∈ UL := ul_1 223 rfl rfl
set_option maxRecDepth 20000 in
theorem tw_1_224 : (Jvm.Cond.code ({ cls := "SideBySide", name := "court", desc := "(I)I" } : Jvm.MethodName) prog_1_method_2_code (5 : Nat) (Option.some Jvm.ClassFile.FieldType.int)) ∈ UL := ul_1 224 rfl rfl
set_option maxRecDepth 20000 in
theorem tw_1_225 : (Jvm.Cond.methodLink "SideBySide" (46 : Nat) ({ cls := "SideBySide", name := "refusalOf", desc := "(IZ)I" } : Jvm.MethodName)) ∈ UL := ul_1 225 rfl rfl
set_option maxRecDepth 20000 in
theorem tw_1_227 : (Jvm.Cond.instanceMethod ({ cls := "SideBySide", name := "refusalOf", desc := "(IZ)I" } : Jvm.MethodName)) ∈ UL := ul_1 227 rfl rfl
set_option maxRecDepth 20000 in
theorem tw_1_228 : (Jvm.Cond.code ({ cls := "SideBySide", name := "refusalOf", desc := "(IZ)I" } : Jvm.MethodName) prog_1_method_48_code (3 : Nat) (Option.some Jvm.ClassFile.FieldType.int)) ∈ UL := ul_1 228 rfl rfl
set_option maxRecDepth 20000 in
theorem tw_1_229 : (Jvm.Cond.methodLink "SideBySide" (92 : Nat) ({ cls := "SideBySide", name := "isBelow", desc := "(II)Z" } : Jvm.MethodName)) ∈ UL := ul_1 229 rfl rfl
set_option maxRecDepth 20000 in
theorem tw_1_230 : (Jvm.Cond.static ({ cls := "SideBySide", name := "isBelow", desc := "(II)Z" } : Jvm.MethodName)) ∈ UL := ul_1 230 rfl rfl
set_option maxRecDepth 20000 in
theorem tw_1_231 : (Jvm.Cond.code ({ cls := "SideBySide", name := "isBelow", desc := "(II)Z" } : Jvm.MethodName) prog_1_method_45_code (2 : Nat) (Option.some Jvm.ClassFile.FieldType.boolean)) ∈ UL := ul_1 231 rfl rfl
set_option maxRecDepth 20000 in
theorem tw_1_232 : (Jvm.Cond.methodLink "SideBySide" (300 : Nat) ({ cls := "SideBySide$Shelf", name := "isBare", desc := "()Z" } : Jvm.MethodName)) ∈ UL := ul_1 232 rfl rfl
set_option maxRecDepth 20000 in
theorem tw_1_233 : (Jvm.Cond.instanceMethod ({ cls := "SideBySide$Shelf", name := "isBare", desc := "()Z" } : Jvm.MethodName)) ∈ UL := ul_1 233 rfl rfl
set_option maxRecDepth 20000 in
theorem tw_1_234 : (Jvm.Cond.selects "SideBySide$Shelf" ({ cls := "SideBySide$Shelf", name := "isBare", desc := "()Z" } : Jvm.MethodName) ({ cls := "SideBySide$Shelf", name := "isBare", desc := "()Z" } : Jvm.MethodName)) ∈ UL := ul_1 234 rfl rfl
set_option maxRecDepth 20000 in
theorem tw_1_235 : (Jvm.Cond.code ({ cls := "SideBySide$Shelf", name := "isBare", desc := "()Z" } : Jvm.MethodName) prog_9_method_3_code (1 : Nat) (Option.some Jvm.ClassFile.FieldType.boolean)) ∈ UL := ul_1 235 rfl rfl
set_option maxRecDepth 20000 in
theorem tw_1_236 : (Jvm.Cond.methodLink "SideBySide$Shelf" (23 : Nat) ({ cls := "SideBySide$Shelf", name := "isRow", desc := "()Z" } : Jvm.MethodName)) ∈ UL := ul_1 236 rfl rfl
set_option maxRecDepth 20000 in
theorem tw_1_237 : (Jvm.Cond.instanceMethod ({ cls := "SideBySide$Shelf", name := "isRow", desc := "()Z" } : Jvm.MethodName)) ∈ UL := ul_1 237 rfl rfl
set_option maxRecDepth 20000 in
theorem tw_1_238 : (Jvm.Cond.selects "SideBySide$Shelf" ({ cls := "SideBySide$Shelf", name := "isRow", desc := "()Z" } : Jvm.MethodName) ({ cls := "SideBySide$Shelf", name := "isRow", desc := "()Z" } : Jvm.MethodName)) ∈ UL := ul_1 238 rfl rfl
set_option maxRecDepth 20000 in
theorem tw_1_239 : (Jvm.Cond.code ({ cls := "SideBySide$Shelf", name := "isRow", desc := "()Z" } : Jvm.MethodName) prog_9_method_2_code (1 : Nat) (Option.some Jvm.ClassFile.FieldType.boolean)) ∈ UL := ul_1 239 rfl rfl
set_option maxRecDepth 20000 in
theorem tw_2_0 : (Jvm.Cond.methodLink "SideBySide" (291 : Nat) ({ cls := "SideBySide$Shelf", name := "isRow", desc := "()Z" } : Jvm.MethodName)) ∈ UL := ul_2 0 rfl rfl
set_option maxRecDepth 20000 in
theorem tw_2_1 : (Jvm.Cond.methodLink "SideBySide" (54 : Nat) ({ cls := "SideBySide$CourtText", name := "wrongByte", desc := "(LSideBySide$Shelf;)I" } : Jvm.MethodName)) ∈ UL := ul_2 1 rfl rfl
set_option maxRecDepth 20000 in
theorem tw_2_2 : (Jvm.Cond.static ({ cls := "SideBySide$CourtText", name := "wrongByte", desc := "(LSideBySide$Shelf;)I" } : Jvm.MethodName)) ∈ UL := ul_2 2 rfl rfl
set_option maxRecDepth 20000 in
theorem tw_2_3 : (Jvm.Cond.code ({ cls := "SideBySide$CourtText", name := "wrongByte", desc := "(LSideBySide$Shelf;)I" } : Jvm.MethodName) prog_4_method_2_code (4 : Nat) (Option.some Jvm.ClassFile.FieldType.int)) ∈ UL := ul_2 3 rfl rfl
set_option maxRecDepth 20000 in
theorem tw_2_4 : (Jvm.Cond.methodLink "SideBySide$CourtText" (9 : Nat) ({ cls := "SideBySide$Shelf", name := "byteAt", desc := "(I)I" } : Jvm.MethodName)) ∈ UL := ul_2 4 rfl rfl
set_option maxRecDepth 20000 in
theorem tw_2_5 : (Jvm.Cond.instanceMethod ({ cls := "SideBySide$Shelf", name := "byteAt", desc := "(I)I" } : Jvm.MethodName)) ∈ UL := ul_2 5 rfl rfl
set_option maxRecDepth 20000 in
theorem tw_2_6 : (Jvm.Cond.selects "SideBySide$Shelf" ({ cls := "SideBySide$Shelf", name := "byteAt", desc := "(I)I" } : Jvm.MethodName) ({ cls := "SideBySide$Shelf", name := "byteAt", desc := "(I)I" } : Jvm.MethodName)) ∈ UL := ul_2 6 rfl rfl
set_option maxRecDepth 20000 in
theorem tw_2_7 : (Jvm.Cond.code ({ cls := "SideBySide$Shelf", name := "byteAt", desc := "(I)I" } : Jvm.MethodName) prog_9_method_11_code (2 : Nat) (Option.some Jvm.ClassFile.FieldType.int)) ∈ UL := ul_2 7 rfl rfl
set_option maxRecDepth 20000 in
theorem tw_2_9 : (Jvm.Cond.methodLink "SideBySide$CourtText" (15 : Nat) ({ cls := "SideBySide$CourtText", name := "digitsBehind", desc := "(I)I" } : Jvm.MethodName)) ∈ UL := ul_2 9 rfl rfl
set_option maxRecDepth 20000 in
theorem tw_2_10 : (Jvm.Cond.static ({ cls := "SideBySide$CourtText", name := "digitsBehind", desc := "(I)I" } : Jvm.MethodName)) ∈ UL := ul_2 10 rfl rfl
set_option maxRecDepth 20000 in
theorem tw_2_11 : (Jvm.Cond.code ({ cls := "SideBySide$CourtText", name := "digitsBehind", desc := "(I)I" } : Jvm.MethodName) prog_4_method_5_code (1 : Nat) (Option.some Jvm.ClassFile.FieldType.int)) ∈ UL := ul_2 11 rfl rfl
set_option maxRecDepth 20000 in
theorem tw_2_12 : (Jvm.Cond.methodLink "SideBySide$CourtText" (20 : Nat) ({ cls := "SideBySide$Shelf", name := "digitAt", desc := "(I)I" } : Jvm.MethodName)) ∈ UL := ul_2 12 rfl rfl
set_option maxRecDepth 20000 in
theorem tw_2_13 : (Jvm.Cond.instanceMethod ({ cls := "SideBySide$Shelf", name := "digitAt", desc := "(I)I" } : Jvm.MethodName)) ∈ UL := ul_2 13 rfl rfl
set_option maxRecDepth 20000 in
theorem tw_2_14 : (Jvm.Cond.selects "SideBySide$Shelf" ({ cls := "SideBySide$Shelf", name := "digitAt", desc := "(I)I" } : Jvm.MethodName) ({ cls := "SideBySide$Shelf", name := "digitAt", desc := "(I)I" } : Jvm.MethodName)) ∈ UL := ul_2 14 rfl rfl
set_option maxRecDepth 20000 in
theorem tw_2_15 : (Jvm.Cond.code ({ cls := "SideBySide$Shelf", name := "digitAt", desc := "(I)I" } : Jvm.MethodName) prog_9_method_12_code (2 : Nat) (Option.some Jvm.ClassFile.FieldType.int)) ∈ UL := ul_2 15 rfl rfl
set_option maxRecDepth 20000 in
theorem tw_2_16 : (Jvm.Cond.methodLink "SideBySide$Shelf" (42 : Nat) ({ cls := "SideBySide$Shelf", name := "byteAt", desc := "(I)I" } : Jvm.MethodName)) ∈ UL := ul_2 16 rfl rfl
set_option maxRecDepth 20000 in
theorem tw_2_18 : (Jvm.Cond.methodLink "SideBySide" (60 : Nat) ({ cls := "SideBySide$Court", name := "become", desc := "(LSideBySide$Court;)V" } : Jvm.MethodName)) ∈ UL := ul_2 18 rfl rfl
set_option maxRecDepth 20000 in
theorem tw_2_19 : (Jvm.Cond.instanceMethod ({ cls := "SideBySide$Court", name := "become", desc := "(LSideBySide$Court;)V" } : Jvm.MethodName)) ∈ UL := ul_2 19 rfl rfl
set_option maxRecDepth 20000 in
theorem tw_2_20 : (Jvm.Cond.selects "SideBySide$Court" ({ cls := "SideBySide$Court", name := "become", desc := "(LSideBySide$Court;)V" } : Jvm.MethodName) ({ cls := "SideBySide$Court", name := "become", desc := "(LSideBySide$Court;)V" } : Jvm.MethodName)) ∈ UL := ul_2 20 rfl rfl
set_option maxRecDepth 20000 in
theorem tw_2_21 : (Jvm.Cond.code ({ cls := "SideBySide$Court", name := "become", desc := "(LSideBySide$Court;)V" } : Jvm.MethodName) prog_3_method_2_code (3 : Nat) (Option.none : Option Jvm.ClassFile.FieldType)) ∈ UL := ul_2 21 rfl rfl
set_option maxRecDepth 20000 in
theorem tw_2_22 : (Jvm.Cond.methodLink "SideBySide$Court" (39 : Nat) ({ cls := "java/lang/System", name := "arraycopy", desc := "(Ljava/lang/Object;ILjava/lang/Object;II)V" } : Jvm.MethodName)) ∈ UL := ul_2 22 rfl rfl
set_option maxRecDepth 20000 in
theorem tw_2_23 : (Jvm.Cond.static ({ cls := "java/lang/System", name := "arraycopy", desc := "(Ljava/lang/Object;ILjava/lang/Object;II)V" } : Jvm.MethodName)) ∈ UL := ul_2 23 rfl rfl
set_option maxRecDepth 20000 in
theorem tw_2_24 : (Jvm.Cond.native ({ cls := "java/lang/System", name := "arraycopy", desc := "(Ljava/lang/Object;ILjava/lang/Object;II)V" } : Jvm.MethodName)) ∈ UL := ul_2 24 rfl rfl
set_option maxRecDepth 20000 in
theorem tw_2_25 : (Jvm.Cond.methodLink "SideBySide" (64 : Nat) ({ cls := "SideBySide$CourtText", name := "wrongStatement", desc := "(LSideBySide$Shelf;LSideBySide$Court;)I" } : Jvm.MethodName)) ∈ UL := ul_2 25 rfl rfl
set_option maxRecDepth 20000 in
theorem tw_2_26 : (Jvm.Cond.static ({ cls := "SideBySide$CourtText", name := "wrongStatement", desc := "(LSideBySide$Shelf;LSideBySide$Court;)I" } : Jvm.MethodName)) ∈ UL := ul_2 26 rfl rfl
set_option maxRecDepth 20000 in
theorem tw_2_27 : (Jvm.Cond.code ({ cls := "SideBySide$CourtText", name := "wrongStatement", desc := "(LSideBySide$Shelf;LSideBySide$Court;)I" } : Jvm.MethodName) prog_4_method_3_code (3 : Nat) (Option.some Jvm.ClassFile.FieldType.int)) ∈ UL := ul_2 27 rfl rfl
set_option maxRecDepth 20000 in
theorem tw_2_28 : (Jvm.Cond.methodLink "SideBySide$CourtText" (31 : Nat) ({ cls := "SideBySide$CourtText", name := "tell", desc := "(LSideBySide$Shelf;ILSideBySide$Court;)I" } : Jvm.MethodName)) ∈ UL := ul_2 28 rfl rfl
set_option maxRecDepth 20000 in
theorem tw_2_29 : (Jvm.Cond.static ({ cls := "SideBySide$CourtText", name := "tell", desc := "(LSideBySide$Shelf;ILSideBySide$Court;)I" } : Jvm.MethodName)) ∈ UL := ul_2 29 rfl rfl
set_option maxRecDepth 20000 in
theorem tw_2_30 : (Jvm.Cond.code ({ cls := "SideBySide$CourtText", name := "tell", desc := "(LSideBySide$Shelf;ILSideBySide$Court;)I" } : Jvm.MethodName) prog_4_method_6_code (7 : Nat) (Option.some Jvm.ClassFile.FieldType.int)) ∈ UL := ul_2 30 rfl rfl
set_option maxRecDepth 20000 in
theorem tw_2_31 : (Jvm.Cond.methodLink "SideBySide$CourtText" (35 : Nat) ({ cls := "SideBySide$Stroke", name := "of", desc := "(II)LSideBySide$Stroke;" } : Jvm.MethodName)) ∈ UL := ul_2 31 rfl rfl
set_option maxRecDepth 20000 in
theorem tw_2_32 : (Jvm.Cond.methodLink "SideBySide$CourtText" (41 : Nat) ({ cls := "SideBySide$Court", name := "learn", desc := "(LSideBySide$Stroke;)I" } : Jvm.MethodName)) ∈ UL := ul_2 32 rfl rfl
set_option maxRecDepth 20000 in
theorem tw_2_33 : (Jvm.Cond.instanceMethod ({ cls := "SideBySide$Court", name := "learn", desc := "(LSideBySide$Stroke;)I" } : Jvm.MethodName)) ∈ UL := ul_2 33 rfl rfl
set_option maxRecDepth 20000 in
theorem tw_2_34 : (Jvm.Cond.selects "SideBySide$Court" ({ cls := "SideBySide$Court", name := "learn", desc := "(LSideBySide$Stroke;)I" } : Jvm.MethodName) ({ cls := "SideBySide$Court", name := "learn", desc := "(LSideBySide$Stroke;)I" } : Jvm.MethodName)) ∈ UL := ul_2 34 rfl rfl
set_option maxRecDepth 20000 in
theorem tw_2_35 : (Jvm.Cond.code ({ cls := "SideBySide$Court", name := "learn", desc := "(LSideBySide$Stroke;)I" } : Jvm.MethodName) prog_3_method_6_code (2 : Nat) (Option.some Jvm.ClassFile.FieldType.int)) ∈ UL := ul_2 35 rfl rfl
set_option maxRecDepth 20000 in
theorem tw_2_36 : (Jvm.Cond.methodLink "SideBySide$CourtText" (47 : Nat) ({ cls := "SideBySide$Court", name := "standAt", desc := "(III)I" } : Jvm.MethodName)) ∈ UL := ul_2 36 rfl rfl
set_option maxRecDepth 20000 in
theorem tw_2_37 : (Jvm.Cond.instanceMethod ({ cls := "SideBySide$Court", name := "standAt", desc := "(III)I" } : Jvm.MethodName)) ∈ UL := ul_2 37 rfl rfl
set_option maxRecDepth 20000 in
theorem tw_2_38 : (Jvm.Cond.selects "SideBySide$Court" ({ cls := "SideBySide$Court", name := "standAt", desc := "(III)I" } : Jvm.MethodName) ({ cls := "SideBySide$Court", name := "standAt", desc := "(III)I" } : Jvm.MethodName)) ∈ UL := ul_2 38 rfl rfl
set_option maxRecDepth 20000 in
theorem tw_2_39 : (Jvm.Cond.code ({ cls := "SideBySide$Court", name := "standAt", desc := "(III)I" } : Jvm.MethodName) prog_3_method_7_code (5 : Nat) (Option.some Jvm.ClassFile.FieldType.int)) ∈ UL := ul_2 39 rfl rfl
set_option maxRecDepth 20000 in
theorem tw_2_41 : (Jvm.Cond.methodLink "SideBySide$CourtText" (51 : Nat) ({ cls := "SideBySide$Court", name := "setTired", desc := "(II)I" } : Jvm.MethodName)) ∈ UL := ul_2 41 rfl rfl
set_option maxRecDepth 20000 in
theorem tw_2_42 : (Jvm.Cond.instanceMethod ({ cls := "SideBySide$Court", name := "setTired", desc := "(II)I" } : Jvm.MethodName)) ∈ UL := ul_2 42 rfl rfl
set_option maxRecDepth 20000 in
theorem tw_2_43 : (Jvm.Cond.selects "SideBySide$Court" ({ cls := "SideBySide$Court", name := "setTired", desc := "(II)I" } : Jvm.MethodName) ({ cls := "SideBySide$Court", name := "setTired", desc := "(II)I" } : Jvm.MethodName)) ∈ UL := ul_2 43 rfl rfl
set_option maxRecDepth 20000 in
theorem tw_2_44 : (Jvm.Cond.code ({ cls := "SideBySide$Court", name := "setTired", desc := "(II)I" } : Jvm.MethodName) prog_3_method_8_code (4 : Nat) (Option.some Jvm.ClassFile.FieldType.int)) ∈ UL := ul_2 44 rfl rfl
set_option maxRecDepth 20000 in
theorem tw_2_45 : (Jvm.Cond.methodLink "SideBySide$CourtText" (55 : Nat) ({ cls := "SideBySide$Court", name := "switchHand", desc := "(I)I" } : Jvm.MethodName)) ∈ UL := ul_2 45 rfl rfl
set_option maxRecDepth 20000 in
theorem tw_2_46 : (Jvm.Cond.instanceMethod ({ cls := "SideBySide$Court", name := "switchHand", desc := "(I)I" } : Jvm.MethodName)) ∈ UL := ul_2 46 rfl rfl
set_option maxRecDepth 20000 in
theorem tw_2_47 : (Jvm.Cond.selects "SideBySide$Court" ({ cls := "SideBySide$Court", name := "switchHand", desc := "(I)I" } : Jvm.MethodName) ({ cls := "SideBySide$Court", name := "switchHand", desc := "(I)I" } : Jvm.MethodName)) ∈ UL := ul_2 47 rfl rfl
set_option maxRecDepth 20000 in
theorem tw_2_48 : (Jvm.Cond.code ({ cls := "SideBySide$Court", name := "switchHand", desc := "(I)I" } : Jvm.MethodName) prog_3_method_9_code (2 : Nat) (Option.some Jvm.ClassFile.FieldType.int)) ∈ UL := ul_2 48 rfl rfl
set_option maxRecDepth 20000 in
theorem tw_2_49 : (Jvm.Cond.methodLink "SideBySide$CourtText" (58 : Nat) ({ cls := "SideBySide$Court", name := "adopt", desc := "(III)I" } : Jvm.MethodName)) ∈ UL := ul_2 49 rfl rfl
set_option maxRecDepth 20000 in
theorem tw_2_50 : (Jvm.Cond.instanceMethod ({ cls := "SideBySide$Court", name := "adopt", desc := "(III)I" } : Jvm.MethodName)) ∈ UL := ul_2 50 rfl rfl
set_option maxRecDepth 20000 in
theorem tw_2_51 : (Jvm.Cond.selects "SideBySide$Court" ({ cls := "SideBySide$Court", name := "adopt", desc := "(III)I" } : Jvm.MethodName) ({ cls := "SideBySide$Court", name := "adopt", desc := "(III)I" } : Jvm.MethodName)) ∈ UL := ul_2 51 rfl rfl
set_option maxRecDepth 20000 in
theorem tw_2_52 : (Jvm.Cond.code ({ cls := "SideBySide$Court", name := "adopt", desc := "(III)I" } : Jvm.MethodName) prog_3_method_11_code (6 : Nat) (Option.some Jvm.ClassFile.FieldType.int)) ∈ UL := ul_2 52 rfl rfl
set_option maxRecDepth 20000 in
theorem tw_2_53 : (Jvm.Cond.methodLink "SideBySide$Court" (69 : Nat) ({ cls := "SideBySide$Court", name := "choices", desc := "(I)I" } : Jvm.MethodName)) ∈ UL := ul_2 53 rfl rfl
set_option maxRecDepth 20000 in
theorem tw_2_54 : (Jvm.Cond.static ({ cls := "SideBySide$Court", name := "choices", desc := "(I)I" } : Jvm.MethodName)) ∈ UL := ul_2 54 rfl rfl
set_option maxRecDepth 20000 in
theorem tw_2_55 : (Jvm.Cond.code ({ cls := "SideBySide$Court", name := "choices", desc := "(I)I" } : Jvm.MethodName) prog_3_method_10_code (1 : Nat) (Option.some Jvm.ClassFile.FieldType.int)) ∈ UL := ul_2 55 rfl rfl
set_option maxRecDepth 20000 in
theorem tw_2_56 : (Jvm.Cond.methodLink "SideBySide$CourtText" (61 : Nat) ({ cls := "SideBySide$Court", name := "setDraught", desc := "(I)I" } : Jvm.MethodName)) ∈ UL := ul_2 56 rfl rfl
set_option maxRecDepth 20000 in
theorem tw_2_57 : (Jvm.Cond.instanceMethod ({ cls := "SideBySide$Court", name := "setDraught", desc := "(I)I" } : Jvm.MethodName)) ∈ UL := ul_2 57 rfl rfl
set_option maxRecDepth 20000 in
theorem tw_2_58 : (Jvm.Cond.selects "SideBySide$Court" ({ cls := "SideBySide$Court", name := "setDraught", desc := "(I)I" } : Jvm.MethodName) ({ cls := "SideBySide$Court", name := "setDraught", desc := "(I)I" } : Jvm.MethodName)) ∈ UL := ul_2 58 rfl rfl
set_option maxRecDepth 20000 in
theorem tw_2_59 : (Jvm.Cond.code ({ cls := "SideBySide$Court", name := "setDraught", desc := "(I)I" } : Jvm.MethodName) prog_3_method_12_code (3 : Nat) (Option.some Jvm.ClassFile.FieldType.int)) ∈ UL := ul_2 59 rfl rfl
set_option maxRecDepth 20000 in
theorem tw_2_60 : (Jvm.Cond.methodLink "SideBySide$CourtText" (64 : Nat) ({ cls := "SideBySide$Court", name := "hitRefusal", desc := "(II)I" } : Jvm.MethodName)) ∈ UL := ul_2 60 rfl rfl
set_option maxRecDepth 20000 in
theorem tw_2_61 : (Jvm.Cond.instanceMethod ({ cls := "SideBySide$Court", name := "hitRefusal", desc := "(II)I" } : Jvm.MethodName)) ∈ UL := ul_2 61 rfl rfl
set_option maxRecDepth 20000 in
theorem tw_2_62 : (Jvm.Cond.selects "SideBySide$Court" ({ cls := "SideBySide$Court", name := "hitRefusal", desc := "(II)I" } : Jvm.MethodName) ({ cls := "SideBySide$Court", name := "hitRefusal", desc := "(II)I" } : Jvm.MethodName)) ∈ UL := ul_2 62 rfl rfl
set_option maxRecDepth 20000 in
theorem tw_2_63 : (Jvm.Cond.code ({ cls := "SideBySide$Court", name := "hitRefusal", desc := "(II)I" } : Jvm.MethodName) prog_3_method_5_code (4 : Nat) (Option.some Jvm.ClassFile.FieldType.int)) ∈ UL := ul_2 63 rfl rfl
set_option maxRecDepth 20000 in
theorem tw_2_64 : (Jvm.Cond.methodLink "SideBySide$Court" (66 : Nat) ({ cls := "SideBySide$Court", name := "isHit", desc := "(II)Z" } : Jvm.MethodName)) ∈ UL := ul_2 64 rfl rfl
set_option maxRecDepth 20000 in
theorem tw_2_65 : (Jvm.Cond.instanceMethod ({ cls := "SideBySide$Court", name := "isHit", desc := "(II)Z" } : Jvm.MethodName)) ∈ UL := ul_2 65 rfl rfl
set_option maxRecDepth 20000 in
theorem tw_2_66 : (Jvm.Cond.selects "SideBySide$Court" ({ cls := "SideBySide$Court", name := "isHit", desc := "(II)Z" } : Jvm.MethodName) ({ cls := "SideBySide$Court", name := "isHit", desc := "(II)Z" } : Jvm.MethodName)) ∈ UL := ul_2 66 rfl rfl
set_option maxRecDepth 20000 in
theorem tw_2_67 : (Jvm.Cond.code ({ cls := "SideBySide$Court", name := "isHit", desc := "(II)Z" } : Jvm.MethodName) prog_3_method_4_code (3 : Nat) (Option.some Jvm.ClassFile.FieldType.boolean)) ∈ UL := ul_2 67 rfl rfl
set_option maxRecDepth 20000 in
theorem tw_2_68 : (Jvm.Cond.methodLink "SideBySide$Court" (62 : Nat) ({ cls := "SideBySide$Court", name := "knows", desc := "(I)Z" } : Jvm.MethodName)) ∈ UL := ul_2 68 rfl rfl
set_option maxRecDepth 20000 in
theorem tw_2_69 : (Jvm.Cond.instanceMethod ({ cls := "SideBySide$Court", name := "knows", desc := "(I)Z" } : Jvm.MethodName)) ∈ UL := ul_2 69 rfl rfl
set_option maxRecDepth 20000 in
theorem tw_2_70 : (Jvm.Cond.selects "SideBySide$Court" ({ cls := "SideBySide$Court", name := "knows", desc := "(I)Z" } : Jvm.MethodName) ({ cls := "SideBySide$Court", name := "knows", desc := "(I)Z" } : Jvm.MethodName)) ∈ UL := ul_2 70 rfl rfl
set_option maxRecDepth 20000 in
theorem tw_2_71 : (Jvm.Cond.code ({ cls := "SideBySide$Court", name := "knows", desc := "(I)Z" } : Jvm.MethodName) prog_3_method_3_code (2 : Nat) (Option.some Jvm.ClassFile.FieldType.boolean)) ∈ UL := ul_2 71 rfl rfl
set_option maxRecDepth 20000 in
theorem tw_2_72 : (Jvm.Cond.methodLink "SideBySide$CourtText" (67 : Nat) ({ cls := "SideBySide$Court", name := "strike", desc := "(II)Z" } : Jvm.MethodName)) ∈ UL := ul_2 72 rfl rfl
set_option maxRecDepth 20000 in
theorem tw_2_73 : (Jvm.Cond.instanceMethod ({ cls := "SideBySide$Court", name := "strike", desc := "(II)Z" } : Jvm.MethodName)) ∈ UL := ul_2 73 rfl rfl
set_option maxRecDepth 20000 in
theorem tw_2_74 : (Jvm.Cond.selects "SideBySide$Court" ({ cls := "SideBySide$Court", name := "strike", desc := "(II)Z" } : Jvm.MethodName) ({ cls := "SideBySide$Court", name := "strike", desc := "(II)Z" } : Jvm.MethodName)) ∈ UL := ul_2 74 rfl rfl
set_option maxRecDepth 20000 in
theorem tw_2_75 : (Jvm.Cond.code ({ cls := "SideBySide$Court", name := "strike", desc := "(II)Z" } : Jvm.MethodName) prog_3_method_25_code (9 : Nat) (Option.some Jvm.ClassFile.FieldType.boolean)) ∈ UL := ul_2 75 rfl rfl
set_option maxRecDepth 20000 in
theorem tw_2_76 : (Jvm.Cond.methodLink "SideBySide$Court" (73 : Nat) ({ cls := "SideBySide$Stroke", name := "landing", desc := "(II)I" } : Jvm.MethodName)) ∈ UL := ul_2 76 rfl rfl
set_option maxRecDepth 20000 in
theorem tw_2_77 : (Jvm.Cond.instanceMethod ({ cls := "SideBySide$Stroke", name := "landing", desc := "(II)I" } : Jvm.MethodName)) ∈ UL := ul_2 77 rfl rfl
set_option maxRecDepth 20000 in
theorem tw_2_78 : (Jvm.Cond.selects "SideBySide$Stroke" ({ cls := "SideBySide$Stroke", name := "landing", desc := "(II)I" } : Jvm.MethodName) ({ cls := "SideBySide$Stroke", name := "landing", desc := "(II)I" } : Jvm.MethodName)) ∈ UL := ul_2 78 rfl rfl
set_option maxRecDepth 20000 in
theorem tw_2_79 : (Jvm.Cond.sameMethod "SideBySide$Stroke" "SideBySide$Stroke" "landing" "(II)I") ∈ UL := ul_2 79 rfl rfl
set_option maxRecDepth 20000 in
theorem tw_2_80 : (Jvm.Cond.selects "SideBySide$Between" ({ cls := "SideBySide$Stroke", name := "landing", desc := "(II)I" } : Jvm.MethodName) ({ cls := "SideBySide$Between", name := "landing", desc := "(II)I" } : Jvm.MethodName)) ∈ UL := ul_2 80 rfl rfl
set_option maxRecDepth 20000 in
theorem tw_2_81 : (Jvm.Cond.instanceMethod ({ cls := "SideBySide$Between", name := "landing", desc := "(II)I" } : Jvm.MethodName)) ∈ UL := ul_2 81 rfl rfl
set_option maxRecDepth 20000 in
theorem tw_2_82 : (Jvm.Cond.code ({ cls := "SideBySide$Between", name := "landing", desc := "(II)I" } : Jvm.MethodName) prog_2_method_3_code (3 : Nat) (Option.some Jvm.ClassFile.FieldType.int)) ∈ UL := ul_2 82 rfl rfl
set_option maxRecDepth 20000 in
theorem tw_2_83 : (Jvm.Cond.selects "SideBySide$Drop" ({ cls := "SideBySide$Stroke", name := "landing", desc := "(II)I" } : Jvm.MethodName) ({ cls := "SideBySide$Stroke", name := "landing", desc := "(II)I" } : Jvm.MethodName)) ∈ UL := ul_2 83 rfl rfl
set_option maxRecDepth 20000 in
theorem tw_2_84 : (Jvm.Cond.selects "SideBySide$Flick" ({ cls := "SideBySide$Stroke", name := "landing", desc := "(II)I" } : Jvm.MethodName) ({ cls := "SideBySide$Stroke", name := "landing", desc := "(II)I" } : Jvm.MethodName)) ∈ UL := ul_2 84 rfl rfl
set_option maxRecDepth 20000 in
theorem tw_2_85 : (Jvm.Cond.selects "SideBySide$Lift" ({ cls := "SideBySide$Stroke", name := "landing", desc := "(II)I" } : Jvm.MethodName) ({ cls := "SideBySide$Stroke", name := "landing", desc := "(II)I" } : Jvm.MethodName)) ∈ UL := ul_2 85 rfl rfl
set_option maxRecDepth 20000 in
theorem tw_2_86 : (Jvm.Cond.selects "SideBySide$Push" ({ cls := "SideBySide$Stroke", name := "landing", desc := "(II)I" } : Jvm.MethodName) ({ cls := "SideBySide$Stroke", name := "landing", desc := "(II)I" } : Jvm.MethodName)) ∈ UL := ul_2 86 rfl rfl
set_option maxRecDepth 20000 in
theorem tw_2_87 : (Jvm.Cond.selects "SideBySide$Smash" ({ cls := "SideBySide$Stroke", name := "landing", desc := "(II)I" } : Jvm.MethodName) ({ cls := "SideBySide$Stroke", name := "landing", desc := "(II)I" } : Jvm.MethodName)) ∈ UL := ul_2 87 rfl rfl
set_option maxRecDepth 20000 in
theorem tw_2_88 : (Jvm.Cond.selects "SideBySide$Wander" ({ cls := "SideBySide$Stroke", name := "landing", desc := "(II)I" } : Jvm.MethodName) ({ cls := "SideBySide$Wander", name := "landing", desc := "(II)I" } : Jvm.MethodName)) ∈ UL := ul_2 88 rfl rfl
set_option maxRecDepth 20000 in
theorem tw_2_89 : (Jvm.Cond.instanceMethod ({ cls := "SideBySide$Wander", name := "landing", desc := "(II)I" } : Jvm.MethodName)) ∈ UL := ul_2 89 rfl rfl
set_option maxRecDepth 20000 in
theorem tw_2_90 : (Jvm.Cond.code ({ cls := "SideBySide$Wander", name := "landing", desc := "(II)I" } : Jvm.MethodName) prog_12_method_4_code (4 : Nat) (Option.some Jvm.ClassFile.FieldType.int)) ∈ UL := ul_2 90 rfl rfl
set_option maxRecDepth 20000 in
theorem tw_2_91 : (Jvm.Cond.methodLink "SideBySide$Wander" (11 : Nat) ({ cls := "java/lang/Math", name := "min", desc := "(II)I" } : Jvm.MethodName)) ∈ UL := ul_2 91 rfl rfl
set_option maxRecDepth 20000 in
theorem tw_2_92 : (Jvm.Cond.static ({ cls := "java/lang/Math", name := "min", desc := "(II)I" } : Jvm.MethodName)) ∈ UL := ul_2 92 rfl rfl
set_option maxRecDepth 20000 in
theorem tw_2_93 : (Jvm.Cond.code ({ cls := "java/lang/Math", name := "min", desc := "(II)I" } : Jvm.MethodName) prog_19_method_69_code (2 : Nat) (Option.some Jvm.ClassFile.FieldType.int)) ∈ UL := ul_2 93 rfl rfl
set_option maxRecDepth 20000 in
theorem tw_2_94 : (Jvm.Cond.methodLink "SideBySide$Wander" (17 : Nat) ({ cls := "java/lang/Math", name := "max", desc := "(II)I" } : Jvm.MethodName)) ∈ UL := ul_2 94 rfl rfl
set_option maxRecDepth 20000 in
theorem tw_2_95 : (Jvm.Cond.static ({ cls := "java/lang/Math", name := "max", desc := "(II)I" } : Jvm.MethodName)) ∈ UL := ul_2 95 rfl rfl
set_option maxRecDepth 20000 in
theorem tw_2_96 : (Jvm.Cond.code ({ cls := "java/lang/Math", name := "max", desc := "(II)I" } : Jvm.MethodName) prog_19_method_65_code (2 : Nat) (Option.some Jvm.ClassFile.FieldType.int)) ∈ UL := ul_2 96 rfl rfl
set_option maxRecDepth 20000 in
theorem tw_2_97 : (Jvm.Cond.code ({ cls := "SideBySide$Stroke", name := "landing", desc := "(II)I" } : Jvm.MethodName) prog_11_method_6_code (3 : Nat) (Option.some Jvm.ClassFile.FieldType.int)) ∈ UL := ul_2 97 rfl rfl
set_option maxRecDepth 20000 in
theorem tw_2_98 : (Jvm.Cond.methodLink "SideBySide$Court" (102 : Nat) ({ cls := "SideBySide$Stroke", name := "timeTo", desc := "(I)I" } : Jvm.MethodName)) ∈ UL := ul_2 98 rfl rfl
set_option maxRecDepth 20000 in
theorem tw_2_99 : (Jvm.Cond.instanceMethod ({ cls := "SideBySide$Stroke", name := "timeTo", desc := "(I)I" } : Jvm.MethodName)) ∈ UL := ul_2 99 rfl rfl
set_option maxRecDepth 20000 in
theorem tw_2_100 : (Jvm.Cond.selects "SideBySide$Stroke" ({ cls := "SideBySide$Stroke", name := "timeTo", desc := "(I)I" } : Jvm.MethodName) ({ cls := "SideBySide$Stroke", name := "timeTo", desc := "(I)I" } : Jvm.MethodName)) ∈ UL := ul_2 100 rfl rfl
set_option maxRecDepth 20000 in
theorem tw_2_101 : (Jvm.Cond.sameMethod "SideBySide$Stroke" "SideBySide$Stroke" "timeTo" "(I)I") ∈ UL := ul_2 101 rfl rfl
set_option maxRecDepth 20000 in
theorem tw_2_102 : (Jvm.Cond.selects "SideBySide$Between" ({ cls := "SideBySide$Stroke", name := "timeTo", desc := "(I)I" } : Jvm.MethodName) ({ cls := "SideBySide$Stroke", name := "timeTo", desc := "(I)I" } : Jvm.MethodName)) ∈ UL := ul_2 102 rfl rfl
set_option maxRecDepth 20000 in
theorem tw_2_103 : (Jvm.Cond.selects "SideBySide$Drop" ({ cls := "SideBySide$Stroke", name := "timeTo", desc := "(I)I" } : Jvm.MethodName) ({ cls := "SideBySide$Drop", name := "timeTo", desc := "(I)I" } : Jvm.MethodName)) ∈ UL := ul_2 103 rfl rfl
set_option maxRecDepth 20000 in
theorem tw_2_104 : (Jvm.Cond.instanceMethod ({ cls := "SideBySide$Drop", name := "timeTo", desc := "(I)I" } : Jvm.MethodName)) ∈ UL := ul_2 104 rfl rfl
set_option maxRecDepth 20000 in
theorem tw_2_105 : (Jvm.Cond.code ({ cls := "SideBySide$Drop", name := "timeTo", desc := "(I)I" } : Jvm.MethodName) prog_5_method_3_code (2 : Nat) (Option.some Jvm.ClassFile.FieldType.int)) ∈ UL := ul_2 105 rfl rfl
set_option maxRecDepth 20000 in
theorem tw_2_106 : (Jvm.Cond.methodLink "SideBySide$Drop" (7 : Nat) ({ cls := "SideBySide$Stroke", name := "timeTo", desc := "(I)I" } : Jvm.MethodName)) ∈ UL := ul_2 106 rfl rfl
set_option maxRecDepth 20000 in
theorem tw_2_107 : (Jvm.Cond.selects "SideBySide$Flick" ({ cls := "SideBySide$Stroke", name := "timeTo", desc := "(I)I" } : Jvm.MethodName) ({ cls := "SideBySide$Flick", name := "timeTo", desc := "(I)I" } : Jvm.MethodName)) ∈ UL := ul_2 107 rfl rfl
set_option maxRecDepth 20000 in
theorem tw_2_108 : (Jvm.Cond.instanceMethod ({ cls := "SideBySide$Flick", name := "timeTo", desc := "(I)I" } : Jvm.MethodName)) ∈ UL := ul_2 108 rfl rfl
set_option maxRecDepth 20000 in
theorem tw_2_109 : (Jvm.Cond.code ({ cls := "SideBySide$Flick", name := "timeTo", desc := "(I)I" } : Jvm.MethodName) prog_6_method_3_code (2 : Nat) (Option.some Jvm.ClassFile.FieldType.int)) ∈ UL := ul_2 109 rfl rfl
set_option maxRecDepth 20000 in
theorem tw_2_110 : (Jvm.Cond.methodLink "SideBySide$Flick" (7 : Nat) ({ cls := "SideBySide$Lift", name := "timeTo", desc := "(I)I" } : Jvm.MethodName)) ∈ UL := ul_2 110 rfl rfl
set_option maxRecDepth 20000 in
theorem tw_2_111 : (Jvm.Cond.instanceMethod ({ cls := "SideBySide$Lift", name := "timeTo", desc := "(I)I" } : Jvm.MethodName)) ∈ UL := ul_2 111 rfl rfl
set_option maxRecDepth 20000 in
theorem tw_2_112 : (Jvm.Cond.code ({ cls := "SideBySide$Lift", name := "timeTo", desc := "(I)I" } : Jvm.MethodName) prog_7_method_3_code (2 : Nat) (Option.some Jvm.ClassFile.FieldType.int)) ∈ UL := ul_2 112 rfl rfl
set_option maxRecDepth 20000 in
theorem tw_2_113 : (Jvm.Cond.methodLink "SideBySide$Lift" (7 : Nat) ({ cls := "SideBySide$Stroke", name := "timeTo", desc := "(I)I" } : Jvm.MethodName)) ∈ UL := ul_2 113 rfl rfl
set_option maxRecDepth 20000 in
theorem tw_2_114 : (Jvm.Cond.selects "SideBySide$Lift" ({ cls := "SideBySide$Stroke", name := "timeTo", desc := "(I)I" } : Jvm.MethodName) ({ cls := "SideBySide$Lift", name := "timeTo", desc := "(I)I" } : Jvm.MethodName)) ∈ UL := ul_2 114 rfl rfl
set_option maxRecDepth 20000 in
theorem tw_2_115 : (Jvm.Cond.selects "SideBySide$Push" ({ cls := "SideBySide$Stroke", name := "timeTo", desc := "(I)I" } : Jvm.MethodName) ({ cls := "SideBySide$Push", name := "timeTo", desc := "(I)I" } : Jvm.MethodName)) ∈ UL := ul_2 115 rfl rfl
set_option maxRecDepth 20000 in
theorem tw_2_116 : (Jvm.Cond.instanceMethod ({ cls := "SideBySide$Push", name := "timeTo", desc := "(I)I" } : Jvm.MethodName)) ∈ UL := ul_2 116 rfl rfl
set_option maxRecDepth 20000 in
theorem tw_2_117 : (Jvm.Cond.code ({ cls := "SideBySide$Push", name := "timeTo", desc := "(I)I" } : Jvm.MethodName) prog_8_method_3_code (2 : Nat) (Option.some Jvm.ClassFile.FieldType.int)) ∈ UL := ul_2 117 rfl rfl
set_option maxRecDepth 20000 in
theorem tw_2_118 : (Jvm.Cond.methodLink "SideBySide$Push" (7 : Nat) ({ cls := "SideBySide$Drop", name := "timeTo", desc := "(I)I" } : Jvm.MethodName)) ∈ UL := ul_2 118 rfl rfl
set_option maxRecDepth 20000 in
theorem tw_2_119 : (Jvm.Cond.selects "SideBySide$Smash" ({ cls := "SideBySide$Stroke", name := "timeTo", desc := "(I)I" } : Jvm.MethodName) ({ cls := "SideBySide$Smash", name := "timeTo", desc := "(I)I" } : Jvm.MethodName)) ∈ UL := ul_2 119 rfl rfl
set_option maxRecDepth 20000 in
theorem tw_2_120 : (Jvm.Cond.instanceMethod ({ cls := "SideBySide$Smash", name := "timeTo", desc := "(I)I" } : Jvm.MethodName)) ∈ UL := ul_2 120 rfl rfl
set_option maxRecDepth 20000 in
theorem tw_2_121 : (Jvm.Cond.code ({ cls := "SideBySide$Smash", name := "timeTo", desc := "(I)I" } : Jvm.MethodName) prog_10_method_3_code (2 : Nat) (Option.some Jvm.ClassFile.FieldType.int)) ∈ UL := ul_2 121 rfl rfl
set_option maxRecDepth 20000 in
theorem tw_2_122 : (Jvm.Cond.selects "SideBySide$Wander" ({ cls := "SideBySide$Stroke", name := "timeTo", desc := "(I)I" } : Jvm.MethodName) ({ cls := "SideBySide$Wander", name := "timeTo", desc := "(I)I" } : Jvm.MethodName)) ∈ UL := ul_2 122 rfl rfl
set_option maxRecDepth 20000 in
theorem tw_2_123 : (Jvm.Cond.instanceMethod ({ cls := "SideBySide$Wander", name := "timeTo", desc := "(I)I" } : Jvm.MethodName)) ∈ UL := ul_2 123 rfl rfl
set_option maxRecDepth 20000 in
theorem tw_2_124 : (Jvm.Cond.code ({ cls := "SideBySide$Wander", name := "timeTo", desc := "(I)I" } : Jvm.MethodName) prog_12_method_3_code (2 : Nat) (Option.some Jvm.ClassFile.FieldType.int)) ∈ UL := ul_2 124 rfl rfl
set_option maxRecDepth 20000 in
theorem tw_2_125 : (Jvm.Cond.methodLink "SideBySide$Wander" (7 : Nat) ({ cls := "SideBySide$Lift", name := "timeTo", desc := "(I)I" } : Jvm.MethodName)) ∈ UL := ul_2 125 rfl rfl
set_option maxRecDepth 20000 in
theorem tw_2_126 : (Jvm.Cond.code ({ cls := "SideBySide$Stroke", name := "timeTo", desc := "(I)I" } : Jvm.MethodName) prog_11_method_4_code (2 : Nat) (Option.some Jvm.ClassFile.FieldType.int)) ∈ UL := ul_2 126 rfl rfl
set_option maxRecDepth 20000 in
theorem tw_2_127 : (Jvm.Cond.methodLink "SideBySide$Court" (92 : Nat) ({ cls := "SideBySide$Court", name := "claimTo", desc := "(I)I" } : Jvm.MethodName)) ∈ UL := ul_2 127 rfl rfl
set_option maxRecDepth 20000 in
theorem tw_2_128 : (Jvm.Cond.instanceMethod ({ cls := "SideBySide$Court", name := "claimTo", desc := "(I)I" } : Jvm.MethodName)) ∈ UL := ul_2 128 rfl rfl
set_option maxRecDepth 20000 in
theorem tw_2_129 : (Jvm.Cond.selects "SideBySide$Court" ({ cls := "SideBySide$Court", name := "claimTo", desc := "(I)I" } : Jvm.MethodName) ({ cls := "SideBySide$Court", name := "claimTo", desc := "(I)I" } : Jvm.MethodName)) ∈ UL := ul_2 129 rfl rfl
set_option maxRecDepth 20000 in
theorem tw_2_130 : (Jvm.Cond.code ({ cls := "SideBySide$Court", name := "claimTo", desc := "(I)I" } : Jvm.MethodName) prog_3_method_17_code (5 : Nat) (Option.some Jvm.ClassFile.FieldType.int)) ∈ UL := ul_2 130 rfl rfl
set_option maxRecDepth 20000 in
theorem tw_2_131 : (Jvm.Cond.methodLink "SideBySide$Court" (82 : Nat) ({ cls := "SideBySide$Court", name := "receivers", desc := "()I" } : Jvm.MethodName)) ∈ UL := ul_2 131 rfl rfl
set_option maxRecDepth 20000 in
theorem tw_2_132 : (Jvm.Cond.instanceMethod ({ cls := "SideBySide$Court", name := "receivers", desc := "()I" } : Jvm.MethodName)) ∈ UL := ul_2 132 rfl rfl
set_option maxRecDepth 20000 in
theorem tw_2_133 : (Jvm.Cond.selects "SideBySide$Court" ({ cls := "SideBySide$Court", name := "receivers", desc := "()I" } : Jvm.MethodName) ({ cls := "SideBySide$Court", name := "receivers", desc := "()I" } : Jvm.MethodName)) ∈ UL := ul_2 133 rfl rfl
set_option maxRecDepth 20000 in
theorem tw_2_134 : (Jvm.Cond.code ({ cls := "SideBySide$Court", name := "receivers", desc := "()I" } : Jvm.MethodName) prog_3_method_14_code (1 : Nat) (Option.some Jvm.ClassFile.FieldType.int)) ∈ UL := ul_2 134 rfl rfl
set_option maxRecDepth 20000 in
theorem tw_2_136 : (Jvm.Cond.static ({ cls := "SideBySide", name := "way", desc := "(II)I" } : Jvm.MethodName)) ∈ UL := ul_2 136 rfl rfl
set_option maxRecDepth 20000 in
theorem tw_2_137 : (Jvm.Cond.code ({ cls := "SideBySide", name := "way", desc := "(II)I" } : Jvm.MethodName) prog_1_method_46_code (2 : Nat) (Option.some Jvm.ClassFile.FieldType.int)) ∈ UL := ul_2 137 rfl rfl
set_option maxRecDepth 20000 in
theorem tw_2_138 : (Jvm.Cond.methodLink "SideBySide" (320 : Nat) ({ cls := "java/lang/Math", name := "abs", desc := "(I)I" } : Jvm.MethodName)) ∈ UL := ul_2 138 rfl rfl
set_option maxRecDepth 20000 in
theorem tw_2_139 : (Jvm.Cond.static ({ cls := "java/lang/Math", name := "abs", desc := "(I)I" } : Jvm.MethodName)) ∈ UL := ul_2 139 rfl rfl
set_option maxRecDepth 20000 in
theorem tw_2_140 : (Jvm.Cond.code ({ cls := "java/lang/Math", name := "abs", desc := "(I)I" } : Jvm.MethodName) prog_19_method_59_code (1 : Nat) (Option.some Jvm.ClassFile.FieldType.int)) ∈ UL := ul_2 140 rfl rfl
set_option maxRecDepth 20000 in
theorem tw_2_141 : (Jvm.Cond.methodLink "SideBySide$Court" (89 : Nat) ({ cls := "SideBySide$Court", name := "leftOneOf", desc := "(II)I" } : Jvm.MethodName)) ∈ UL := ul_2 141 rfl rfl
set_option maxRecDepth 20000 in
theorem tw_2_142 : (Jvm.Cond.instanceMethod ({ cls := "SideBySide$Court", name := "leftOneOf", desc := "(II)I" } : Jvm.MethodName)) ∈ UL := ul_2 142 rfl rfl
set_option maxRecDepth 20000 in
theorem tw_2_143 : (Jvm.Cond.selects "SideBySide$Court" ({ cls := "SideBySide$Court", name := "leftOneOf", desc := "(II)I" } : Jvm.MethodName) ({ cls := "SideBySide$Court", name := "leftOneOf", desc := "(II)I" } : Jvm.MethodName)) ∈ UL := ul_2 143 rfl rfl
set_option maxRecDepth 20000 in
theorem tw_2_144 : (Jvm.Cond.code ({ cls := "SideBySide$Court", name := "leftOneOf", desc := "(II)I" } : Jvm.MethodName) prog_3_method_20_code (3 : Nat) (Option.some Jvm.ClassFile.FieldType.int)) ∈ UL := ul_2 144 rfl rfl
set_option maxRecDepth 20000 in
theorem tw_2_145 : (Jvm.Cond.methodLink "SideBySide$Court" (105 : Nat) ({ cls := "SideBySide$Court", name := "isMissed", desc := "(III)Z" } : Jvm.MethodName)) ∈ UL := ul_2 145 rfl rfl
set_option maxRecDepth 20000 in
theorem tw_2_146 : (Jvm.Cond.instanceMethod ({ cls := "SideBySide$Court", name := "isMissed", desc := "(III)Z" } : Jvm.MethodName)) ∈ UL := ul_2 146 rfl rfl
set_option maxRecDepth 20000 in
theorem tw_2_147 : (Jvm.Cond.selects "SideBySide$Court" ({ cls := "SideBySide$Court", name := "isMissed", desc := "(III)Z" } : Jvm.MethodName) ({ cls := "SideBySide$Court", name := "isMissed", desc := "(III)Z" } : Jvm.MethodName)) ∈ UL := ul_2 147 rfl rfl
set_option maxRecDepth 20000 in
theorem tw_2_148 : (Jvm.Cond.code ({ cls := "SideBySide$Court", name := "isMissed", desc := "(III)Z" } : Jvm.MethodName) prog_3_method_23_code (6 : Nat) (Option.some Jvm.ClassFile.FieldType.boolean)) ∈ UL := ul_2 148 rfl rfl
set_option maxRecDepth 20000 in
theorem tw_2_149 : (Jvm.Cond.methodLink "SideBySide$Court" (95 : Nat) ({ cls := "SideBySide$Court", name := "takerBy", desc := "(I)I" } : Jvm.MethodName)) ∈ UL := ul_2 149 rfl rfl
set_option maxRecDepth 20000 in
theorem tw_2_150 : (Jvm.Cond.instanceMethod ({ cls := "SideBySide$Court", name := "takerBy", desc := "(I)I" } : Jvm.MethodName)) ∈ UL := ul_2 150 rfl rfl
set_option maxRecDepth 20000 in
theorem tw_2_151 : (Jvm.Cond.selects "SideBySide$Court" ({ cls := "SideBySide$Court", name := "takerBy", desc := "(I)I" } : Jvm.MethodName) ({ cls := "SideBySide$Court", name := "takerBy", desc := "(I)I" } : Jvm.MethodName)) ∈ UL := ul_2 151 rfl rfl
set_option maxRecDepth 20000 in
theorem tw_2_152 : (Jvm.Cond.code ({ cls := "SideBySide$Court", name := "takerBy", desc := "(I)I" } : Jvm.MethodName) prog_3_method_18_code (2 : Nat) (Option.some Jvm.ClassFile.FieldType.int)) ∈ UL := ul_2 152 rfl rfl
set_option maxRecDepth 20000 in
theorem tw_2_153 : (Jvm.Cond.methodLink "SideBySide$Court" (109 : Nat) ({ cls := "java/lang/Math", name := "min", desc := "(II)I" } : Jvm.MethodName)) ∈ UL := ul_2 153 rfl rfl
set_option maxRecDepth 20000 in
theorem tw_2_154 : (Jvm.Cond.methodLink "SideBySide$Court" (112 : Nat) ({ cls := "SideBySide$Court", name := "stepsIn", desc := "(III)I" } : Jvm.MethodName)) ∈ UL := ul_2 154 rfl rfl
set_option maxRecDepth 20000 in
theorem tw_2_155 : (Jvm.Cond.instanceMethod ({ cls := "SideBySide$Court", name := "stepsIn", desc := "(III)I" } : Jvm.MethodName)) ∈ UL := ul_2 155 rfl rfl
set_option maxRecDepth 20000 in
theorem tw_2_156 : (Jvm.Cond.selects "SideBySide$Court" ({ cls := "SideBySide$Court", name := "stepsIn", desc := "(III)I" } : Jvm.MethodName) ({ cls := "SideBySide$Court", name := "stepsIn", desc := "(III)I" } : Jvm.MethodName)) ∈ UL := ul_2 156 rfl rfl
set_option maxRecDepth 20000 in
theorem tw_2_157 : (Jvm.Cond.code ({ cls := "SideBySide$Court", name := "stepsIn", desc := "(III)I" } : Jvm.MethodName) prog_3_method_16_code (4 : Nat) (Option.some Jvm.ClassFile.FieldType.int)) ∈ UL := ul_2 157 rfl rfl
set_option maxRecDepth 20000 in
theorem tw_2_158 : (Jvm.Cond.methodLink "SideBySide$Court" (77 : Nat) ({ cls := "java/lang/Math", name := "max", desc := "(II)I" } : Jvm.MethodName)) ∈ UL := ul_2 158 rfl rfl
set_option maxRecDepth 20000 in
theorem tw_2_159 : (Jvm.Cond.methodLink "SideBySide$Court" (119 : Nat) ({ cls := "SideBySide$Stroke", name := "effort", desc := "()I" } : Jvm.MethodName)) ∈ UL := ul_2 159 rfl rfl
set_option maxRecDepth 20000 in
theorem tw_2_160 : (Jvm.Cond.instanceMethod ({ cls := "SideBySide$Stroke", name := "effort", desc := "()I" } : Jvm.MethodName)) ∈ UL := ul_2 160 rfl rfl
set_option maxRecDepth 20000 in
theorem tw_2_161 : (Jvm.Cond.selects "SideBySide$Stroke" ({ cls := "SideBySide$Stroke", name := "effort", desc := "()I" } : Jvm.MethodName) ({ cls := "SideBySide$Stroke", name := "effort", desc := "()I" } : Jvm.MethodName)) ∈ UL := ul_2 161 rfl rfl
set_option maxRecDepth 20000 in
theorem tw_2_162 : (Jvm.Cond.sameMethod "SideBySide$Stroke" "SideBySide$Stroke" "effort" "()I") ∈ UL := ul_2 162 rfl rfl
set_option maxRecDepth 20000 in
theorem tw_2_163 : (Jvm.Cond.selects "SideBySide$Between" ({ cls := "SideBySide$Stroke", name := "effort", desc := "()I" } : Jvm.MethodName) ({ cls := "SideBySide$Stroke", name := "effort", desc := "()I" } : Jvm.MethodName)) ∈ UL := ul_2 163 rfl rfl
set_option maxRecDepth 20000 in
theorem tw_2_164 : (Jvm.Cond.selects "SideBySide$Drop" ({ cls := "SideBySide$Stroke", name := "effort", desc := "()I" } : Jvm.MethodName) ({ cls := "SideBySide$Drop", name := "effort", desc := "()I" } : Jvm.MethodName)) ∈ UL := ul_2 164 rfl rfl
set_option maxRecDepth 20000 in
theorem tw_2_165 : (Jvm.Cond.instanceMethod ({ cls := "SideBySide$Drop", name := "effort", desc := "()I" } : Jvm.MethodName)) ∈ UL := ul_2 165 rfl rfl
set_option maxRecDepth 20000 in
theorem tw_2_166 : (Jvm.Cond.code ({ cls := "SideBySide$Drop", name := "effort", desc := "()I" } : Jvm.MethodName) prog_5_method_4_code (1 : Nat) (Option.some Jvm.ClassFile.FieldType.int)) ∈ UL := ul_2 166 rfl rfl
set_option maxRecDepth 20000 in
theorem tw_2_167 : (Jvm.Cond.methodLink "SideBySide$Drop" (11 : Nat) ({ cls := "SideBySide$Stroke", name := "effort", desc := "()I" } : Jvm.MethodName)) ∈ UL := ul_2 167 rfl rfl
set_option maxRecDepth 20000 in
theorem tw_2_168 : (Jvm.Cond.selects "SideBySide$Flick" ({ cls := "SideBySide$Stroke", name := "effort", desc := "()I" } : Jvm.MethodName) ({ cls := "SideBySide$Flick", name := "effort", desc := "()I" } : Jvm.MethodName)) ∈ UL := ul_2 168 rfl rfl
set_option maxRecDepth 20000 in
theorem tw_2_169 : (Jvm.Cond.instanceMethod ({ cls := "SideBySide$Flick", name := "effort", desc := "()I" } : Jvm.MethodName)) ∈ UL := ul_2 169 rfl rfl
set_option maxRecDepth 20000 in
theorem tw_2_170 : (Jvm.Cond.code ({ cls := "SideBySide$Flick", name := "effort", desc := "()I" } : Jvm.MethodName) prog_6_method_4_code (1 : Nat) (Option.some Jvm.ClassFile.FieldType.int)) ∈ UL := ul_2 170 rfl rfl
set_option maxRecDepth 20000 in
theorem tw_2_171 : (Jvm.Cond.methodLink "SideBySide$Flick" (11 : Nat) ({ cls := "SideBySide$Lift", name := "effort", desc := "()I" } : Jvm.MethodName)) ∈ UL := ul_2 171 rfl rfl
set_option maxRecDepth 20000 in
theorem tw_2_172 : (Jvm.Cond.instanceMethod ({ cls := "SideBySide$Lift", name := "effort", desc := "()I" } : Jvm.MethodName)) ∈ UL := ul_2 172 rfl rfl
set_option maxRecDepth 20000 in
theorem tw_2_173 : (Jvm.Cond.code ({ cls := "SideBySide$Lift", name := "effort", desc := "()I" } : Jvm.MethodName) prog_7_method_4_code (1 : Nat) (Option.some Jvm.ClassFile.FieldType.int)) ∈ UL := ul_2 173 rfl rfl
set_option maxRecDepth 20000 in
theorem tw_2_174 : (Jvm.Cond.methodLink "SideBySide$Lift" (11 : Nat) ({ cls := "SideBySide$Stroke", name := "effort", desc := "()I" } : Jvm.MethodName)) ∈ UL := ul_2 174 rfl rfl
set_option maxRecDepth 20000 in
theorem tw_2_175 : (Jvm.Cond.selects "SideBySide$Lift" ({ cls := "SideBySide$Stroke", name := "effort", desc := "()I" } : Jvm.MethodName) ({ cls := "SideBySide$Lift", name := "effort", desc := "()I" } : Jvm.MethodName)) ∈ UL := ul_2 175 rfl rfl
set_option maxRecDepth 20000 in
theorem tw_2_176 : (Jvm.Cond.selects "SideBySide$Push" ({ cls := "SideBySide$Stroke", name := "effort", desc := "()I" } : Jvm.MethodName) ({ cls := "SideBySide$Drop", name := "effort", desc := "()I" } : Jvm.MethodName)) ∈ UL := ul_2 176 rfl rfl
set_option maxRecDepth 20000 in
theorem tw_2_177 : (Jvm.Cond.selects "SideBySide$Smash" ({ cls := "SideBySide$Stroke", name := "effort", desc := "()I" } : Jvm.MethodName) ({ cls := "SideBySide$Smash", name := "effort", desc := "()I" } : Jvm.MethodName)) ∈ UL := ul_2 177 rfl rfl
set_option maxRecDepth 20000 in
theorem tw_2_178 : (Jvm.Cond.instanceMethod ({ cls := "SideBySide$Smash", name := "effort", desc := "()I" } : Jvm.MethodName)) ∈ UL := ul_2 178 rfl rfl
set_option maxRecDepth 20000 in
theorem tw_2_179 : (Jvm.Cond.code ({ cls := "SideBySide$Smash", name := "effort", desc := "()I" } : Jvm.MethodName) prog_10_method_4_code (1 : Nat) (Option.some Jvm.ClassFile.FieldType.int)) ∈ UL := ul_2 179 rfl rfl
set_option maxRecDepth 20000 in
theorem tw_2_180 : (Jvm.Cond.selects "SideBySide$Wander" ({ cls := "SideBySide$Stroke", name := "effort", desc := "()I" } : Jvm.MethodName) ({ cls := "SideBySide$Lift", name := "effort", desc := "()I" } : Jvm.MethodName)) ∈ UL := ul_2 180 rfl rfl
set_option maxRecDepth 20000 in
theorem tw_2_181 : (Jvm.Cond.code ({ cls := "SideBySide$Stroke", name := "effort", desc := "()I" } : Jvm.MethodName) prog_11_method_5_code (1 : Nat) (Option.some Jvm.ClassFile.FieldType.int)) ∈ UL := ul_2 181 rfl rfl
set_option maxRecDepth 20000 in
theorem tw_2_182 : (Jvm.Cond.methodLink "SideBySide$Court" (122 : Nat) ({ cls := "SideBySide$Court", name := "weary", desc := "(II)V" } : Jvm.MethodName)) ∈ UL := ul_2 182 rfl rfl
set_option maxRecDepth 20000 in
theorem tw_2_183 : (Jvm.Cond.instanceMethod ({ cls := "SideBySide$Court", name := "weary", desc := "(II)V" } : Jvm.MethodName)) ∈ UL := ul_2 183 rfl rfl
set_option maxRecDepth 20000 in
theorem tw_2_184 : (Jvm.Cond.selects "SideBySide$Court" ({ cls := "SideBySide$Court", name := "weary", desc := "(II)V" } : Jvm.MethodName) ({ cls := "SideBySide$Court", name := "weary", desc := "(II)V" } : Jvm.MethodName)) ∈ UL := ul_2 184 rfl rfl
set_option maxRecDepth 20000 in
theorem tw_2_185 : (Jvm.Cond.code ({ cls := "SideBySide$Court", name := "weary", desc := "(II)V" } : Jvm.MethodName) prog_3_method_28_code (3 : Nat) (Option.none : Option Jvm.ClassFile.FieldType)) ∈ UL := ul_2 185 rfl rfl
set_option maxRecDepth 20000 in
theorem tw_2_186 : (Jvm.Cond.methodLink "SideBySide$Court" (126 : Nat) ({ cls := "SideBySide$Court", name := "partnerOf", desc := "(I)I" } : Jvm.MethodName)) ∈ UL := ul_2 186 rfl rfl
set_option maxRecDepth 20000 in
theorem tw_2_187 : (Jvm.Cond.static ({ cls := "SideBySide$Court", name := "partnerOf", desc := "(I)I" } : Jvm.MethodName)) ∈ UL := ul_2 187 rfl rfl
set_option maxRecDepth 20000 in
theorem tw_2_188 : (Jvm.Cond.code ({ cls := "SideBySide$Court", name := "partnerOf", desc := "(I)I" } : Jvm.MethodName) prog_3_method_29_code (1 : Nat) (Option.some Jvm.ClassFile.FieldType.int)) ∈ UL := ul_2 188 rfl rfl
set_option maxRecDepth 20000 in
theorem tw_2_189 : (Jvm.Cond.methodLink "SideBySide$Court" (129 : Nat) ({ cls := "SideBySide$Court", name := "take", desc := "(II)V" } : Jvm.MethodName)) ∈ UL := ul_2 189 rfl rfl
set_option maxRecDepth 20000 in
theorem tw_2_190 : (Jvm.Cond.instanceMethod ({ cls := "SideBySide$Court", name := "take", desc := "(II)V" } : Jvm.MethodName)) ∈ UL := ul_2 190 rfl rfl
set_option maxRecDepth 20000 in
theorem tw_2_191 : (Jvm.Cond.selects "SideBySide$Court" ({ cls := "SideBySide$Court", name := "take", desc := "(II)V" } : Jvm.MethodName) ({ cls := "SideBySide$Court", name := "take", desc := "(II)V" } : Jvm.MethodName)) ∈ UL := ul_2 191 rfl rfl
set_option maxRecDepth 20000 in
theorem tw_2_192 : (Jvm.Cond.code ({ cls := "SideBySide$Court", name := "take", desc := "(II)V" } : Jvm.MethodName) prog_3_method_26_code (3 : Nat) (Option.none : Option Jvm.ClassFile.FieldType)) ∈ UL := ul_2 192 rfl rfl
set_option maxRecDepth 20000 in
theorem tw_2_193 : (Jvm.Cond.methodLink "SideBySide$Court" (132 : Nat) ({ cls := "SideBySide$Court", name := "sendPartner", desc := "(II)V" } : Jvm.MethodName)) ∈ UL := ul_2 193 rfl rfl
set_option maxRecDepth 20000 in
theorem tw_2_194 : (Jvm.Cond.instanceMethod ({ cls := "SideBySide$Court", name := "sendPartner", desc := "(II)V" } : Jvm.MethodName)) ∈ UL := ul_2 194 rfl rfl
set_option maxRecDepth 20000 in
theorem tw_2_195 : (Jvm.Cond.selects "SideBySide$Court" ({ cls := "SideBySide$Court", name := "sendPartner", desc := "(II)V" } : Jvm.MethodName) ({ cls := "SideBySide$Court", name := "sendPartner", desc := "(II)V" } : Jvm.MethodName)) ∈ UL := ul_2 195 rfl rfl
set_option maxRecDepth 20000 in
theorem tw_2_196 : (Jvm.Cond.code ({ cls := "SideBySide$Court", name := "sendPartner", desc := "(II)V" } : Jvm.MethodName) prog_3_method_27_code (9 : Nat) (Option.none : Option Jvm.ClassFile.FieldType)) ∈ UL := ul_2 196 rfl rfl
set_option maxRecDepth 20000 in
theorem tw_2_197 : (Jvm.Cond.methodLink "SideBySide$Court" (135 : Nat) ({ cls := "SideBySide$Court", name := "placeBy", desc := "(I)I" } : Jvm.MethodName)) ∈ UL := ul_2 197 rfl rfl
set_option maxRecDepth 20000 in
theorem tw_2_198 : (Jvm.Cond.instanceMethod ({ cls := "SideBySide$Court", name := "placeBy", desc := "(I)I" } : Jvm.MethodName)) ∈ UL := ul_2 198 rfl rfl
set_option maxRecDepth 20000 in
theorem tw_2_199 : (Jvm.Cond.selects "SideBySide$Court" ({ cls := "SideBySide$Court", name := "placeBy", desc := "(I)I" } : Jvm.MethodName) ({ cls := "SideBySide$Court", name := "placeBy", desc := "(I)I" } : Jvm.MethodName)) ∈ UL := ul_2 199 rfl rfl
set_option maxRecDepth 20000 in
theorem tw_2_200 : (Jvm.Cond.code ({ cls := "SideBySide$Court", name := "placeBy", desc := "(I)I" } : Jvm.MethodName) prog_3_method_30_code (2 : Nat) (Option.some Jvm.ClassFile.FieldType.int)) ∈ UL := ul_2 200 rfl rfl
set_option maxRecDepth 20000 in
theorem tw_2_201 : (Jvm.Cond.methodLink "SideBySide$Court" (138 : Nat) ({ cls := "SideBySide$Court", name := "nearer", desc := "(III)I" } : Jvm.MethodName)) ∈ UL := ul_2 201 rfl rfl
set_option maxRecDepth 20000 in
theorem tw_2_202 : (Jvm.Cond.static ({ cls := "SideBySide$Court", name := "nearer", desc := "(III)I" } : Jvm.MethodName)) ∈ UL := ul_2 202 rfl rfl
set_option maxRecDepth 20000 in
theorem tw_2_203 : (Jvm.Cond.code ({ cls := "SideBySide$Court", name := "nearer", desc := "(III)I" } : Jvm.MethodName) prog_3_method_32_code (3 : Nat) (Option.some Jvm.ClassFile.FieldType.int)) ∈ UL := ul_2 203 rfl rfl
set_option maxRecDepth 20000 in
theorem tw_2_204 : (Jvm.Cond.methodLink "SideBySide$Court" (141 : Nat) ({ cls := "java/lang/Math", name := "abs", desc := "(I)I" } : Jvm.MethodName)) ∈ UL := ul_2 204 rfl rfl
set_option maxRecDepth 20000 in
theorem tw_2_205 : (Jvm.Cond.methodLink "SideBySide" (68 : Nat) ({ cls := "SideBySide$CourtText", name := "statements", desc := "(LSideBySide$Shelf;)I" } : Jvm.MethodName)) ∈ UL := ul_2 205 rfl rfl
set_option maxRecDepth 20000 in
theorem tw_2_206 : (Jvm.Cond.static ({ cls := "SideBySide$CourtText", name := "statements", desc := "(LSideBySide$Shelf;)I" } : Jvm.MethodName)) ∈ UL := ul_2 206 rfl rfl
set_option maxRecDepth 20000 in
theorem tw_2_207 : (Jvm.Cond.code ({ cls := "SideBySide$CourtText", name := "statements", desc := "(LSideBySide$Shelf;)I" } : Jvm.MethodName) prog_4_method_4_code (3 : Nat) (Option.some Jvm.ClassFile.FieldType.int)) ∈ UL := ul_2 207 rfl rfl
set_option maxRecDepth 20000 in
theorem tw_2_208 : (Jvm.Cond.methodLink "SideBySideLaw" (26 : Nat) ({ cls := "SideBySide", name := "stroke", desc := "(II)I" } : Jvm.MethodName)) ∈ UL := ul_2 208 rfl rfl
set_option maxRecDepth 20000 in
theorem tw_2_209 : (Jvm.Cond.instanceMethod ({ cls := "SideBySide", name := "stroke", desc := "(II)I" } : Jvm.MethodName)) ∈ UL := ul_2 209 rfl rfl
set_option maxRecDepth 20000 in
theorem tw_2_210 : (Jvm.Cond.selects "SideBySide" ({ cls := "SideBySide", name := "stroke", desc := "(II)I" } : Jvm.MethodName) ({ cls := "SideBySide", name := "stroke", desc := "(II)I" } : Jvm.MethodName)) ∈ UL := ul_2 210 rfl rfl
set_option maxRecDepth 20000 in
theorem tw_2_211 : (Jvm.Cond.code ({ cls := "SideBySide", name := "stroke", desc := "(II)I" } : Jvm.MethodName) prog_1_method_3_code (4 : Nat) (Option.some Jvm.ClassFile.FieldType.int)) ∈ UL := ul_2 211 rfl rfl
set_option maxRecDepth 20000 in
theorem tw_2_212 : (Jvm.Cond.methodLink "SideBySide" (71 : Nat) ({ cls := "SideBySide$Court", name := "knows", desc := "(I)Z" } : Jvm.MethodName)) ∈ UL := ul_2 212 rfl rfl
set_option maxRecDepth 20000 in
theorem tw_2_213 : (Jvm.Cond.methodLink "SideBySide" (78 : Nat) ({ cls := "SideBySide$Stroke", name := "kind", desc := "()I" } : Jvm.MethodName)) ∈ UL := ul_2 213 rfl rfl
set_option maxRecDepth 20000 in
theorem tw_2_214 : (Jvm.Cond.instanceMethod ({ cls := "SideBySide$Stroke", name := "kind", desc := "()I" } : Jvm.MethodName)) ∈ UL := ul_2 214 rfl rfl
set_option maxRecDepth 20000 in
theorem tw_2_215 : (Jvm.Cond.selects "SideBySide$Stroke" ({ cls := "SideBySide$Stroke", name := "kind", desc := "()I" } : Jvm.MethodName) ({ cls := "SideBySide$Stroke", name := "kind", desc := "()I" } : Jvm.MethodName)) ∈ UL := ul_2 215 rfl rfl
set_option maxRecDepth 20000 in
theorem tw_2_216 : (Jvm.Cond.sameMethod "SideBySide$Stroke" "SideBySide$Stroke" "kind" "()I") ∈ UL := ul_2 216 rfl rfl
set_option maxRecDepth 20000 in
theorem tw_2_217 : (Jvm.Cond.selects "SideBySide$Between" ({ cls := "SideBySide$Stroke", name := "kind", desc := "()I" } : Jvm.MethodName) ({ cls := "SideBySide$Between", name := "kind", desc := "()I" } : Jvm.MethodName)) ∈ UL := ul_2 217 rfl rfl
set_option maxRecDepth 20000 in
theorem tw_2_218 : (Jvm.Cond.instanceMethod ({ cls := "SideBySide$Between", name := "kind", desc := "()I" } : Jvm.MethodName)) ∈ UL := ul_2 218 rfl rfl
set_option maxRecDepth 20000 in
theorem tw_2_219 : (Jvm.Cond.code ({ cls := "SideBySide$Between", name := "kind", desc := "()I" } : Jvm.MethodName) prog_2_method_2_code (1 : Nat) (Option.some Jvm.ClassFile.FieldType.int)) ∈ UL := ul_2 219 rfl rfl
set_option maxRecDepth 20000 in
theorem tw_2_220 : (Jvm.Cond.selects "SideBySide$Drop" ({ cls := "SideBySide$Stroke", name := "kind", desc := "()I" } : Jvm.MethodName) ({ cls := "SideBySide$Drop", name := "kind", desc := "()I" } : Jvm.MethodName)) ∈ UL := ul_2 220 rfl rfl
set_option maxRecDepth 20000 in
theorem tw_2_221 : (Jvm.Cond.instanceMethod ({ cls := "SideBySide$Drop", name := "kind", desc := "()I" } : Jvm.MethodName)) ∈ UL := ul_2 221 rfl rfl
set_option maxRecDepth 20000 in
theorem tw_2_222 : (Jvm.Cond.code ({ cls := "SideBySide$Drop", name := "kind", desc := "()I" } : Jvm.MethodName) prog_5_method_2_code (1 : Nat) (Option.some Jvm.ClassFile.FieldType.int)) ∈ UL := ul_2 222 rfl rfl
set_option maxRecDepth 20000 in
theorem tw_2_223 : (Jvm.Cond.selects "SideBySide$Flick" ({ cls := "SideBySide$Stroke", name := "kind", desc := "()I" } : Jvm.MethodName) ({ cls := "SideBySide$Flick", name := "kind", desc := "()I" } : Jvm.MethodName)) ∈ UL := ul_2 223 rfl rfl
set_option maxRecDepth 20000 in
theorem tw_2_224 : (Jvm.Cond.instanceMethod ({ cls := "SideBySide$Flick", name := "kind", desc := "()I" } : Jvm.MethodName)) ∈ UL := ul_2 224 rfl rfl
set_option maxRecDepth 20000 in
theorem tw_2_225 : (Jvm.Cond.code ({ cls := "SideBySide$Flick", name := "kind", desc := "()I" } : Jvm.MethodName) prog_6_method_2_code (1 : Nat) (Option.some Jvm.ClassFile.FieldType.int)) ∈ UL := ul_2 225 rfl rfl
set_option maxRecDepth 20000 in
theorem tw_2_226 : (Jvm.Cond.selects "SideBySide$Lift" ({ cls := "SideBySide$Stroke", name := "kind", desc := "()I" } : Jvm.MethodName) ({ cls := "SideBySide$Lift", name := "kind", desc := "()I" } : Jvm.MethodName)) ∈ UL := ul_2 226 rfl rfl
set_option maxRecDepth 20000 in
theorem tw_2_227 : (Jvm.Cond.instanceMethod ({ cls := "SideBySide$Lift", name := "kind", desc := "()I" } : Jvm.MethodName)) ∈ UL := ul_2 227 rfl rfl
set_option maxRecDepth 20000 in
theorem tw_2_228 : (Jvm.Cond.code ({ cls := "SideBySide$Lift", name := "kind", desc := "()I" } : Jvm.MethodName) prog_7_method_2_code (1 : Nat) (Option.some Jvm.ClassFile.FieldType.int)) ∈ UL := ul_2 228 rfl rfl
set_option maxRecDepth 20000 in
theorem tw_2_229 : (Jvm.Cond.selects "SideBySide$Push" ({ cls := "SideBySide$Stroke", name := "kind", desc := "()I" } : Jvm.MethodName) ({ cls := "SideBySide$Push", name := "kind", desc := "()I" } : Jvm.MethodName)) ∈ UL := ul_2 229 rfl rfl
set_option maxRecDepth 20000 in
theorem tw_2_230 : (Jvm.Cond.instanceMethod ({ cls := "SideBySide$Push", name := "kind", desc := "()I" } : Jvm.MethodName)) ∈ UL := ul_2 230 rfl rfl
set_option maxRecDepth 20000 in
theorem tw_2_231 : (Jvm.Cond.code ({ cls := "SideBySide$Push", name := "kind", desc := "()I" } : Jvm.MethodName) prog_8_method_2_code (1 : Nat) (Option.some Jvm.ClassFile.FieldType.int)) ∈ UL := ul_2 231 rfl rfl
set_option maxRecDepth 20000 in
theorem tw_2_232 : (Jvm.Cond.selects "SideBySide$Smash" ({ cls := "SideBySide$Stroke", name := "kind", desc := "()I" } : Jvm.MethodName) ({ cls := "SideBySide$Smash", name := "kind", desc := "()I" } : Jvm.MethodName)) ∈ UL := ul_2 232 rfl rfl
set_option maxRecDepth 20000 in
theorem tw_2_233 : (Jvm.Cond.instanceMethod ({ cls := "SideBySide$Smash", name := "kind", desc := "()I" } : Jvm.MethodName)) ∈ UL := ul_2 233 rfl rfl
set_option maxRecDepth 20000 in
theorem tw_2_234 : (Jvm.Cond.code ({ cls := "SideBySide$Smash", name := "kind", desc := "()I" } : Jvm.MethodName) prog_10_method_2_code (1 : Nat) (Option.some Jvm.ClassFile.FieldType.int)) ∈ UL := ul_2 234 rfl rfl
set_option maxRecDepth 20000 in
theorem tw_2_235 : (Jvm.Cond.selects "SideBySide$Wander" ({ cls := "SideBySide$Stroke", name := "kind", desc := "()I" } : Jvm.MethodName) ({ cls := "SideBySide$Wander", name := "kind", desc := "()I" } : Jvm.MethodName)) ∈ UL := ul_2 235 rfl rfl
set_option maxRecDepth 20000 in
theorem tw_2_236 : (Jvm.Cond.instanceMethod ({ cls := "SideBySide$Wander", name := "kind", desc := "()I" } : Jvm.MethodName)) ∈ UL := ul_2 236 rfl rfl
set_option maxRecDepth 20000 in
theorem tw_2_237 : (Jvm.Cond.code ({ cls := "SideBySide$Wander", name := "kind", desc := "()I" } : Jvm.MethodName) prog_12_method_2_code (1 : Nat) (Option.some Jvm.ClassFile.FieldType.int)) ∈ UL := ul_2 237 rfl rfl
set_option maxRecDepth 20000 in
theorem tw_2_238 : (Jvm.Cond.code ({ cls := "SideBySide$Stroke", name := "kind", desc := "()I" } : Jvm.MethodName) prog_11_method_3_code (1 : Nat) (Option.some Jvm.ClassFile.FieldType.int)) ∈ UL := ul_2 238 rfl rfl
set_option maxRecDepth 20000 in
theorem tw_2_239 : (Jvm.Cond.methodLink "SideBySide" (85 : Nat) ({ cls := "SideBySide$Stroke", name := "effort", desc := "()I" } : Jvm.MethodName)) ∈ UL := ul_2 239 rfl rfl
set_option maxRecDepth 20000 in
theorem tw_3_0 : (Jvm.Cond.methodLink "SideBySide" (88 : Nat) ({ cls := "SideBySide$Stroke", name := "timeTo", desc := "(I)I" } : Jvm.MethodName)) ∈ UL := ul_3 0 rfl rfl
set_option maxRecDepth 20000 in
theorem tw_3_1 : (Jvm.Cond.methodLink "SideBySideLaw" (31 : Nat) ({ cls := "SideBySide", name := "player", desc := "(II)I" } : Jvm.MethodName)) ∈ UL := ul_3 1 rfl rfl
set_option maxRecDepth 20000 in
theorem tw_3_2 : (Jvm.Cond.instanceMethod ({ cls := "SideBySide", name := "player", desc := "(II)I" } : Jvm.MethodName)) ∈ UL := ul_3 2 rfl rfl
set_option maxRecDepth 20000 in
theorem tw_3_3 : (Jvm.Cond.selects "SideBySide" ({ cls := "SideBySide", name := "player", desc := "(II)I" } : Jvm.MethodName) ({ cls := "SideBySide", name := "player", desc := "(II)I" } : Jvm.MethodName)) ∈ UL := ul_3 3 rfl rfl
set_option maxRecDepth 20000 in
theorem tw_3_4 : (Jvm.Cond.code ({ cls := "SideBySide", name := "player", desc := "(II)I" } : Jvm.MethodName) prog_1_method_4_code (3 : Nat) (Option.some Jvm.ClassFile.FieldType.int)) ∈ UL := ul_3 4 rfl rfl
set_option maxRecDepth 20000 in
theorem tw_3_5 : (Jvm.Cond.methodLink "SideBySide" (108 : Nat) ({ cls := "SideBySide$Court", name := "stepsIn", desc := "(III)I" } : Jvm.MethodName)) ∈ UL := ul_3 5 rfl rfl
set_option maxRecDepth 20000 in
theorem tw_3_6 : (Jvm.Cond.methodLink "SideBySideLaw" (35 : Nat) ({ cls := "SideBySide", name := "side", desc := "(II)I" } : Jvm.MethodName)) ∈ UL := ul_3 6 rfl rfl
set_option maxRecDepth 20000 in
theorem tw_3_7 : (Jvm.Cond.instanceMethod ({ cls := "SideBySide", name := "side", desc := "(II)I" } : Jvm.MethodName)) ∈ UL := ul_3 7 rfl rfl
set_option maxRecDepth 20000 in
theorem tw_3_8 : (Jvm.Cond.selects "SideBySide" ({ cls := "SideBySide", name := "side", desc := "(II)I" } : Jvm.MethodName) ({ cls := "SideBySide", name := "side", desc := "(II)I" } : Jvm.MethodName)) ∈ UL := ul_3 8 rfl rfl
set_option maxRecDepth 20000 in
theorem tw_3_9 : (Jvm.Cond.code ({ cls := "SideBySide", name := "side", desc := "(II)I" } : Jvm.MethodName) prog_1_method_5_code (3 : Nat) (Option.some Jvm.ClassFile.FieldType.int)) ∈ UL := ul_3 9 rfl rfl
set_option maxRecDepth 20000 in
theorem tw_3_10 : (Jvm.Cond.methodLink "SideBySide" (121 : Nat) ({ cls := "SideBySide$Court", name := "outOfPlace", desc := "(I)I" } : Jvm.MethodName)) ∈ UL := ul_3 10 rfl rfl
set_option maxRecDepth 20000 in
theorem tw_3_11 : (Jvm.Cond.instanceMethod ({ cls := "SideBySide$Court", name := "outOfPlace", desc := "(I)I" } : Jvm.MethodName)) ∈ UL := ul_3 11 rfl rfl
set_option maxRecDepth 20000 in
theorem tw_3_12 : (Jvm.Cond.selects "SideBySide$Court" ({ cls := "SideBySide$Court", name := "outOfPlace", desc := "(I)I" } : Jvm.MethodName) ({ cls := "SideBySide$Court", name := "outOfPlace", desc := "(I)I" } : Jvm.MethodName)) ∈ UL := ul_3 12 rfl rfl
set_option maxRecDepth 20000 in
theorem tw_3_13 : (Jvm.Cond.code ({ cls := "SideBySide$Court", name := "outOfPlace", desc := "(I)I" } : Jvm.MethodName) prog_3_method_31_code (3 : Nat) (Option.some Jvm.ClassFile.FieldType.int)) ∈ UL := ul_3 13 rfl rfl
set_option maxRecDepth 20000 in
theorem tw_3_14 : (Jvm.Cond.methodLink "SideBySideLaw" (39 : Nat) ({ cls := "SideBySide", name := "learns", desc := "(I)I" } : Jvm.MethodName)) ∈ UL := ul_3 14 rfl rfl
set_option maxRecDepth 20000 in
theorem tw_3_15 : (Jvm.Cond.instanceMethod ({ cls := "SideBySide", name := "learns", desc := "(I)I" } : Jvm.MethodName)) ∈ UL := ul_3 15 rfl rfl
set_option maxRecDepth 20000 in
theorem tw_3_16 : (Jvm.Cond.selects "SideBySide" ({ cls := "SideBySide", name := "learns", desc := "(I)I" } : Jvm.MethodName) ({ cls := "SideBySide", name := "learns", desc := "(I)I" } : Jvm.MethodName)) ∈ UL := ul_3 16 rfl rfl
set_option maxRecDepth 20000 in
theorem tw_3_17 : (Jvm.Cond.code ({ cls := "SideBySide", name := "learns", desc := "(I)I" } : Jvm.MethodName) prog_1_method_6_code (3 : Nat) (Option.some Jvm.ClassFile.FieldType.int)) ∈ UL := ul_3 17 rfl rfl
set_option maxRecDepth 20000 in
theorem tw_3_18 : (Jvm.Cond.methodLink "SideBySide" (128 : Nat) ({ cls := "SideBySide$Court", name := "learn", desc := "(LSideBySide$Stroke;)I" } : Jvm.MethodName)) ∈ UL := ul_3 18 rfl rfl
set_option maxRecDepth 20000 in
theorem tw_3_19 : (Jvm.Cond.methodLink "SideBySideLaw" (43 : Nat) ({ cls := "SideBySide", name := "stands", desc := "(III)I" } : Jvm.MethodName)) ∈ UL := ul_3 19 rfl rfl
set_option maxRecDepth 20000 in
theorem tw_3_20 : (Jvm.Cond.instanceMethod ({ cls := "SideBySide", name := "stands", desc := "(III)I" } : Jvm.MethodName)) ∈ UL := ul_3 20 rfl rfl
set_option maxRecDepth 20000 in
theorem tw_3_21 : (Jvm.Cond.selects "SideBySide" ({ cls := "SideBySide", name := "stands", desc := "(III)I" } : Jvm.MethodName) ({ cls := "SideBySide", name := "stands", desc := "(III)I" } : Jvm.MethodName)) ∈ UL := ul_3 21 rfl rfl
set_option maxRecDepth 20000 in
theorem tw_3_22 : (Jvm.Cond.code ({ cls := "SideBySide", name := "stands", desc := "(III)I" } : Jvm.MethodName) prog_1_method_7_code (4 : Nat) (Option.some Jvm.ClassFile.FieldType.int)) ∈ UL := ul_3 22 rfl rfl
set_option maxRecDepth 20000 in
theorem tw_3_23 : (Jvm.Cond.methodLink "SideBySide" (132 : Nat) ({ cls := "SideBySide$Court", name := "standAt", desc := "(III)I" } : Jvm.MethodName)) ∈ UL := ul_3 23 rfl rfl
set_option maxRecDepth 20000 in
theorem tw_3_24 : (Jvm.Cond.methodLink "SideBySideLaw" (48 : Nat) ({ cls := "SideBySide", name := "tires", desc := "(II)I" } : Jvm.MethodName)) ∈ UL := ul_3 24 rfl rfl
set_option maxRecDepth 20000 in
theorem tw_3_25 : (Jvm.Cond.instanceMethod ({ cls := "SideBySide", name := "tires", desc := "(II)I" } : Jvm.MethodName)) ∈ UL := ul_3 25 rfl rfl
set_option maxRecDepth 20000 in
theorem tw_3_26 : (Jvm.Cond.selects "SideBySide" ({ cls := "SideBySide", name := "tires", desc := "(II)I" } : Jvm.MethodName) ({ cls := "SideBySide", name := "tires", desc := "(II)I" } : Jvm.MethodName)) ∈ UL := ul_3 26 rfl rfl
set_option maxRecDepth 20000 in
theorem tw_3_27 : (Jvm.Cond.code ({ cls := "SideBySide", name := "tires", desc := "(II)I" } : Jvm.MethodName) prog_1_method_8_code (3 : Nat) (Option.some Jvm.ClassFile.FieldType.int)) ∈ UL := ul_3 27 rfl rfl
set_option maxRecDepth 20000 in
theorem tw_3_28 : (Jvm.Cond.methodLink "SideBySide" (135 : Nat) ({ cls := "SideBySide$Court", name := "setTired", desc := "(II)I" } : Jvm.MethodName)) ∈ UL := ul_3 28 rfl rfl
set_option maxRecDepth 20000 in
theorem tw_3_29 : (Jvm.Cond.methodLink "SideBySideLaw" (52 : Nat) ({ cls := "SideBySide", name := "hands", desc := "(I)I" } : Jvm.MethodName)) ∈ UL := ul_3 29 rfl rfl
set_option maxRecDepth 20000 in
theorem tw_3_30 : (Jvm.Cond.instanceMethod ({ cls := "SideBySide", name := "hands", desc := "(I)I" } : Jvm.MethodName)) ∈ UL := ul_3 30 rfl rfl
set_option maxRecDepth 20000 in
theorem tw_3_31 : (Jvm.Cond.selects "SideBySide" ({ cls := "SideBySide", name := "hands", desc := "(I)I" } : Jvm.MethodName) ({ cls := "SideBySide", name := "hands", desc := "(I)I" } : Jvm.MethodName)) ∈ UL := ul_3 31 rfl rfl
set_option maxRecDepth 20000 in
theorem tw_3_32 : (Jvm.Cond.code ({ cls := "SideBySide", name := "hands", desc := "(I)I" } : Jvm.MethodName) prog_1_method_9_code (2 : Nat) (Option.some Jvm.ClassFile.FieldType.int)) ∈ UL := ul_3 32 rfl rfl
set_option maxRecDepth 20000 in
theorem tw_3_33 : (Jvm.Cond.methodLink "SideBySide" (139 : Nat) ({ cls := "SideBySide$Court", name := "switchHand", desc := "(I)I" } : Jvm.MethodName)) ∈ UL := ul_3 33 rfl rfl
set_option maxRecDepth 20000 in
theorem tw_3_34 : (Jvm.Cond.methodLink "SideBySideLaw" (56 : Nat) ({ cls := "SideBySide", name := "forms", desc := "(III)I" } : Jvm.MethodName)) ∈ UL := ul_3 34 rfl rfl
set_option maxRecDepth 20000 in
theorem tw_3_35 : (Jvm.Cond.instanceMethod ({ cls := "SideBySide", name := "forms", desc := "(III)I" } : Jvm.MethodName)) ∈ UL := ul_3 35 rfl rfl
set_option maxRecDepth 20000 in
theorem tw_3_36 : (Jvm.Cond.selects "SideBySide" ({ cls := "SideBySide", name := "forms", desc := "(III)I" } : Jvm.MethodName) ({ cls := "SideBySide", name := "forms", desc := "(III)I" } : Jvm.MethodName)) ∈ UL := ul_3 36 rfl rfl
set_option maxRecDepth 20000 in
theorem tw_3_37 : (Jvm.Cond.code ({ cls := "SideBySide", name := "forms", desc := "(III)I" } : Jvm.MethodName) prog_1_method_10_code (4 : Nat) (Option.some Jvm.ClassFile.FieldType.int)) ∈ UL := ul_3 37 rfl rfl
set_option maxRecDepth 20000 in
theorem tw_3_38 : (Jvm.Cond.methodLink "SideBySide" (142 : Nat) ({ cls := "SideBySide$Court", name := "adopt", desc := "(III)I" } : Jvm.MethodName)) ∈ UL := ul_3 38 rfl rfl
set_option maxRecDepth 20000 in
theorem tw_3_39 : (Jvm.Cond.methodLink "SideBySideLaw" (60 : Nat) ({ cls := "SideBySide", name := "blows", desc := "(I)I" } : Jvm.MethodName)) ∈ UL := ul_3 39 rfl rfl
set_option maxRecDepth 20000 in
theorem tw_3_40 : (Jvm.Cond.instanceMethod ({ cls := "SideBySide", name := "blows", desc := "(I)I" } : Jvm.MethodName)) ∈ UL := ul_3 40 rfl rfl
set_option maxRecDepth 20000 in
theorem tw_3_41 : (Jvm.Cond.selects "SideBySide" ({ cls := "SideBySide", name := "blows", desc := "(I)I" } : Jvm.MethodName) ({ cls := "SideBySide", name := "blows", desc := "(I)I" } : Jvm.MethodName)) ∈ UL := ul_3 41 rfl rfl
set_option maxRecDepth 20000 in
theorem tw_3_42 : (Jvm.Cond.code ({ cls := "SideBySide", name := "blows", desc := "(I)I" } : Jvm.MethodName) prog_1_method_11_code (2 : Nat) (Option.some Jvm.ClassFile.FieldType.int)) ∈ UL := ul_3 42 rfl rfl
set_option maxRecDepth 20000 in
theorem tw_3_43 : (Jvm.Cond.methodLink "SideBySide" (145 : Nat) ({ cls := "SideBySide$Court", name := "setDraught", desc := "(I)I" } : Jvm.MethodName)) ∈ UL := ul_3 43 rfl rfl
set_option maxRecDepth 20000 in
theorem tw_3_44 : (Jvm.Cond.methodLink "SideBySideLaw" (64 : Nat) ({ cls := "SideBySide", name := "hit", desc := "(II)I" } : Jvm.MethodName)) ∈ UL := ul_3 44 rfl rfl
set_option maxRecDepth 20000 in
theorem tw_3_45 : (Jvm.Cond.instanceMethod ({ cls := "SideBySide", name := "hit", desc := "(II)I" } : Jvm.MethodName)) ∈ UL := ul_3 45 rfl rfl
set_option maxRecDepth 20000 in
theorem tw_3_46 : (Jvm.Cond.selects "SideBySide" ({ cls := "SideBySide", name := "hit", desc := "(II)I" } : Jvm.MethodName) ({ cls := "SideBySide", name := "hit", desc := "(II)I" } : Jvm.MethodName)) ∈ UL := ul_3 46 rfl rfl
set_option maxRecDepth 20000 in
theorem tw_3_47 : (Jvm.Cond.code ({ cls := "SideBySide", name := "hit", desc := "(II)I" } : Jvm.MethodName) prog_1_method_12_code (4 : Nat) (Option.some Jvm.ClassFile.FieldType.int)) ∈ UL := ul_3 47 rfl rfl
set_option maxRecDepth 20000 in
theorem tw_3_48 : (Jvm.Cond.methodLink "SideBySide" (148 : Nat) ({ cls := "SideBySide$Court", name := "hitRefusal", desc := "(II)I" } : Jvm.MethodName)) ∈ UL := ul_3 48 rfl rfl
set_option maxRecDepth 20000 in
theorem tw_3_49 : (Jvm.Cond.methodLink "SideBySide" (151 : Nat) ({ cls := "SideBySide$Court", name := "strike", desc := "(II)Z" } : Jvm.MethodName)) ∈ UL := ul_3 49 rfl rfl
set_option maxRecDepth 20000 in
theorem tw_3_50 : (Jvm.Cond.methodLink "SideBySideLaw" (68 : Nat) ({ cls := "SideBySide", name := "whose", desc := "(II)I" } : Jvm.MethodName)) ∈ UL := ul_3 50 rfl rfl
set_option maxRecDepth 20000 in
theorem tw_3_51 : (Jvm.Cond.instanceMethod ({ cls := "SideBySide", name := "whose", desc := "(II)I" } : Jvm.MethodName)) ∈ UL := ul_3 51 rfl rfl
set_option maxRecDepth 20000 in
theorem tw_3_52 : (Jvm.Cond.selects "SideBySide" ({ cls := "SideBySide", name := "whose", desc := "(II)I" } : Jvm.MethodName) ({ cls := "SideBySide", name := "whose", desc := "(II)I" } : Jvm.MethodName)) ∈ UL := ul_3 52 rfl rfl
set_option maxRecDepth 20000 in
theorem tw_3_53 : (Jvm.Cond.code ({ cls := "SideBySide", name := "whose", desc := "(II)I" } : Jvm.MethodName) prog_1_method_13_code (3 : Nat) (Option.some Jvm.ClassFile.FieldType.int)) ∈ UL := ul_3 53 rfl rfl
set_option maxRecDepth 20000 in
theorem tw_3_54 : (Jvm.Cond.methodLink "SideBySide" (157 : Nat) ({ cls := "SideBySide$Court", name := "isHit", desc := "(II)Z" } : Jvm.MethodName)) ∈ UL := ul_3 54 rfl rfl
set_option maxRecDepth 20000 in
theorem tw_3_55 : (Jvm.Cond.methodLink "SideBySide" (160 : Nat) ({ cls := "SideBySide$Court", name := "landing", desc := "(II)I" } : Jvm.MethodName)) ∈ UL := ul_3 55 rfl rfl
set_option maxRecDepth 20000 in
theorem tw_3_56 : (Jvm.Cond.instanceMethod ({ cls := "SideBySide$Court", name := "landing", desc := "(II)I" } : Jvm.MethodName)) ∈ UL := ul_3 56 rfl rfl
set_option maxRecDepth 20000 in
theorem tw_3_57 : (Jvm.Cond.selects "SideBySide$Court" ({ cls := "SideBySide$Court", name := "landing", desc := "(II)I" } : Jvm.MethodName) ({ cls := "SideBySide$Court", name := "landing", desc := "(II)I" } : Jvm.MethodName)) ∈ UL := ul_3 57 rfl rfl
set_option maxRecDepth 20000 in
theorem tw_3_58 : (Jvm.Cond.code ({ cls := "SideBySide$Court", name := "landing", desc := "(II)I" } : Jvm.MethodName) prog_3_method_15_code (3 : Nat) (Option.some Jvm.ClassFile.FieldType.int)) ∈ UL := ul_3 58 rfl rfl
set_option maxRecDepth 20000 in
theorem tw_3_59 : (Jvm.Cond.methodLink "SideBySide" (163 : Nat) ({ cls := "SideBySide$Court", name := "takerOf", desc := "(I)I" } : Jvm.MethodName)) ∈ UL := ul_3 59 rfl rfl
set_option maxRecDepth 20000 in
theorem tw_3_60 : (Jvm.Cond.instanceMethod ({ cls := "SideBySide$Court", name := "takerOf", desc := "(I)I" } : Jvm.MethodName)) ∈ UL := ul_3 60 rfl rfl
set_option maxRecDepth 20000 in
theorem tw_3_61 : (Jvm.Cond.selects "SideBySide$Court" ({ cls := "SideBySide$Court", name := "takerOf", desc := "(I)I" } : Jvm.MethodName) ({ cls := "SideBySide$Court", name := "takerOf", desc := "(I)I" } : Jvm.MethodName)) ∈ UL := ul_3 61 rfl rfl
set_option maxRecDepth 20000 in
theorem tw_3_62 : (Jvm.Cond.code ({ cls := "SideBySide$Court", name := "takerOf", desc := "(I)I" } : Jvm.MethodName) prog_3_method_19_code (2 : Nat) (Option.some Jvm.ClassFile.FieldType.int)) ∈ UL := ul_3 62 rfl rfl
set_option maxRecDepth 20000 in
theorem tw_3_63 : (Jvm.Cond.methodLink "SideBySideLaw" (72 : Nat) ({ cls := "SideBySide", name := "wins", desc := "(II)I" } : Jvm.MethodName)) ∈ UL := ul_3 63 rfl rfl
set_option maxRecDepth 20000 in
theorem tw_3_64 : (Jvm.Cond.instanceMethod ({ cls := "SideBySide", name := "wins", desc := "(II)I" } : Jvm.MethodName)) ∈ UL := ul_3 64 rfl rfl
set_option maxRecDepth 20000 in
theorem tw_3_65 : (Jvm.Cond.selects "SideBySide" ({ cls := "SideBySide", name := "wins", desc := "(II)I" } : Jvm.MethodName) ({ cls := "SideBySide", name := "wins", desc := "(II)I" } : Jvm.MethodName)) ∈ UL := ul_3 65 rfl rfl
set_option maxRecDepth 20000 in
theorem tw_3_66 : (Jvm.Cond.code ({ cls := "SideBySide", name := "wins", desc := "(II)I" } : Jvm.MethodName) prog_1_method_14_code (3 : Nat) (Option.some Jvm.ClassFile.FieldType.int)) ∈ UL := ul_3 66 rfl rfl
set_option maxRecDepth 20000 in
theorem tw_3_67 : (Jvm.Cond.methodLink "SideBySide" (166 : Nat) ({ cls := "SideBySide$Court", name := "scores", desc := "(II)Z" } : Jvm.MethodName)) ∈ UL := ul_3 67 rfl rfl
set_option maxRecDepth 20000 in
theorem tw_3_68 : (Jvm.Cond.instanceMethod ({ cls := "SideBySide$Court", name := "scores", desc := "(II)Z" } : Jvm.MethodName)) ∈ UL := ul_3 68 rfl rfl
set_option maxRecDepth 20000 in
theorem tw_3_69 : (Jvm.Cond.selects "SideBySide$Court" ({ cls := "SideBySide$Court", name := "scores", desc := "(II)Z" } : Jvm.MethodName) ({ cls := "SideBySide$Court", name := "scores", desc := "(II)Z" } : Jvm.MethodName)) ∈ UL := ul_3 69 rfl rfl
set_option maxRecDepth 20000 in
theorem tw_3_70 : (Jvm.Cond.code ({ cls := "SideBySide$Court", name := "scores", desc := "(II)Z" } : Jvm.MethodName) prog_3_method_22_code (4 : Nat) (Option.some Jvm.ClassFile.FieldType.boolean)) ∈ UL := ul_3 70 rfl rfl
set_option maxRecDepth 20000 in
theorem tw_3_71 : (Jvm.Cond.methodLink "SideBySide$Court" (101 : Nat) ({ cls := "SideBySide$Court", name := "landing", desc := "(II)I" } : Jvm.MethodName)) ∈ UL := ul_3 71 rfl rfl
set_option maxRecDepth 20000 in
theorem tw_3_72 : (Jvm.Cond.methodLink "SideBySideLaw" (76 : Nat) ({ cls := "SideBySide", name := "falls", desc := "(II)I" } : Jvm.MethodName)) ∈ UL := ul_3 72 rfl rfl
set_option maxRecDepth 20000 in
theorem tw_3_73 : (Jvm.Cond.instanceMethod ({ cls := "SideBySide", name := "falls", desc := "(II)I" } : Jvm.MethodName)) ∈ UL := ul_3 73 rfl rfl
set_option maxRecDepth 20000 in
theorem tw_3_74 : (Jvm.Cond.selects "SideBySide" ({ cls := "SideBySide", name := "falls", desc := "(II)I" } : Jvm.MethodName) ({ cls := "SideBySide", name := "falls", desc := "(II)I" } : Jvm.MethodName)) ∈ UL := ul_3 74 rfl rfl
set_option maxRecDepth 20000 in
theorem tw_3_75 : (Jvm.Cond.code ({ cls := "SideBySide", name := "falls", desc := "(II)I" } : Jvm.MethodName) prog_1_method_15_code (3 : Nat) (Option.some Jvm.ClassFile.FieldType.int)) ∈ UL := ul_3 75 rfl rfl
set_option maxRecDepth 20000 in
theorem tw_3_76 : (Jvm.Cond.methodLink "SideBySideLaw" (80 : Nat) ({ cls := "SideBySide", name := "open", desc := "(I)I" } : Jvm.MethodName)) ∈ UL := ul_3 76 rfl rfl
set_option maxRecDepth 20000 in
theorem tw_3_77 : (Jvm.Cond.instanceMethod ({ cls := "SideBySide", name := "open", desc := "(I)I" } : Jvm.MethodName)) ∈ UL := ul_3 77 rfl rfl
set_option maxRecDepth 20000 in
theorem tw_3_78 : (Jvm.Cond.selects "SideBySide" ({ cls := "SideBySide", name := "open", desc := "(I)I" } : Jvm.MethodName) ({ cls := "SideBySide", name := "open", desc := "(I)I" } : Jvm.MethodName)) ∈ UL := ul_3 78 rfl rfl
set_option maxRecDepth 20000 in
theorem tw_3_79 : (Jvm.Cond.code ({ cls := "SideBySide", name := "open", desc := "(I)I" } : Jvm.MethodName) prog_1_method_16_code (4 : Nat) (Option.some Jvm.ClassFile.FieldType.int)) ∈ UL := ul_3 79 rfl rfl
set_option maxRecDepth 20000 in
theorem tw_3_80 : (Jvm.Cond.methodLink "SideBySideLaw" (84 : Nat) ({ cls := "SideBySide", name := "forced", desc := "()I" } : Jvm.MethodName)) ∈ UL := ul_3 80 rfl rfl
set_option maxRecDepth 20000 in
theorem tw_3_81 : (Jvm.Cond.instanceMethod ({ cls := "SideBySide", name := "forced", desc := "()I" } : Jvm.MethodName)) ∈ UL := ul_3 81 rfl rfl
set_option maxRecDepth 20000 in
theorem tw_3_82 : (Jvm.Cond.selects "SideBySide" ({ cls := "SideBySide", name := "forced", desc := "()I" } : Jvm.MethodName) ({ cls := "SideBySide", name := "forced", desc := "()I" } : Jvm.MethodName)) ∈ UL := ul_3 82 rfl rfl
set_option maxRecDepth 20000 in
theorem tw_3_83 : (Jvm.Cond.code ({ cls := "SideBySide", name := "forced", desc := "()I" } : Jvm.MethodName) prog_1_method_17_code (1 : Nat) (Option.some Jvm.ClassFile.FieldType.int)) ∈ UL := ul_3 83 rfl rfl
set_option maxRecDepth 20000 in
theorem tw_3_84 : (Jvm.Cond.methodLink "SideBySide" (169 : Nat) ({ cls := "SideBySide$Court", name := "firstScoring", desc := "()I" } : Jvm.MethodName)) ∈ UL := ul_3 84 rfl rfl
set_option maxRecDepth 20000 in
theorem tw_3_85 : (Jvm.Cond.instanceMethod ({ cls := "SideBySide$Court", name := "firstScoring", desc := "()I" } : Jvm.MethodName)) ∈ UL := ul_3 85 rfl rfl
set_option maxRecDepth 20000 in
theorem tw_3_86 : (Jvm.Cond.selects "SideBySide$Court" ({ cls := "SideBySide$Court", name := "firstScoring", desc := "()I" } : Jvm.MethodName) ({ cls := "SideBySide$Court", name := "firstScoring", desc := "()I" } : Jvm.MethodName)) ∈ UL := ul_3 86 rfl rfl
set_option maxRecDepth 20000 in
theorem tw_3_87 : (Jvm.Cond.code ({ cls := "SideBySide$Court", name := "firstScoring", desc := "()I" } : Jvm.MethodName) prog_3_method_24_code (3 : Nat) (Option.some Jvm.ClassFile.FieldType.int)) ∈ UL := ul_3 87 rfl rfl
set_option maxRecDepth 20000 in
theorem tw_3_88 : (Jvm.Cond.methodLink "SideBySide$Court" (116 : Nat) ({ cls := "SideBySide$Court", name := "scores", desc := "(II)Z" } : Jvm.MethodName)) ∈ UL := ul_3 88 rfl rfl
set_option maxRecDepth 20000 in
theorem tw_3_89 : (Jvm.Cond.methodLink "SideBySideLaw" (89 : Nat) ({ cls := "SideBySide", name := "farthest", desc := "(II)I" } : Jvm.MethodName)) ∈ UL := ul_3 89 rfl rfl
set_option maxRecDepth 20000 in
theorem tw_3_90 : (Jvm.Cond.instanceMethod ({ cls := "SideBySide", name := "farthest", desc := "(II)I" } : Jvm.MethodName)) ∈ UL := ul_3 90 rfl rfl
set_option maxRecDepth 20000 in
theorem tw_3_91 : (Jvm.Cond.selects "SideBySide" ({ cls := "SideBySide", name := "farthest", desc := "(II)I" } : Jvm.MethodName) ({ cls := "SideBySide", name := "farthest", desc := "(II)I" } : Jvm.MethodName)) ∈ UL := ul_3 91 rfl rfl
set_option maxRecDepth 20000 in
theorem tw_3_92 : (Jvm.Cond.code ({ cls := "SideBySide", name := "farthest", desc := "(II)I" } : Jvm.MethodName) prog_1_method_18_code (7 : Nat) (Option.some Jvm.ClassFile.FieldType.int)) ∈ UL := ul_3 92 rfl rfl
set_option maxRecDepth 20000 in
theorem tw_3_93 : (Jvm.Cond.methodLink "SideBySide" (172 : Nat) ({ cls := "SideBySide$Court", name := "wayLed", desc := "(I)I" } : Jvm.MethodName)) ∈ UL := ul_3 93 rfl rfl
set_option maxRecDepth 20000 in
theorem tw_3_94 : (Jvm.Cond.instanceMethod ({ cls := "SideBySide$Court", name := "wayLed", desc := "(I)I" } : Jvm.MethodName)) ∈ UL := ul_3 94 rfl rfl
set_option maxRecDepth 20000 in
theorem tw_3_95 : (Jvm.Cond.selects "SideBySide$Court" ({ cls := "SideBySide$Court", name := "wayLed", desc := "(I)I" } : Jvm.MethodName) ({ cls := "SideBySide$Court", name := "wayLed", desc := "(I)I" } : Jvm.MethodName)) ∈ UL := ul_3 95 rfl rfl
set_option maxRecDepth 20000 in
theorem tw_3_96 : (Jvm.Cond.code ({ cls := "SideBySide$Court", name := "wayLed", desc := "(I)I" } : Jvm.MethodName) prog_3_method_21_code (3 : Nat) (Option.some Jvm.ClassFile.FieldType.int)) ∈ UL := ul_3 96 rfl rfl
set_option maxRecDepth 20000 in
theorem tw_3_97 : (Jvm.Cond.methodLink "SideBySide$Court" (98 : Nat) ({ cls := "SideBySide$Court", name := "takerOf", desc := "(I)I" } : Jvm.MethodName)) ∈ UL := ul_3 97 rfl rfl
set_option maxRecDepth 20000 in
theorem tw_3_98 : (Jvm.Cond.methodLink "SideBySideLaw" (93 : Nat) ({ cls := "SideBySide", name := "atWhom", desc := "(I)I" } : Jvm.MethodName)) ∈ UL := ul_3 98 rfl rfl
set_option maxRecDepth 20000 in
theorem tw_3_99 : (Jvm.Cond.instanceMethod ({ cls := "SideBySide", name := "atWhom", desc := "(I)I" } : Jvm.MethodName)) ∈ UL := ul_3 99 rfl rfl
set_option maxRecDepth 20000 in
theorem tw_3_100 : (Jvm.Cond.selects "SideBySide" ({ cls := "SideBySide", name := "atWhom", desc := "(I)I" } : Jvm.MethodName) ({ cls := "SideBySide", name := "atWhom", desc := "(I)I" } : Jvm.MethodName)) ∈ UL := ul_3 100 rfl rfl
set_option maxRecDepth 20000 in
theorem tw_3_101 : (Jvm.Cond.code ({ cls := "SideBySide", name := "atWhom", desc := "(I)I" } : Jvm.MethodName) prog_1_method_19_code (7 : Nat) (Option.some Jvm.ClassFile.FieldType.int)) ∈ UL := ul_3 101 rfl rfl
set_option maxRecDepth 20000 in
theorem tw_3_102 : (Jvm.Cond.methodLink "SideBySideLaw" (97 : Nat) ({ cls := "SideBySide", name := "fewest", desc := "(I)I" } : Jvm.MethodName)) ∈ UL := ul_3 102 rfl rfl
set_option maxRecDepth 20000 in
theorem tw_3_103 : (Jvm.Cond.instanceMethod ({ cls := "SideBySide", name := "fewest", desc := "(I)I" } : Jvm.MethodName)) ∈ UL := ul_3 103 rfl rfl
set_option maxRecDepth 20000 in
theorem tw_3_104 : (Jvm.Cond.selects "SideBySide" ({ cls := "SideBySide", name := "fewest", desc := "(I)I" } : Jvm.MethodName) ({ cls := "SideBySide", name := "fewest", desc := "(I)I" } : Jvm.MethodName)) ∈ UL := ul_3 104 rfl rfl
set_option maxRecDepth 20000 in
theorem tw_3_105 : (Jvm.Cond.code ({ cls := "SideBySide", name := "fewest", desc := "(I)I" } : Jvm.MethodName) prog_1_method_20_code (4 : Nat) (Option.some Jvm.ClassFile.FieldType.int)) ∈ UL := ul_3 105 rfl rfl
set_option maxRecDepth 20000 in
theorem tw_3_106 : (Jvm.Cond.methodLink "SideBySide" (178 : Nat) ({ cls := "SideBySide", name := "firstOpening", desc := "()I" } : Jvm.MethodName)) ∈ UL := ul_3 106 rfl rfl
set_option maxRecDepth 20000 in
theorem tw_3_108 : (Jvm.Cond.instanceMethod ({ cls := "SideBySide", name := "firstOpening", desc := "()I" } : Jvm.MethodName)) ∈ UL := ul_3 108 rfl rfl
set_option maxRecDepth 20000 in
theorem tw_3_109 : (Jvm.Cond.code ({ cls := "SideBySide", name := "firstOpening", desc := "()I" } : Jvm.MethodName) prog_1_method_55_code (4 : Nat) (Option.some Jvm.ClassFile.FieldType.int)) ∈ UL := ul_3 109 rfl rfl
set_option maxRecDepth 20000 in
theorem tw_3_110 : (Jvm.Cond.methodLink "SideBySideLaw" (101 : Nat) ({ cls := "SideBySide", name := "bestForm", desc := "(II)I" } : Jvm.MethodName)) ∈ UL := ul_3 110 rfl rfl
set_option maxRecDepth 20000 in
theorem tw_3_111 : (Jvm.Cond.instanceMethod ({ cls := "SideBySide", name := "bestForm", desc := "(II)I" } : Jvm.MethodName)) ∈ UL := ul_3 111 rfl rfl
set_option maxRecDepth 20000 in
theorem tw_3_112 : (Jvm.Cond.selects "SideBySide" ({ cls := "SideBySide", name := "bestForm", desc := "(II)I" } : Jvm.MethodName) ({ cls := "SideBySide", name := "bestForm", desc := "(II)I" } : Jvm.MethodName)) ∈ UL := ul_3 112 rfl rfl
set_option maxRecDepth 20000 in
theorem tw_3_113 : (Jvm.Cond.code ({ cls := "SideBySide", name := "bestForm", desc := "(II)I" } : Jvm.MethodName) prog_1_method_21_code (3 : Nat) (Option.some Jvm.ClassFile.FieldType.int)) ∈ UL := ul_3 113 rfl rfl
set_option maxRecDepth 20000 in
theorem tw_3_114 : (Jvm.Cond.methodLink "SideBySide" (181 : Nat) ({ cls := "SideBySide", name := "bestTrait", desc := "(III)I" } : Jvm.MethodName)) ∈ UL := ul_3 114 rfl rfl
set_option maxRecDepth 20000 in
theorem tw_3_116 : (Jvm.Cond.instanceMethod ({ cls := "SideBySide", name := "bestTrait", desc := "(III)I" } : Jvm.MethodName)) ∈ UL := ul_3 116 rfl rfl
set_option maxRecDepth 20000 in
theorem tw_3_117 : (Jvm.Cond.code ({ cls := "SideBySide", name := "bestTrait", desc := "(III)I" } : Jvm.MethodName) prog_1_method_56_code (8 : Nat) (Option.some Jvm.ClassFile.FieldType.int)) ∈ UL := ul_3 117 rfl rfl
set_option maxRecDepth 20000 in
theorem tw_3_118 : (Jvm.Cond.methodLink "SideBySide" (331 : Nat) ({ cls := "SideBySide$Court", name := "choices", desc := "(I)I" } : Jvm.MethodName)) ∈ UL := ul_3 118 rfl rfl
set_option maxRecDepth 20000 in
theorem tw_3_119 : (Jvm.Cond.methodLink "SideBySide" (334 : Nat) ({ cls := "SideBySide", name := "cellsHeld", desc := "(III)I" } : Jvm.MethodName)) ∈ UL := ul_3 119 rfl rfl
set_option maxRecDepth 20000 in
theorem tw_3_121 : (Jvm.Cond.instanceMethod ({ cls := "SideBySide", name := "cellsHeld", desc := "(III)I" } : Jvm.MethodName)) ∈ UL := ul_3 121 rfl rfl
set_option maxRecDepth 20000 in
theorem tw_3_122 : (Jvm.Cond.code ({ cls := "SideBySide", name := "cellsHeld", desc := "(III)I" } : Jvm.MethodName) prog_1_method_57_code (6 : Nat) (Option.some Jvm.ClassFile.FieldType.int)) ∈ UL := ul_3 122 rfl rfl
set_option maxRecDepth 20000 in
theorem tw_3_123 : (Jvm.Cond.methodLink "SideBySide" (337 : Nat) ({ cls := "SideBySide$Court", name := "giveTo", desc := "(I)V" } : Jvm.MethodName)) ∈ UL := ul_3 123 rfl rfl
set_option maxRecDepth 20000 in
theorem tw_3_124 : (Jvm.Cond.instanceMethod ({ cls := "SideBySide$Court", name := "giveTo", desc := "(I)V" } : Jvm.MethodName)) ∈ UL := ul_3 124 rfl rfl
set_option maxRecDepth 20000 in
theorem tw_3_125 : (Jvm.Cond.selects "SideBySide$Court" ({ cls := "SideBySide$Court", name := "giveTo", desc := "(I)V" } : Jvm.MethodName) ({ cls := "SideBySide$Court", name := "giveTo", desc := "(I)V" } : Jvm.MethodName)) ∈ UL := ul_3 125 rfl rfl
set_option maxRecDepth 20000 in
theorem tw_3_126 : (Jvm.Cond.code ({ cls := "SideBySide$Court", name := "giveTo", desc := "(I)V" } : Jvm.MethodName) prog_3_method_13_code (2 : Nat) (Option.none : Option Jvm.ClassFile.FieldType)) ∈ UL := ul_3 126 rfl rfl
set_option maxRecDepth 20000 in
theorem tw_3_127 : (Jvm.Cond.methodLink "SideBySide" (341 : Nat) ({ cls := "SideBySide", name := "isBroken", desc := "(I)Z" } : Jvm.MethodName)) ∈ UL := ul_3 127 rfl rfl
set_option maxRecDepth 20000 in
theorem tw_3_129 : (Jvm.Cond.instanceMethod ({ cls := "SideBySide", name := "isBroken", desc := "(I)Z" } : Jvm.MethodName)) ∈ UL := ul_3 129 rfl rfl
set_option maxRecDepth 20000 in
theorem tw_3_130 : (Jvm.Cond.code ({ cls := "SideBySide", name := "isBroken", desc := "(I)Z" } : Jvm.MethodName) prog_1_method_58_code (2 : Nat) (Option.some Jvm.ClassFile.FieldType.boolean)) ∈ UL := ul_3 130 rfl rfl
set_option maxRecDepth 20000 in
theorem tw_3_131 : (Jvm.Cond.methodLink "SideBySideLaw" (105 : Nat) ({ cls := "SideBySide", name := "bestHabit", desc := "(II)I" } : Jvm.MethodName)) ∈ UL := ul_3 131 rfl rfl
set_option maxRecDepth 20000 in
theorem tw_3_132 : (Jvm.Cond.instanceMethod ({ cls := "SideBySide", name := "bestHabit", desc := "(II)I" } : Jvm.MethodName)) ∈ UL := ul_3 132 rfl rfl
set_option maxRecDepth 20000 in
theorem tw_3_133 : (Jvm.Cond.selects "SideBySide" ({ cls := "SideBySide", name := "bestHabit", desc := "(II)I" } : Jvm.MethodName) ({ cls := "SideBySide", name := "bestHabit", desc := "(II)I" } : Jvm.MethodName)) ∈ UL := ul_3 133 rfl rfl
set_option maxRecDepth 20000 in
theorem tw_3_134 : (Jvm.Cond.code ({ cls := "SideBySide", name := "bestHabit", desc := "(II)I" } : Jvm.MethodName) prog_1_method_22_code (3 : Nat) (Option.some Jvm.ClassFile.FieldType.int)) ∈ UL := ul_3 134 rfl rfl
set_option maxRecDepth 20000 in
theorem tw_3_135 : (Jvm.Cond.methodLink "SideBySideLaw" (109 : Nat) ({ cls := "SideBySide", name := "change", desc := "(IIII)I" } : Jvm.MethodName)) ∈ UL := ul_3 135 rfl rfl
set_option maxRecDepth 20000 in
theorem tw_3_136 : (Jvm.Cond.instanceMethod ({ cls := "SideBySide", name := "change", desc := "(IIII)I" } : Jvm.MethodName)) ∈ UL := ul_3 136 rfl rfl
set_option maxRecDepth 20000 in
theorem tw_3_137 : (Jvm.Cond.selects "SideBySide" ({ cls := "SideBySide", name := "change", desc := "(IIII)I" } : Jvm.MethodName) ({ cls := "SideBySide", name := "change", desc := "(IIII)I" } : Jvm.MethodName)) ∈ UL := ul_3 137 rfl rfl
set_option maxRecDepth 20000 in
theorem tw_3_138 : (Jvm.Cond.code ({ cls := "SideBySide", name := "change", desc := "(IIII)I" } : Jvm.MethodName) prog_1_method_23_code (5 : Nat) (Option.some Jvm.ClassFile.FieldType.int)) ∈ UL := ul_3 138 rfl rfl
set_option maxRecDepth 20000 in
theorem tw_3_139 : (Jvm.Cond.methodLink "SideBySideLaw" (114 : Nat) ({ cls := "SideBySide", name := "rally", desc := "(II)I" } : Jvm.MethodName)) ∈ UL := ul_3 139 rfl rfl
set_option maxRecDepth 20000 in
theorem tw_3_140 : (Jvm.Cond.instanceMethod ({ cls := "SideBySide", name := "rally", desc := "(II)I" } : Jvm.MethodName)) ∈ UL := ul_3 140 rfl rfl
set_option maxRecDepth 20000 in
theorem tw_3_141 : (Jvm.Cond.selects "SideBySide" ({ cls := "SideBySide", name := "rally", desc := "(II)I" } : Jvm.MethodName) ({ cls := "SideBySide", name := "rally", desc := "(II)I" } : Jvm.MethodName)) ∈ UL := ul_3 141 rfl rfl
set_option maxRecDepth 20000 in
theorem tw_3_142 : (Jvm.Cond.code ({ cls := "SideBySide", name := "rally", desc := "(II)I" } : Jvm.MethodName) prog_1_method_24_code (5 : Nat) (Option.some Jvm.ClassFile.FieldType.int)) ∈ UL := ul_3 142 rfl rfl
set_option maxRecDepth 20000 in
theorem tw_3_143 : (Jvm.Cond.methodLink "SideBySide" (184 : Nat) ({ cls := "SideBySide", name := "refusalOfRally", desc := "(I)I" } : Jvm.MethodName)) ∈ UL := ul_3 143 rfl rfl
set_option maxRecDepth 20000 in
theorem tw_3_145 : (Jvm.Cond.instanceMethod ({ cls := "SideBySide", name := "refusalOfRally", desc := "(I)I" } : Jvm.MethodName)) ∈ UL := ul_3 145 rfl rfl
set_option maxRecDepth 20000 in
theorem tw_3_146 : (Jvm.Cond.code ({ cls := "SideBySide", name := "refusalOfRally", desc := "(I)I" } : Jvm.MethodName) prog_1_method_50_code (5 : Nat) (Option.some Jvm.ClassFile.FieldType.int)) ∈ UL := ul_3 146 rfl rfl
set_option maxRecDepth 20000 in
theorem tw_3_147 : (Jvm.Cond.methodLink "SideBySide" (236 : Nat) ({ cls := "SideBySide", name := "refusalOfHits", desc := "(I)I" } : Jvm.MethodName)) ∈ UL := ul_3 147 rfl rfl
set_option maxRecDepth 20000 in
theorem tw_3_149 : (Jvm.Cond.instanceMethod ({ cls := "SideBySide", name := "refusalOfHits", desc := "(I)I" } : Jvm.MethodName)) ∈ UL := ul_3 149 rfl rfl
set_option maxRecDepth 20000 in
theorem tw_3_150 : (Jvm.Cond.code ({ cls := "SideBySide", name := "refusalOfHits", desc := "(I)I" } : Jvm.MethodName) prog_1_method_49_code (3 : Nat) (Option.some Jvm.ClassFile.FieldType.int)) ∈ UL := ul_3 150 rfl rfl
set_option maxRecDepth 20000 in
theorem tw_3_151 : (Jvm.Cond.methodLink "SideBySide" (187 : Nat) ({ cls := "SideBySide", name := "playRally", desc := "(LSideBySide$Shelf;)I" } : Jvm.MethodName)) ∈ UL := ul_3 151 rfl rfl
set_option maxRecDepth 20000 in
theorem tw_3_153 : (Jvm.Cond.instanceMethod ({ cls := "SideBySide", name := "playRally", desc := "(LSideBySide$Shelf;)I" } : Jvm.MethodName)) ∈ UL := ul_3 153 rfl rfl
set_option maxRecDepth 20000 in
theorem tw_3_154 : (Jvm.Cond.code ({ cls := "SideBySide", name := "playRally", desc := "(LSideBySide$Shelf;)I" } : Jvm.MethodName) prog_1_method_52_code (3 : Nat) (Option.some Jvm.ClassFile.FieldType.int)) ∈ UL := ul_3 154 rfl rfl
set_option maxRecDepth 20000 in
theorem tw_3_155 : (Jvm.Cond.methodLink "SideBySide" (306 : Nat) ({ cls := "java/lang/System", name := "arraycopy", desc := "(Ljava/lang/Object;ILjava/lang/Object;II)V" } : Jvm.MethodName)) ∈ UL := ul_3 155 rfl rfl
set_option maxRecDepth 20000 in
theorem tw_3_156 : (Jvm.Cond.methodLink "SideBySide" (325 : Nat) ({ cls := "SideBySide", name := "addWaysGone", desc := "()V" } : Jvm.MethodName)) ∈ UL := ul_3 156 rfl rfl
set_option maxRecDepth 20000 in
theorem tw_3_158 : (Jvm.Cond.instanceMethod ({ cls := "SideBySide", name := "addWaysGone", desc := "()V" } : Jvm.MethodName)) ∈ UL := ul_3 158 rfl rfl
set_option maxRecDepth 20000 in
theorem tw_3_159 : (Jvm.Cond.code ({ cls := "SideBySide", name := "addWaysGone", desc := "()V" } : Jvm.MethodName) prog_1_method_53_code (2 : Nat) (Option.none : Option Jvm.ClassFile.FieldType)) ∈ UL := ul_3 159 rfl rfl
set_option maxRecDepth 20000 in
theorem tw_3_160 : (Jvm.Cond.methodLink "SideBySide" (328 : Nat) ({ cls := "SideBySide", name := "way", desc := "(II)I" } : Jvm.MethodName)) ∈ UL := ul_3 160 rfl rfl
set_option maxRecDepth 20000 in
theorem tw_3_161 : (Jvm.Cond.methodLink "SideBySide" (190 : Nat) ({ cls := "SideBySide", name := "sideWithMorePoints", desc := "()I" } : Jvm.MethodName)) ∈ UL := ul_3 161 rfl rfl
set_option maxRecDepth 20000 in
theorem tw_3_163 : (Jvm.Cond.instanceMethod ({ cls := "SideBySide", name := "sideWithMorePoints", desc := "()I" } : Jvm.MethodName)) ∈ UL := ul_3 163 rfl rfl
set_option maxRecDepth 20000 in
theorem tw_3_164 : (Jvm.Cond.code ({ cls := "SideBySide", name := "sideWithMorePoints", desc := "()I" } : Jvm.MethodName) prog_1_method_54_code (2 : Nat) (Option.some Jvm.ClassFile.FieldType.int)) ∈ UL := ul_3 164 rfl rfl
set_option maxRecDepth 20000 in
theorem tw_3_165 : (Jvm.Cond.methodLink "SideBySideLaw" (118 : Nat) ({ cls := "SideBySide", name := "ways", desc := "(II)I" } : Jvm.MethodName)) ∈ UL := ul_3 165 rfl rfl
set_option maxRecDepth 20000 in
theorem tw_3_166 : (Jvm.Cond.instanceMethod ({ cls := "SideBySide", name := "ways", desc := "(II)I" } : Jvm.MethodName)) ∈ UL := ul_3 166 rfl rfl
set_option maxRecDepth 20000 in
theorem tw_3_167 : (Jvm.Cond.selects "SideBySide" ({ cls := "SideBySide", name := "ways", desc := "(II)I" } : Jvm.MethodName) ({ cls := "SideBySide", name := "ways", desc := "(II)I" } : Jvm.MethodName)) ∈ UL := ul_3 167 rfl rfl
set_option maxRecDepth 20000 in
theorem tw_3_168 : (Jvm.Cond.code ({ cls := "SideBySide", name := "ways", desc := "(II)I" } : Jvm.MethodName) prog_1_method_25_code (4 : Nat) (Option.some Jvm.ClassFile.FieldType.int)) ∈ UL := ul_3 168 rfl rfl
set_option maxRecDepth 20000 in
theorem tw_3_169 : (Jvm.Cond.methodLink "SideBySideLaw" (122 : Nat) ({ cls := "SideBySide", name := "spent", desc := "(I)I" } : Jvm.MethodName)) ∈ UL := ul_3 169 rfl rfl
set_option maxRecDepth 20000 in
theorem tw_3_170 : (Jvm.Cond.instanceMethod ({ cls := "SideBySide", name := "spent", desc := "(I)I" } : Jvm.MethodName)) ∈ UL := ul_3 170 rfl rfl
set_option maxRecDepth 20000 in
theorem tw_3_171 : (Jvm.Cond.selects "SideBySide" ({ cls := "SideBySide", name := "spent", desc := "(I)I" } : Jvm.MethodName) ({ cls := "SideBySide", name := "spent", desc := "(I)I" } : Jvm.MethodName)) ∈ UL := ul_3 171 rfl rfl
set_option maxRecDepth 20000 in
theorem tw_3_172 : (Jvm.Cond.code ({ cls := "SideBySide", name := "spent", desc := "(I)I" } : Jvm.MethodName) prog_1_method_26_code (5 : Nat) (Option.some Jvm.ClassFile.FieldType.int)) ∈ UL := ul_3 172 rfl rfl
set_option maxRecDepth 20000 in
theorem tw_3_173 : (Jvm.Cond.methodLink "SideBySideLaw" (126 : Nat) ({ cls := "SideBySide", name := "whatIs", desc := "(III)I" } : Jvm.MethodName)) ∈ UL := ul_3 173 rfl rfl
set_option maxRecDepth 20000 in
theorem tw_3_174 : (Jvm.Cond.instanceMethod ({ cls := "SideBySide", name := "whatIs", desc := "(III)I" } : Jvm.MethodName)) ∈ UL := ul_3 174 rfl rfl
set_option maxRecDepth 20000 in
theorem tw_3_175 : (Jvm.Cond.selects "SideBySide" ({ cls := "SideBySide", name := "whatIs", desc := "(III)I" } : Jvm.MethodName) ({ cls := "SideBySide", name := "whatIs", desc := "(III)I" } : Jvm.MethodName)) ∈ UL := ul_3 175 rfl rfl
set_option maxRecDepth 20000 in
theorem tw_3_176 : (Jvm.Cond.code ({ cls := "SideBySide", name := "whatIs", desc := "(III)I" } : Jvm.MethodName) prog_1_method_27_code (5 : Nat) (Option.some Jvm.ClassFile.FieldType.int)) ∈ UL := ul_3 176 rfl rfl
set_option maxRecDepth 20000 in
theorem tw_3_177 : (Jvm.Cond.methodLink "SideBySide" (193 : Nat) ({ cls := "SideBySide", name := "refusalOfCells", desc := "(I)I" } : Jvm.MethodName)) ∈ UL := ul_3 177 rfl rfl
set_option maxRecDepth 20000 in
theorem tw_3_179 : (Jvm.Cond.instanceMethod ({ cls := "SideBySide", name := "refusalOfCells", desc := "(I)I" } : Jvm.MethodName)) ∈ UL := ul_3 179 rfl rfl
set_option maxRecDepth 20000 in
theorem tw_3_180 : (Jvm.Cond.code ({ cls := "SideBySide", name := "refusalOfCells", desc := "(I)I" } : Jvm.MethodName) prog_1_method_51_code (3 : Nat) (Option.some Jvm.ClassFile.FieldType.int)) ∈ UL := ul_3 180 rfl rfl
set_option maxRecDepth 20000 in
theorem tw_3_181 : (Jvm.Cond.methodLink "SideBySide" (196 : Nat) ({ cls := "SideBySide", name := "kindsThatFell", desc := "(LSideBySide$Shelf;)I" } : Jvm.MethodName)) ∈ UL := ul_3 181 rfl rfl
set_option maxRecDepth 20000 in
theorem tw_3_183 : (Jvm.Cond.instanceMethod ({ cls := "SideBySide", name := "kindsThatFell", desc := "(LSideBySide$Shelf;)I" } : Jvm.MethodName)) ∈ UL := ul_3 183 rfl rfl
set_option maxRecDepth 20000 in
theorem tw_3_184 : (Jvm.Cond.code ({ cls := "SideBySide", name := "kindsThatFell", desc := "(LSideBySide$Shelf;)I" } : Jvm.MethodName) prog_1_method_59_code (4 : Nat) (Option.some Jvm.ClassFile.FieldType.int)) ∈ UL := ul_3 184 rfl rfl
set_option maxRecDepth 20000 in
theorem tw_3_185 : (Jvm.Cond.methodLink "SideBySide" (344 : Nat) ({ cls := "SideBySide", name := "tellsFalls", desc := "(LSideBySide$Shelf;LSideBySide$Stroke;I)Z" } : Jvm.MethodName)) ∈ UL := ul_3 185 rfl rfl
set_option maxRecDepth 20000 in
theorem tw_3_186 : (Jvm.Cond.static ({ cls := "SideBySide", name := "tellsFalls", desc := "(LSideBySide$Shelf;LSideBySide$Stroke;I)Z" } : Jvm.MethodName)) ∈ UL := ul_3 186 rfl rfl
set_option maxRecDepth 20000 in
theorem tw_3_187 : (Jvm.Cond.code ({ cls := "SideBySide", name := "tellsFalls", desc := "(LSideBySide$Shelf;LSideBySide$Stroke;I)Z" } : Jvm.MethodName) prog_1_method_61_code (4 : Nat) (Option.some Jvm.ClassFile.FieldType.boolean)) ∈ UL := ul_3 187 rfl rfl
set_option maxRecDepth 20000 in
theorem tw_3_188 : (Jvm.Cond.methodLink "SideBySide" (348 : Nat) ({ cls := "SideBySide$Stroke", name := "landing", desc := "(II)I" } : Jvm.MethodName)) ∈ UL := ul_3 188 rfl rfl
set_option maxRecDepth 20000 in
theorem tw_3_189 : (Jvm.Cond.methodLink "SideBySide" (248 : Nat) ({ cls := "SideBySide$Shelf", name := "allows", desc := "(II)Z" } : Jvm.MethodName)) ∈ UL := ul_3 189 rfl rfl
set_option maxRecDepth 20000 in
theorem tw_3_190 : (Jvm.Cond.instanceMethod ({ cls := "SideBySide$Shelf", name := "allows", desc := "(II)Z" } : Jvm.MethodName)) ∈ UL := ul_3 190 rfl rfl
set_option maxRecDepth 20000 in
theorem tw_3_191 : (Jvm.Cond.selects "SideBySide$Shelf" ({ cls := "SideBySide$Shelf", name := "allows", desc := "(II)Z" } : Jvm.MethodName) ({ cls := "SideBySide$Shelf", name := "allows", desc := "(II)Z" } : Jvm.MethodName)) ∈ UL := ul_3 191 rfl rfl
set_option maxRecDepth 20000 in
theorem tw_3_192 : (Jvm.Cond.code ({ cls := "SideBySide$Shelf", name := "allows", desc := "(II)Z" } : Jvm.MethodName) prog_9_method_10_code (3 : Nat) (Option.some Jvm.ClassFile.FieldType.boolean)) ∈ UL := ul_3 192 rfl rfl
set_option maxRecDepth 20000 in
theorem tw_3_193 : (Jvm.Cond.methodLink "SideBySide$Shelf" (34 : Nat) ({ cls := "SideBySide$Shelf", name := "least", desc := "()I" } : Jvm.MethodName)) ∈ UL := ul_3 193 rfl rfl
set_option maxRecDepth 20000 in
theorem tw_3_194 : (Jvm.Cond.instanceMethod ({ cls := "SideBySide$Shelf", name := "least", desc := "()I" } : Jvm.MethodName)) ∈ UL := ul_3 194 rfl rfl
set_option maxRecDepth 20000 in
theorem tw_3_195 : (Jvm.Cond.selects "SideBySide$Shelf" ({ cls := "SideBySide$Shelf", name := "least", desc := "()I" } : Jvm.MethodName) ({ cls := "SideBySide$Shelf", name := "least", desc := "()I" } : Jvm.MethodName)) ∈ UL := ul_3 195 rfl rfl
set_option maxRecDepth 20000 in
theorem tw_3_196 : (Jvm.Cond.code ({ cls := "SideBySide$Shelf", name := "least", desc := "()I" } : Jvm.MethodName) prog_9_method_8_code (1 : Nat) (Option.some Jvm.ClassFile.FieldType.int)) ∈ UL := ul_3 196 rfl rfl
set_option maxRecDepth 20000 in
theorem tw_3_197 : (Jvm.Cond.constant "SideBySide$Shelf" (33 : Nat) (-2147483648 : Int32)) ∈ UL := ul_3 197 rfl rfl
set_option maxRecDepth 20000 in
theorem tw_3_198 : (Jvm.Cond.methodLink "SideBySide" (199 : Nat) ({ cls := "SideBySide", name := "draughtsThatBlew", desc := "(LSideBySide$Shelf;LSideBySide$Stroke;)I" } : Jvm.MethodName)) ∈ UL := ul_3 198 rfl rfl
set_option maxRecDepth 20000 in
theorem tw_3_199 : (Jvm.Cond.static ({ cls := "SideBySide", name := "draughtsThatBlew", desc := "(LSideBySide$Shelf;LSideBySide$Stroke;)I" } : Jvm.MethodName)) ∈ UL := ul_3 199 rfl rfl
set_option maxRecDepth 20000 in
theorem tw_3_200 : (Jvm.Cond.code ({ cls := "SideBySide", name := "draughtsThatBlew", desc := "(LSideBySide$Shelf;LSideBySide$Stroke;)I" } : Jvm.MethodName) prog_1_method_60_code (4 : Nat) (Option.some Jvm.ClassFile.FieldType.int)) ∈ UL := ul_3 200 rfl rfl
set_option maxRecDepth 20000 in
theorem tw_3_201 : (Jvm.Cond.methodLink "SideBySideLaw" (130 : Nat) ({ cls := "SideBySide", name := "habits", desc := "(I)I" } : Jvm.MethodName)) ∈ UL := ul_3 201 rfl rfl
set_option maxRecDepth 20000 in
theorem tw_3_202 : (Jvm.Cond.instanceMethod ({ cls := "SideBySide", name := "habits", desc := "(I)I" } : Jvm.MethodName)) ∈ UL := ul_3 202 rfl rfl
set_option maxRecDepth 20000 in
theorem tw_3_203 : (Jvm.Cond.selects "SideBySide" ({ cls := "SideBySide", name := "habits", desc := "(I)I" } : Jvm.MethodName) ({ cls := "SideBySide", name := "habits", desc := "(I)I" } : Jvm.MethodName)) ∈ UL := ul_3 203 rfl rfl
set_option maxRecDepth 20000 in
theorem tw_3_204 : (Jvm.Cond.code ({ cls := "SideBySide", name := "habits", desc := "(I)I" } : Jvm.MethodName) prog_1_method_28_code (5 : Nat) (Option.some Jvm.ClassFile.FieldType.int)) ∈ UL := ul_3 204 rfl rfl
set_option maxRecDepth 20000 in
theorem tw_3_205 : (Jvm.Cond.methodLink "SideBySide" (203 : Nat) ({ cls := "SideBySide$Court", name := "receivers", desc := "()I" } : Jvm.MethodName)) ∈ UL := ul_3 205 rfl rfl
set_option maxRecDepth 20000 in
theorem tw_3_206 : (Jvm.Cond.methodLink "SideBySide" (206 : Nat) ({ cls := "SideBySide", name := "tellsTakers", desc := "(LSideBySide$Shelf;LSideBySide$Court;)Z" } : Jvm.MethodName)) ∈ UL := ul_3 206 rfl rfl
set_option maxRecDepth 20000 in
theorem tw_3_207 : (Jvm.Cond.static ({ cls := "SideBySide", name := "tellsTakers", desc := "(LSideBySide$Shelf;LSideBySide$Court;)Z" } : Jvm.MethodName)) ∈ UL := ul_3 207 rfl rfl
set_option maxRecDepth 20000 in
theorem tw_3_208 : (Jvm.Cond.code ({ cls := "SideBySide", name := "tellsTakers", desc := "(LSideBySide$Shelf;LSideBySide$Court;)Z" } : Jvm.MethodName) prog_1_method_62_code (3 : Nat) (Option.some Jvm.ClassFile.FieldType.boolean)) ∈ UL := ul_3 208 rfl rfl
set_option maxRecDepth 20000 in
theorem tw_3_209 : (Jvm.Cond.methodLink "SideBySideLaw" (134 : Nat) ({ cls := "SideBySide", name := "two", desc := "()I" } : Jvm.MethodName)) ∈ UL := ul_3 209 rfl rfl
set_option maxRecDepth 20000 in
theorem tw_3_210 : (Jvm.Cond.instanceMethod ({ cls := "SideBySide", name := "two", desc := "()I" } : Jvm.MethodName)) ∈ UL := ul_3 210 rfl rfl
set_option maxRecDepth 20000 in
theorem tw_3_211 : (Jvm.Cond.selects "SideBySide" ({ cls := "SideBySide", name := "two", desc := "()I" } : Jvm.MethodName) ({ cls := "SideBySide", name := "two", desc := "()I" } : Jvm.MethodName)) ∈ UL := ul_3 211 rfl rfl
set_option maxRecDepth 20000 in
theorem tw_3_212 : (Jvm.Cond.code ({ cls := "SideBySide", name := "two", desc := "()I" } : Jvm.MethodName) prog_1_method_29_code (5 : Nat) (Option.some Jvm.ClassFile.FieldType.int)) ∈ UL := ul_3 212 rfl rfl
set_option maxRecDepth 20000 in
theorem tw_3_213 : (Jvm.Cond.methodLink "SideBySide" (210 : Nat) ({ cls := "SideBySide", name := "outlay", desc := "(III)I" } : Jvm.MethodName)) ∈ UL := ul_3 213 rfl rfl
set_option maxRecDepth 20000 in
theorem tw_3_215 : (Jvm.Cond.instanceMethod ({ cls := "SideBySide", name := "outlay", desc := "(III)I" } : Jvm.MethodName)) ∈ UL := ul_3 215 rfl rfl
set_option maxRecDepth 20000 in
theorem tw_3_216 : (Jvm.Cond.code ({ cls := "SideBySide", name := "outlay", desc := "(III)I" } : Jvm.MethodName) prog_1_method_63_code (6 : Nat) (Option.some Jvm.ClassFile.FieldType.int)) ∈ UL := ul_3 216 rfl rfl
set_option maxRecDepth 20000 in
theorem tw_3_217 : (Jvm.Cond.methodLink "SideBySide" (245 : Nat) ({ cls := "SideBySide", name := "endCell", desc := "(I)I" } : Jvm.MethodName)) ∈ UL := ul_3 217 rfl rfl
set_option maxRecDepth 20000 in
theorem tw_3_218 : (Jvm.Cond.static ({ cls := "SideBySide", name := "endCell", desc := "(I)I" } : Jvm.MethodName)) ∈ UL := ul_3 218 rfl rfl
set_option maxRecDepth 20000 in
theorem tw_3_219 : (Jvm.Cond.code ({ cls := "SideBySide", name := "endCell", desc := "(I)I" } : Jvm.MethodName) prog_1_method_47_code (1 : Nat) (Option.some Jvm.ClassFile.FieldType.int)) ∈ UL := ul_3 219 rfl rfl
set_option maxRecDepth 20000 in
theorem tw_3_220 : (Jvm.Cond.methodLink "SideBySideLaw" (138 : Nat) ({ cls := "SideBySide", name := "draughts", desc := "(III)J" } : Jvm.MethodName)) ∈ UL := ul_3 220 rfl rfl
set_option maxRecDepth 20000 in
theorem tw_3_221 : (Jvm.Cond.instanceMethod ({ cls := "SideBySide", name := "draughts", desc := "(III)J" } : Jvm.MethodName)) ∈ UL := ul_3 221 rfl rfl
set_option maxRecDepth 20000 in
theorem tw_3_222 : (Jvm.Cond.selects "SideBySide" ({ cls := "SideBySide", name := "draughts", desc := "(III)J" } : Jvm.MethodName) ({ cls := "SideBySide", name := "draughts", desc := "(III)J" } : Jvm.MethodName)) ∈ UL := ul_3 222 rfl rfl
set_option maxRecDepth 20000 in
theorem tw_3_223 : (Jvm.Cond.code ({ cls := "SideBySide", name := "draughts", desc := "(III)J" } : Jvm.MethodName) prog_1_method_30_code (7 : Nat) (Option.some Jvm.ClassFile.FieldType.long)) ∈ UL := ul_3 223 rfl rfl
set_option maxRecDepth 20000 in
theorem tw_3_224 : (Jvm.Cond.constantLong "SideBySide" (213 : Nat) (1000000001 : Int64)) ∈ UL := ul_3 224 rfl rfl
set_option maxRecDepth 20000 in
theorem tw_3_225 : (Jvm.Cond.methodLink "SideBySide" (215 : Nat) ({ cls := "SideBySide", name := "staysInPlay", desc := "(II)Z" } : Jvm.MethodName)) ∈ UL := ul_3 225 rfl rfl
set_option maxRecDepth 20000 in
theorem tw_3_227 : (Jvm.Cond.instanceMethod ({ cls := "SideBySide", name := "staysInPlay", desc := "(II)Z" } : Jvm.MethodName)) ∈ UL := ul_3 227 rfl rfl
set_option maxRecDepth 20000 in
theorem tw_3_228 : (Jvm.Cond.code ({ cls := "SideBySide", name := "staysInPlay", desc := "(II)Z" } : Jvm.MethodName) prog_1_method_64_code (4 : Nat) (Option.some Jvm.ClassFile.FieldType.boolean)) ∈ UL := ul_3 228 rfl rfl
set_option maxRecDepth 20000 in
theorem tw_3_229 : (Jvm.Cond.methodLink "SideBySide" (218 : Nat) ({ cls := "java/lang/Integer", name := "bitCount", desc := "(I)I" } : Jvm.MethodName)) ∈ UL := ul_3 229 rfl rfl
set_option maxRecDepth 20000 in
theorem tw_3_230 : (Jvm.Cond.static ({ cls := "java/lang/Integer", name := "bitCount", desc := "(I)I" } : Jvm.MethodName)) ∈ UL := ul_3 230 rfl rfl
set_option maxRecDepth 20000 in
theorem tw_3_231 : (Jvm.Cond.code ({ cls := "java/lang/Integer", name := "bitCount", desc := "(I)I" } : Jvm.MethodName) prog_18_method_49_code (1 : Nat) (Option.some Jvm.ClassFile.FieldType.int)) ∈ UL := ul_3 231 rfl rfl
set_option maxRecDepth 20000 in
theorem tw_3_232 : (Jvm.Cond.constant "java/lang/Integer" (265 : Nat) (1431655765 : Int32)) ∈ UL := ul_3 232 rfl rfl
set_option maxRecDepth 20000 in
theorem tw_3_233 : (Jvm.Cond.constant "java/lang/Integer" (266 : Nat) (858993459 : Int32)) ∈ UL := ul_3 233 rfl rfl
set_option maxRecDepth 20000 in
theorem tw_3_234 : (Jvm.Cond.constant "java/lang/Integer" (267 : Nat) (252645135 : Int32)) ∈ UL := ul_3 234 rfl rfl
set_option maxRecDepth 20000 in
theorem tw_3_235 : (Jvm.Cond.methodLink "SideBySide" (223 : Nat) ({ cls := "SideBySide", name := "power", desc := "(II)J" } : Jvm.MethodName)) ∈ UL := ul_3 235 rfl rfl
set_option maxRecDepth 20000 in
theorem tw_3_236 : (Jvm.Cond.static ({ cls := "SideBySide", name := "power", desc := "(II)J" } : Jvm.MethodName)) ∈ UL := ul_3 236 rfl rfl
set_option maxRecDepth 20000 in
theorem tw_3_237 : (Jvm.Cond.code ({ cls := "SideBySide", name := "power", desc := "(II)J" } : Jvm.MethodName) prog_1_method_65_code (5 : Nat) (Option.some Jvm.ClassFile.FieldType.long)) ∈ UL := ul_3 237 rfl rfl
set_option maxRecDepth 20000 in
theorem tw_3_238 : (Jvm.Cond.methodLink "SideBySide" (227 : Nat) ({ cls := "SideBySide", name := "inLeastTerms", desc := "(JJI)J" } : Jvm.MethodName)) ∈ UL := ul_3 238 rfl rfl
set_option maxRecDepth 20000 in
theorem tw_3_239 : (Jvm.Cond.static ({ cls := "SideBySide", name := "inLeastTerms", desc := "(JJI)J" } : Jvm.MethodName)) ∈ UL := ul_3 239 rfl rfl
set_option maxRecDepth 20000 in
theorem tw_4_0 : (Jvm.Cond.code ({ cls := "SideBySide", name := "inLeastTerms", desc := "(JJI)J" } : Jvm.MethodName) prog_1_method_66_code (7 : Nat) (Option.some Jvm.ClassFile.FieldType.long)) ∈ UL := ul_4 0 rfl rfl
set_option maxRecDepth 20000 in
theorem tw_4_1 : (Jvm.Cond.methodLink "SideBySide" (349 : Nat) ({ cls := "SideBySide", name := "commonDivisor", desc := "(JJ)J" } : Jvm.MethodName)) ∈ UL := ul_4 1 rfl rfl
set_option maxRecDepth 20000 in
theorem tw_4_2 : (Jvm.Cond.static ({ cls := "SideBySide", name := "commonDivisor", desc := "(JJ)J" } : Jvm.MethodName)) ∈ UL := ul_4 2 rfl rfl
set_option maxRecDepth 20000 in
theorem tw_4_3 : (Jvm.Cond.code ({ cls := "SideBySide", name := "commonDivisor", desc := "(JJ)J" } : Jvm.MethodName) prog_1_method_67_code (11 : Nat) (Option.some Jvm.ClassFile.FieldType.long)) ∈ UL := ul_4 3 rfl rfl
set_option maxRecDepth 20000 in
theorem tw_4_4 : (Jvm.Cond.methodLink "SideBySide" (353 : Nat) ({ cls := "java/lang/Math", name := "max", desc := "(JJ)J" } : Jvm.MethodName)) ∈ UL := ul_4 4 rfl rfl
set_option maxRecDepth 20000 in
theorem tw_4_5 : (Jvm.Cond.static ({ cls := "java/lang/Math", name := "max", desc := "(JJ)J" } : Jvm.MethodName)) ∈ UL := ul_4 5 rfl rfl
set_option maxRecDepth 20000 in
theorem tw_4_6 : (Jvm.Cond.code ({ cls := "java/lang/Math", name := "max", desc := "(JJ)J" } : Jvm.MethodName) prog_19_method_66_code (4 : Nat) (Option.some Jvm.ClassFile.FieldType.long)) ∈ UL := ul_4 6 rfl rfl
set_option maxRecDepth 20000 in
theorem tw_4_7 : (Jvm.Cond.methodLink "SideBySideLaw" (143 : Nat) ({ cls := "SideBySide", name := "mean", desc := "(I)J" } : Jvm.MethodName)) ∈ UL := ul_4 7 rfl rfl
set_option maxRecDepth 20000 in
theorem tw_4_8 : (Jvm.Cond.instanceMethod ({ cls := "SideBySide", name := "mean", desc := "(I)J" } : Jvm.MethodName)) ∈ UL := ul_4 8 rfl rfl
set_option maxRecDepth 20000 in
theorem tw_4_9 : (Jvm.Cond.selects "SideBySide" ({ cls := "SideBySide", name := "mean", desc := "(I)J" } : Jvm.MethodName) ({ cls := "SideBySide", name := "mean", desc := "(I)J" } : Jvm.MethodName)) ∈ UL := ul_4 9 rfl rfl
set_option maxRecDepth 20000 in
theorem tw_4_10 : (Jvm.Cond.code ({ cls := "SideBySide", name := "mean", desc := "(I)J" } : Jvm.MethodName) prog_1_method_31_code (2 : Nat) (Option.some Jvm.ClassFile.FieldType.long)) ∈ UL := ul_4 10 rfl rfl
set_option maxRecDepth 20000 in
theorem tw_4_11 : (Jvm.Cond.methodLink "SideBySide" (231 : Nat) ({ cls := "SideBySide$Court", name := "allTired", desc := "()I" } : Jvm.MethodName)) ∈ UL := ul_4 11 rfl rfl
set_option maxRecDepth 20000 in
theorem tw_4_12 : (Jvm.Cond.instanceMethod ({ cls := "SideBySide$Court", name := "allTired", desc := "()I" } : Jvm.MethodName)) ∈ UL := ul_4 12 rfl rfl
set_option maxRecDepth 20000 in
theorem tw_4_13 : (Jvm.Cond.selects "SideBySide$Court" ({ cls := "SideBySide$Court", name := "allTired", desc := "()I" } : Jvm.MethodName) ({ cls := "SideBySide$Court", name := "allTired", desc := "()I" } : Jvm.MethodName)) ∈ UL := ul_4 13 rfl rfl
set_option maxRecDepth 20000 in
theorem tw_4_14 : (Jvm.Cond.code ({ cls := "SideBySide$Court", name := "allTired", desc := "()I" } : Jvm.MethodName) prog_3_method_33_code (1 : Nat) (Option.some Jvm.ClassFile.FieldType.int)) ∈ UL := ul_4 14 rfl rfl
set_option maxRecDepth 20000 in
theorem tw_4_15 : (Jvm.Cond.constantLong "SideBySide" (234 : Nat) (4 : Int64)) ∈ UL := ul_4 15 rfl rfl
set_option maxRecDepth 20000 in
theorem tw_4_16 : (Jvm.Cond.methodLink "SideBySideLaw" (148 : Nat) ({ cls := "SideBySide", name := "forged", desc := "(I)I" } : Jvm.MethodName)) ∈ UL := ul_4 16 rfl rfl
set_option maxRecDepth 20000 in
theorem tw_4_17 : (Jvm.Cond.instanceMethod ({ cls := "SideBySide", name := "forged", desc := "(I)I" } : Jvm.MethodName)) ∈ UL := ul_4 17 rfl rfl
set_option maxRecDepth 20000 in
theorem tw_4_18 : (Jvm.Cond.selects "SideBySide" ({ cls := "SideBySide", name := "forged", desc := "(I)I" } : Jvm.MethodName) ({ cls := "SideBySide", name := "forged", desc := "(I)I" } : Jvm.MethodName)) ∈ UL := ul_4 18 rfl rfl
set_option maxRecDepth 20000 in
theorem tw_4_19 : (Jvm.Cond.code ({ cls := "SideBySide", name := "forged", desc := "(I)I" } : Jvm.MethodName) prog_1_method_32_code (6 : Nat) (Option.some Jvm.ClassFile.FieldType.int)) ∈ UL := ul_4 19 rfl rfl
set_option maxRecDepth 20000 in
theorem tw_4_20 : (Jvm.Cond.methodLink "SideBySideLaw" (152 : Nat) ({ cls := "SideBySide", name := "judge", desc := "(I)I" } : Jvm.MethodName)) ∈ UL := ul_4 20 rfl rfl
set_option maxRecDepth 20000 in
theorem tw_4_21 : (Jvm.Cond.instanceMethod ({ cls := "SideBySide", name := "judge", desc := "(I)I" } : Jvm.MethodName)) ∈ UL := ul_4 21 rfl rfl
set_option maxRecDepth 20000 in
theorem tw_4_22 : (Jvm.Cond.selects "SideBySide" ({ cls := "SideBySide", name := "judge", desc := "(I)I" } : Jvm.MethodName) ({ cls := "SideBySide", name := "judge", desc := "(I)I" } : Jvm.MethodName)) ∈ UL := ul_4 22 rfl rfl
set_option maxRecDepth 20000 in
theorem tw_4_23 : (Jvm.Cond.code ({ cls := "SideBySide", name := "judge", desc := "(I)I" } : Jvm.MethodName) prog_1_method_33_code (5 : Nat) (Option.some Jvm.ClassFile.FieldType.int)) ∈ UL := ul_4 23 rfl rfl
set_option maxRecDepth 20000 in
theorem tw_4_24 : (Jvm.Cond.methodLink "SideBySideLaw" (156 : Nat) ({ cls := "SideBySide", name := "nights", desc := "(III)I" } : Jvm.MethodName)) ∈ UL := ul_4 24 rfl rfl
set_option maxRecDepth 20000 in
theorem tw_4_25 : (Jvm.Cond.instanceMethod ({ cls := "SideBySide", name := "nights", desc := "(III)I" } : Jvm.MethodName)) ∈ UL := ul_4 25 rfl rfl
set_option maxRecDepth 20000 in
theorem tw_4_26 : (Jvm.Cond.selects "SideBySide" ({ cls := "SideBySide", name := "nights", desc := "(III)I" } : Jvm.MethodName) ({ cls := "SideBySide", name := "nights", desc := "(III)I" } : Jvm.MethodName)) ∈ UL := ul_4 26 rfl rfl
set_option maxRecDepth 20000 in
theorem tw_4_27 : (Jvm.Cond.code ({ cls := "SideBySide", name := "nights", desc := "(III)I" } : Jvm.MethodName) prog_1_method_34_code (8 : Nat) (Option.some Jvm.ClassFile.FieldType.int)) ∈ UL := ul_4 27 rfl rfl
set_option maxRecDepth 20000 in
theorem tw_4_28 : (Jvm.Cond.methodLink "SideBySide" (254 : Nat) ({ cls := "SideBySide", name := "draw", desc := "(I)I" } : Jvm.MethodName)) ∈ UL := ul_4 28 rfl rfl
set_option maxRecDepth 20000 in
theorem tw_4_30 : (Jvm.Cond.instanceMethod ({ cls := "SideBySide", name := "draw", desc := "(I)I" } : Jvm.MethodName)) ∈ UL := ul_4 30 rfl rfl
set_option maxRecDepth 20000 in
theorem tw_4_31 : (Jvm.Cond.code ({ cls := "SideBySide", name := "draw", desc := "(I)I" } : Jvm.MethodName) prog_1_method_68_code (2 : Nat) (Option.some Jvm.ClassFile.FieldType.int)) ∈ UL := ul_4 31 rfl rfl
set_option maxRecDepth 20000 in
theorem tw_4_32 : (Jvm.Cond.constant "SideBySide" (356 : Nat) (1103515245 : Int32)) ∈ UL := ul_4 32 rfl rfl
set_option maxRecDepth 20000 in
theorem tw_4_33 : (Jvm.Cond.constant "SideBySide" (357 : Nat) (2147483647 : Int32)) ∈ UL := ul_4 33 rfl rfl
set_option maxRecDepth 20000 in
theorem tw_4_34 : (Jvm.Cond.constant "SideBySide" (358 : Nat) (65536 : Int32)) ∈ UL := ul_4 34 rfl rfl
set_option maxRecDepth 20000 in
theorem tw_4_35 : (Jvm.Cond.methodLink "SideBySideLaw" (160 : Nat) ({ cls := "SideBySide", name := "image", desc := "()I" } : Jvm.MethodName)) ∈ UL := ul_4 35 rfl rfl
set_option maxRecDepth 20000 in
theorem tw_4_36 : (Jvm.Cond.instanceMethod ({ cls := "SideBySide", name := "image", desc := "()I" } : Jvm.MethodName)) ∈ UL := ul_4 36 rfl rfl
set_option maxRecDepth 20000 in
theorem tw_4_37 : (Jvm.Cond.selects "SideBySide" ({ cls := "SideBySide", name := "image", desc := "()I" } : Jvm.MethodName) ({ cls := "SideBySide", name := "image", desc := "()I" } : Jvm.MethodName)) ∈ UL := ul_4 37 rfl rfl
set_option maxRecDepth 20000 in
theorem tw_4_38 : (Jvm.Cond.code ({ cls := "SideBySide", name := "image", desc := "()I" } : Jvm.MethodName) prog_1_method_35_code (1 : Nat) (Option.some Jvm.ClassFile.FieldType.int)) ∈ UL := ul_4 38 rfl rfl
set_option maxRecDepth 20000 in
theorem tw_4_39 : (Jvm.Cond.methodLink "SideBySideLaw" (164 : Nat) ({ cls := "SideBySide", name := "restore", desc := "()I" } : Jvm.MethodName)) ∈ UL := ul_4 39 rfl rfl
set_option maxRecDepth 20000 in
theorem tw_4_40 : (Jvm.Cond.instanceMethod ({ cls := "SideBySide", name := "restore", desc := "()I" } : Jvm.MethodName)) ∈ UL := ul_4 40 rfl rfl
set_option maxRecDepth 20000 in
theorem tw_4_41 : (Jvm.Cond.selects "SideBySide" ({ cls := "SideBySide", name := "restore", desc := "()I" } : Jvm.MethodName) ({ cls := "SideBySide", name := "restore", desc := "()I" } : Jvm.MethodName)) ∈ UL := ul_4 41 rfl rfl
set_option maxRecDepth 20000 in
theorem tw_4_42 : (Jvm.Cond.code ({ cls := "SideBySide", name := "restore", desc := "()I" } : Jvm.MethodName) prog_1_method_36_code (1 : Nat) (Option.some Jvm.ClassFile.FieldType.int)) ∈ UL := ul_4 42 rfl rfl
set_option maxRecDepth 20000 in
theorem tw_4_43 : (Jvm.Cond.methodLink "SideBySideLaw" (168 : Nat) ({ cls := "SideBySide", name := "count", desc := "(I)I" } : Jvm.MethodName)) ∈ UL := ul_4 43 rfl rfl
set_option maxRecDepth 20000 in
theorem tw_4_44 : (Jvm.Cond.instanceMethod ({ cls := "SideBySide", name := "count", desc := "(I)I" } : Jvm.MethodName)) ∈ UL := ul_4 44 rfl rfl
set_option maxRecDepth 20000 in
theorem tw_4_45 : (Jvm.Cond.selects "SideBySide" ({ cls := "SideBySide", name := "count", desc := "(I)I" } : Jvm.MethodName) ({ cls := "SideBySide", name := "count", desc := "(I)I" } : Jvm.MethodName)) ∈ UL := ul_4 45 rfl rfl
set_option maxRecDepth 20000 in
theorem tw_4_46 : (Jvm.Cond.code ({ cls := "SideBySide", name := "count", desc := "(I)I" } : Jvm.MethodName) prog_1_method_37_code (2 : Nat) (Option.some Jvm.ClassFile.FieldType.int)) ∈ UL := ul_4 46 rfl rfl
set_option maxRecDepth 20000 in
theorem tw_4_47 : (Jvm.Cond.methodLink "SideBySide" (267 : Nat) ({ cls := "SideBySide$Court", name := "leftOnes", desc := "()I" } : Jvm.MethodName)) ∈ UL := ul_4 47 rfl rfl
set_option maxRecDepth 20000 in
theorem tw_4_48 : (Jvm.Cond.instanceMethod ({ cls := "SideBySide$Court", name := "leftOnes", desc := "()I" } : Jvm.MethodName)) ∈ UL := ul_4 48 rfl rfl
set_option maxRecDepth 20000 in
theorem tw_4_49 : (Jvm.Cond.selects "SideBySide$Court" ({ cls := "SideBySide$Court", name := "leftOnes", desc := "()I" } : Jvm.MethodName) ({ cls := "SideBySide$Court", name := "leftOnes", desc := "()I" } : Jvm.MethodName)) ∈ UL := ul_4 49 rfl rfl
set_option maxRecDepth 20000 in
theorem tw_4_50 : (Jvm.Cond.code ({ cls := "SideBySide$Court", name := "leftOnes", desc := "()I" } : Jvm.MethodName) prog_3_method_34_code (1 : Nat) (Option.some Jvm.ClassFile.FieldType.int)) ∈ UL := ul_4 50 rfl rfl
set_option maxRecDepth 20000 in
theorem tw_4_51 : (Jvm.Cond.methodLink "SideBySideLaw" (172 : Nat) ({ cls := "SideBySide", name := "keep", desc := "(IIII)I" } : Jvm.MethodName)) ∈ UL := ul_4 51 rfl rfl
set_option maxRecDepth 20000 in
theorem tw_4_52 : (Jvm.Cond.instanceMethod ({ cls := "SideBySide", name := "keep", desc := "(IIII)I" } : Jvm.MethodName)) ∈ UL := ul_4 52 rfl rfl
set_option maxRecDepth 20000 in
theorem tw_4_53 : (Jvm.Cond.selects "SideBySide" ({ cls := "SideBySide", name := "keep", desc := "(IIII)I" } : Jvm.MethodName) ({ cls := "SideBySide", name := "keep", desc := "(IIII)I" } : Jvm.MethodName)) ∈ UL := ul_4 53 rfl rfl
set_option maxRecDepth 20000 in
theorem tw_4_54 : (Jvm.Cond.code ({ cls := "SideBySide", name := "keep", desc := "(IIII)I" } : Jvm.MethodName) prog_1_method_38_code (5 : Nat) (Option.some Jvm.ClassFile.FieldType.int)) ∈ UL := ul_4 54 rfl rfl
set_option maxRecDepth 20000 in
theorem tw_4_55 : (Jvm.Cond.methodLink "SideBySide" (270 : Nat) ({ cls := "SideBySide$Shelf", name := "clear", desc := "()V" } : Jvm.MethodName)) ∈ UL := ul_4 55 rfl rfl
set_option maxRecDepth 20000 in
theorem tw_4_56 : (Jvm.Cond.instanceMethod ({ cls := "SideBySide$Shelf", name := "clear", desc := "()V" } : Jvm.MethodName)) ∈ UL := ul_4 56 rfl rfl
set_option maxRecDepth 20000 in
theorem tw_4_57 : (Jvm.Cond.selects "SideBySide$Shelf" ({ cls := "SideBySide$Shelf", name := "clear", desc := "()V" } : Jvm.MethodName) ({ cls := "SideBySide$Shelf", name := "clear", desc := "()V" } : Jvm.MethodName)) ∈ UL := ul_4 57 rfl rfl
set_option maxRecDepth 20000 in
theorem tw_4_58 : (Jvm.Cond.code ({ cls := "SideBySide$Shelf", name := "clear", desc := "()V" } : Jvm.MethodName) prog_9_method_4_code (1 : Nat) (Option.none : Option Jvm.ClassFile.FieldType)) ∈ UL := ul_4 58 rfl rfl
set_option maxRecDepth 20000 in
theorem tw_4_59 : (Jvm.Cond.methodLink "SideBySide" (273 : Nat) ({ cls := "SideBySide$Shelf", name := "hold", desc := "(LSideBySide$Stroke;)V" } : Jvm.MethodName)) ∈ UL := ul_4 59 rfl rfl
set_option maxRecDepth 20000 in
theorem tw_4_60 : (Jvm.Cond.instanceMethod ({ cls := "SideBySide$Shelf", name := "hold", desc := "(LSideBySide$Stroke;)V" } : Jvm.MethodName)) ∈ UL := ul_4 60 rfl rfl
set_option maxRecDepth 20000 in
theorem tw_4_61 : (Jvm.Cond.selects "SideBySide$Shelf" ({ cls := "SideBySide$Shelf", name := "hold", desc := "(LSideBySide$Stroke;)V" } : Jvm.MethodName) ({ cls := "SideBySide$Shelf", name := "hold", desc := "(LSideBySide$Stroke;)V" } : Jvm.MethodName)) ∈ UL := ul_4 61 rfl rfl
set_option maxRecDepth 20000 in
theorem tw_4_62 : (Jvm.Cond.code ({ cls := "SideBySide$Shelf", name := "hold", desc := "(LSideBySide$Stroke;)V" } : Jvm.MethodName) prog_9_method_5_code (2 : Nat) (Option.none : Option Jvm.ClassFile.FieldType)) ∈ UL := ul_4 62 rfl rfl
set_option maxRecDepth 20000 in
theorem tw_4_63 : (Jvm.Cond.methodLink "SideBySide$Shelf" (27 : Nat) ({ cls := "SideBySide$Shelf", name := "clear", desc := "()V" } : Jvm.MethodName)) ∈ UL := ul_4 63 rfl rfl
set_option maxRecDepth 20000 in
theorem tw_4_64 : (Jvm.Cond.methodLink "SideBySideLaw" (176 : Nat) ({ cls := "SideBySide", name := "row", desc := "(III)I" } : Jvm.MethodName)) ∈ UL := ul_4 64 rfl rfl
set_option maxRecDepth 20000 in
theorem tw_4_65 : (Jvm.Cond.instanceMethod ({ cls := "SideBySide", name := "row", desc := "(III)I" } : Jvm.MethodName)) ∈ UL := ul_4 65 rfl rfl
set_option maxRecDepth 20000 in
theorem tw_4_66 : (Jvm.Cond.selects "SideBySide" ({ cls := "SideBySide", name := "row", desc := "(III)I" } : Jvm.MethodName) ({ cls := "SideBySide", name := "row", desc := "(III)I" } : Jvm.MethodName)) ∈ UL := ul_4 66 rfl rfl
set_option maxRecDepth 20000 in
theorem tw_4_67 : (Jvm.Cond.code ({ cls := "SideBySide", name := "row", desc := "(III)I" } : Jvm.MethodName) prog_1_method_39_code (4 : Nat) (Option.some Jvm.ClassFile.FieldType.int)) ∈ UL := ul_4 67 rfl rfl
set_option maxRecDepth 20000 in
theorem tw_4_68 : (Jvm.Cond.methodLink "SideBySide" (277 : Nat) ({ cls := "SideBySide$Shelf", name := "lay", desc := "(II)V" } : Jvm.MethodName)) ∈ UL := ul_4 68 rfl rfl
set_option maxRecDepth 20000 in
theorem tw_4_69 : (Jvm.Cond.instanceMethod ({ cls := "SideBySide$Shelf", name := "lay", desc := "(II)V" } : Jvm.MethodName)) ∈ UL := ul_4 69 rfl rfl
set_option maxRecDepth 20000 in
theorem tw_4_70 : (Jvm.Cond.selects "SideBySide$Shelf" ({ cls := "SideBySide$Shelf", name := "lay", desc := "(II)V" } : Jvm.MethodName) ({ cls := "SideBySide$Shelf", name := "lay", desc := "(II)V" } : Jvm.MethodName)) ∈ UL := ul_4 70 rfl rfl
set_option maxRecDepth 20000 in
theorem tw_4_71 : (Jvm.Cond.code ({ cls := "SideBySide$Shelf", name := "lay", desc := "(II)V" } : Jvm.MethodName) prog_9_method_6_code (4 : Nat) (Option.none : Option Jvm.ClassFile.FieldType)) ∈ UL := ul_4 71 rfl rfl
set_option maxRecDepth 20000 in
theorem tw_4_72 : (Jvm.Cond.methodLink "SideBySideLaw" (180 : Nat) ({ cls := "SideBySide", name := "put", desc := "(III)I" } : Jvm.MethodName)) ∈ UL := ul_4 72 rfl rfl
set_option maxRecDepth 20000 in
theorem tw_4_73 : (Jvm.Cond.instanceMethod ({ cls := "SideBySide", name := "put", desc := "(III)I" } : Jvm.MethodName)) ∈ UL := ul_4 73 rfl rfl
set_option maxRecDepth 20000 in
theorem tw_4_74 : (Jvm.Cond.selects "SideBySide" ({ cls := "SideBySide", name := "put", desc := "(III)I" } : Jvm.MethodName) ({ cls := "SideBySide", name := "put", desc := "(III)I" } : Jvm.MethodName)) ∈ UL := ul_4 74 rfl rfl
set_option maxRecDepth 20000 in
theorem tw_4_75 : (Jvm.Cond.code ({ cls := "SideBySide", name := "put", desc := "(III)I" } : Jvm.MethodName) prog_1_method_40_code (6 : Nat) (Option.some Jvm.ClassFile.FieldType.int)) ∈ UL := ul_4 75 rfl rfl
set_option maxRecDepth 20000 in
theorem tw_4_76 : (Jvm.Cond.methodLink "SideBySide" (281 : Nat) ({ cls := "SideBySide$Shelf", name := "fitted", desc := "(I)I" } : Jvm.MethodName)) ∈ UL := ul_4 76 rfl rfl
set_option maxRecDepth 20000 in
theorem tw_4_77 : (Jvm.Cond.instanceMethod ({ cls := "SideBySide$Shelf", name := "fitted", desc := "(I)I" } : Jvm.MethodName)) ∈ UL := ul_4 77 rfl rfl
set_option maxRecDepth 20000 in
theorem tw_4_78 : (Jvm.Cond.selects "SideBySide$Shelf" ({ cls := "SideBySide$Shelf", name := "fitted", desc := "(I)I" } : Jvm.MethodName) ({ cls := "SideBySide$Shelf", name := "fitted", desc := "(I)I" } : Jvm.MethodName)) ∈ UL := ul_4 78 rfl rfl
set_option maxRecDepth 20000 in
theorem tw_4_79 : (Jvm.Cond.code ({ cls := "SideBySide$Shelf", name := "fitted", desc := "(I)I" } : Jvm.MethodName) prog_9_method_7_code (2 : Nat) (Option.some Jvm.ClassFile.FieldType.int)) ∈ UL := ul_4 79 rfl rfl
set_option maxRecDepth 20000 in
theorem tw_4_80 : (Jvm.Cond.methodLink "SideBySideLaw" (193 : Nat) ({ cls := "SideBySide", name := "copy", desc := "(IIIII)I" } : Jvm.MethodName)) ∈ UL := ul_4 80 rfl rfl
set_option maxRecDepth 20000 in
theorem tw_4_81 : (Jvm.Cond.instanceMethod ({ cls := "SideBySide", name := "copy", desc := "(IIIII)I" } : Jvm.MethodName)) ∈ UL := ul_4 81 rfl rfl
set_option maxRecDepth 20000 in
theorem tw_4_82 : (Jvm.Cond.selects "SideBySide" ({ cls := "SideBySide", name := "copy", desc := "(IIIII)I" } : Jvm.MethodName) ({ cls := "SideBySide", name := "copy", desc := "(IIIII)I" } : Jvm.MethodName)) ∈ UL := ul_4 82 rfl rfl
set_option maxRecDepth 20000 in
theorem tw_4_83 : (Jvm.Cond.code ({ cls := "SideBySide", name := "copy", desc := "(IIIII)I" } : Jvm.MethodName) prog_1_method_42_code (8 : Nat) (Option.some Jvm.ClassFile.FieldType.int)) ∈ UL := ul_4 83 rfl rfl
set_option maxRecDepth 20000 in
theorem tw_4_84 : (Jvm.Cond.methodLink "SideBySide" (303 : Nat) ({ cls := "SideBySide$Shelf", name := "spans", desc := "(II)Z" } : Jvm.MethodName)) ∈ UL := ul_4 84 rfl rfl
set_option maxRecDepth 20000 in
theorem tw_4_85 : (Jvm.Cond.instanceMethod ({ cls := "SideBySide$Shelf", name := "spans", desc := "(II)Z" } : Jvm.MethodName)) ∈ UL := ul_4 85 rfl rfl
set_option maxRecDepth 20000 in
theorem tw_4_86 : (Jvm.Cond.selects "SideBySide$Shelf" ({ cls := "SideBySide$Shelf", name := "spans", desc := "(II)Z" } : Jvm.MethodName) ({ cls := "SideBySide$Shelf", name := "spans", desc := "(II)Z" } : Jvm.MethodName)) ∈ UL := ul_4 86 rfl rfl
set_option maxRecDepth 20000 in
theorem tw_4_87 : (Jvm.Cond.code ({ cls := "SideBySide$Shelf", name := "spans", desc := "(II)Z" } : Jvm.MethodName) prog_9_method_9_code (3 : Nat) (Option.some Jvm.ClassFile.FieldType.boolean)) ∈ UL := ul_4 87 rfl rfl
set_option maxRecDepth 20000 in
theorem tw_4_88 : (Jvm.Cond.methodLink "SideBySideLaw" (198 : Nat) ({ cls := "SideBySide", name := "cost", desc := "(I)I" } : Jvm.MethodName)) ∈ UL := ul_4 88 rfl rfl
set_option maxRecDepth 20000 in
theorem tw_4_89 : (Jvm.Cond.instanceMethod ({ cls := "SideBySide", name := "cost", desc := "(I)I" } : Jvm.MethodName)) ∈ UL := ul_4 89 rfl rfl
set_option maxRecDepth 20000 in
theorem tw_4_90 : (Jvm.Cond.selects "SideBySide" ({ cls := "SideBySide", name := "cost", desc := "(I)I" } : Jvm.MethodName) ({ cls := "SideBySide", name := "cost", desc := "(I)I" } : Jvm.MethodName)) ∈ UL := ul_4 90 rfl rfl
set_option maxRecDepth 20000 in
theorem tw_4_91 : (Jvm.Cond.code ({ cls := "SideBySide", name := "cost", desc := "(I)I" } : Jvm.MethodName) prog_1_method_43_code (3 : Nat) (Option.some Jvm.ClassFile.FieldType.int)) ∈ UL := ul_4 91 rfl rfl
set_option maxRecDepth 20000 in
theorem tw_4_92 : (Jvm.Cond.methodLink "SideBySide" (312 : Nat) ({ cls := "SideBySide$Stroke", name := "price", desc := "()I" } : Jvm.MethodName)) ∈ UL := ul_4 92 rfl rfl
set_option maxRecDepth 20000 in
theorem tw_4_93 : (Jvm.Cond.instanceMethod ({ cls := "SideBySide$Stroke", name := "price", desc := "()I" } : Jvm.MethodName)) ∈ UL := ul_4 93 rfl rfl
set_option maxRecDepth 20000 in
theorem tw_4_94 : (Jvm.Cond.selects "SideBySide$Stroke" ({ cls := "SideBySide$Stroke", name := "price", desc := "()I" } : Jvm.MethodName) ({ cls := "SideBySide$Stroke", name := "price", desc := "()I" } : Jvm.MethodName)) ∈ UL := ul_4 94 rfl rfl
set_option maxRecDepth 20000 in
theorem tw_4_95 : (Jvm.Cond.sameMethod "SideBySide$Stroke" "SideBySide$Stroke" "price" "()I") ∈ UL := ul_4 95 rfl rfl
set_option maxRecDepth 20000 in
theorem tw_4_96 : (Jvm.Cond.selects "SideBySide$Between" ({ cls := "SideBySide$Stroke", name := "price", desc := "()I" } : Jvm.MethodName) ({ cls := "SideBySide$Between", name := "price", desc := "()I" } : Jvm.MethodName)) ∈ UL := ul_4 96 rfl rfl
set_option maxRecDepth 20000 in
theorem tw_4_97 : (Jvm.Cond.instanceMethod ({ cls := "SideBySide$Between", name := "price", desc := "()I" } : Jvm.MethodName)) ∈ UL := ul_4 97 rfl rfl
set_option maxRecDepth 20000 in
theorem tw_4_98 : (Jvm.Cond.code ({ cls := "SideBySide$Between", name := "price", desc := "()I" } : Jvm.MethodName) prog_2_method_4_code (1 : Nat) (Option.some Jvm.ClassFile.FieldType.int)) ∈ UL := ul_4 98 rfl rfl
set_option maxRecDepth 20000 in
theorem tw_4_99 : (Jvm.Cond.selects "SideBySide$Drop" ({ cls := "SideBySide$Stroke", name := "price", desc := "()I" } : Jvm.MethodName) ({ cls := "SideBySide$Drop", name := "price", desc := "()I" } : Jvm.MethodName)) ∈ UL := ul_4 99 rfl rfl
set_option maxRecDepth 20000 in
theorem tw_4_100 : (Jvm.Cond.instanceMethod ({ cls := "SideBySide$Drop", name := "price", desc := "()I" } : Jvm.MethodName)) ∈ UL := ul_4 100 rfl rfl
set_option maxRecDepth 20000 in
theorem tw_4_101 : (Jvm.Cond.code ({ cls := "SideBySide$Drop", name := "price", desc := "()I" } : Jvm.MethodName) prog_5_method_5_code (1 : Nat) (Option.some Jvm.ClassFile.FieldType.int)) ∈ UL := ul_4 101 rfl rfl
set_option maxRecDepth 20000 in
theorem tw_4_102 : (Jvm.Cond.methodLink "SideBySide$Drop" (21 : Nat) ({ cls := "SideBySide$Stroke", name := "price", desc := "()I" } : Jvm.MethodName)) ∈ UL := ul_4 102 rfl rfl
set_option maxRecDepth 20000 in
theorem tw_4_103 : (Jvm.Cond.selects "SideBySide$Flick" ({ cls := "SideBySide$Stroke", name := "price", desc := "()I" } : Jvm.MethodName) ({ cls := "SideBySide$Flick", name := "price", desc := "()I" } : Jvm.MethodName)) ∈ UL := ul_4 103 rfl rfl
set_option maxRecDepth 20000 in
theorem tw_4_104 : (Jvm.Cond.instanceMethod ({ cls := "SideBySide$Flick", name := "price", desc := "()I" } : Jvm.MethodName)) ∈ UL := ul_4 104 rfl rfl
set_option maxRecDepth 20000 in
theorem tw_4_105 : (Jvm.Cond.code ({ cls := "SideBySide$Flick", name := "price", desc := "()I" } : Jvm.MethodName) prog_6_method_5_code (1 : Nat) (Option.some Jvm.ClassFile.FieldType.int)) ∈ UL := ul_4 105 rfl rfl
set_option maxRecDepth 20000 in
theorem tw_4_106 : (Jvm.Cond.methodLink "SideBySide$Flick" (15 : Nat) ({ cls := "SideBySide$Lift", name := "price", desc := "()I" } : Jvm.MethodName)) ∈ UL := ul_4 106 rfl rfl
set_option maxRecDepth 20000 in
theorem tw_4_107 : (Jvm.Cond.instanceMethod ({ cls := "SideBySide$Lift", name := "price", desc := "()I" } : Jvm.MethodName)) ∈ UL := ul_4 107 rfl rfl
set_option maxRecDepth 20000 in
theorem tw_4_108 : (Jvm.Cond.code ({ cls := "SideBySide$Lift", name := "price", desc := "()I" } : Jvm.MethodName) prog_7_method_5_code (1 : Nat) (Option.some Jvm.ClassFile.FieldType.int)) ∈ UL := ul_4 108 rfl rfl
set_option maxRecDepth 20000 in
theorem tw_4_109 : (Jvm.Cond.selects "SideBySide$Lift" ({ cls := "SideBySide$Stroke", name := "price", desc := "()I" } : Jvm.MethodName) ({ cls := "SideBySide$Lift", name := "price", desc := "()I" } : Jvm.MethodName)) ∈ UL := ul_4 109 rfl rfl
set_option maxRecDepth 20000 in
theorem tw_4_110 : (Jvm.Cond.selects "SideBySide$Push" ({ cls := "SideBySide$Stroke", name := "price", desc := "()I" } : Jvm.MethodName) ({ cls := "SideBySide$Push", name := "price", desc := "()I" } : Jvm.MethodName)) ∈ UL := ul_4 110 rfl rfl
set_option maxRecDepth 20000 in
theorem tw_4_111 : (Jvm.Cond.instanceMethod ({ cls := "SideBySide$Push", name := "price", desc := "()I" } : Jvm.MethodName)) ∈ UL := ul_4 111 rfl rfl
set_option maxRecDepth 20000 in
theorem tw_4_112 : (Jvm.Cond.code ({ cls := "SideBySide$Push", name := "price", desc := "()I" } : Jvm.MethodName) prog_8_method_4_code (1 : Nat) (Option.some Jvm.ClassFile.FieldType.int)) ∈ UL := ul_4 112 rfl rfl
set_option maxRecDepth 20000 in
theorem tw_4_113 : (Jvm.Cond.methodLink "SideBySide$Push" (11 : Nat) ({ cls := "SideBySide$Drop", name := "price", desc := "()I" } : Jvm.MethodName)) ∈ UL := ul_4 113 rfl rfl
set_option maxRecDepth 20000 in
theorem tw_4_114 : (Jvm.Cond.selects "SideBySide$Smash" ({ cls := "SideBySide$Stroke", name := "price", desc := "()I" } : Jvm.MethodName) ({ cls := "SideBySide$Smash", name := "price", desc := "()I" } : Jvm.MethodName)) ∈ UL := ul_4 114 rfl rfl
set_option maxRecDepth 20000 in
theorem tw_4_115 : (Jvm.Cond.instanceMethod ({ cls := "SideBySide$Smash", name := "price", desc := "()I" } : Jvm.MethodName)) ∈ UL := ul_4 115 rfl rfl
set_option maxRecDepth 20000 in
theorem tw_4_116 : (Jvm.Cond.code ({ cls := "SideBySide$Smash", name := "price", desc := "()I" } : Jvm.MethodName) prog_10_method_5_code (1 : Nat) (Option.some Jvm.ClassFile.FieldType.int)) ∈ UL := ul_4 116 rfl rfl
set_option maxRecDepth 20000 in
theorem tw_4_117 : (Jvm.Cond.selects "SideBySide$Wander" ({ cls := "SideBySide$Stroke", name := "price", desc := "()I" } : Jvm.MethodName) ({ cls := "SideBySide$Wander", name := "price", desc := "()I" } : Jvm.MethodName)) ∈ UL := ul_4 117 rfl rfl
set_option maxRecDepth 20000 in
theorem tw_4_118 : (Jvm.Cond.instanceMethod ({ cls := "SideBySide$Wander", name := "price", desc := "()I" } : Jvm.MethodName)) ∈ UL := ul_4 118 rfl rfl
set_option maxRecDepth 20000 in
theorem tw_4_119 : (Jvm.Cond.code ({ cls := "SideBySide$Wander", name := "price", desc := "()I" } : Jvm.MethodName) prog_12_method_5_code (1 : Nat) (Option.some Jvm.ClassFile.FieldType.int)) ∈ UL := ul_4 119 rfl rfl
set_option maxRecDepth 20000 in
theorem tw_4_120 : (Jvm.Cond.code ({ cls := "SideBySide$Stroke", name := "price", desc := "()I" } : Jvm.MethodName) prog_11_method_7_code (1 : Nat) (Option.some Jvm.ClassFile.FieldType.int)) ∈ UL := ul_4 120 rfl rfl
set_option maxRecDepth 20000 in
theorem tw_4_121 : (Jvm.Cond.methodLink "SideBySideLaw" (202 : Nat) ({ cls := "SideBySide", name := "toss", desc := "(I)I" } : Jvm.MethodName)) ∈ UL := ul_4 121 rfl rfl
set_option maxRecDepth 20000 in
theorem tw_4_122 : (Jvm.Cond.instanceMethod ({ cls := "SideBySide", name := "toss", desc := "(I)I" } : Jvm.MethodName)) ∈ UL := ul_4 122 rfl rfl
set_option maxRecDepth 20000 in
theorem tw_4_123 : (Jvm.Cond.selects "SideBySide" ({ cls := "SideBySide", name := "toss", desc := "(I)I" } : Jvm.MethodName) ({ cls := "SideBySide", name := "toss", desc := "(I)I" } : Jvm.MethodName)) ∈ UL := ul_4 123 rfl rfl
set_option maxRecDepth 20000 in
theorem tw_4_124 : (Jvm.Cond.codeWith ({ cls := "SideBySide", name := "toss", desc := "(I)I" } : Jvm.MethodName) prog_1_method_44_code (5 : Nat) (Option.some Jvm.ClassFile.FieldType.int) [((23 : Nat), (27 : Nat), (30 : Nat), (318 : Nat)), ((23 : Nat), (27 : Nat), (41 : Nat), (284 : Nat)), ((23 : Nat), (27 : Nat), (51 : Nat), (295 : Nat))]) ∈ UL := ul_4 124 rfl rfl
set_option maxRecDepth 20000 in
theorem tw_4_125 : (Jvm.Cond.classLink "SideBySide" (318 : Nat) "java/lang/UnsupportedOperationException") ∈ UL := ul_4 125 rfl rfl
set_option maxRecDepth 20000 in
theorem tw_4_126 : (Jvm.Cond.classLink "SideBySide" (284 : Nat) "java/lang/IllegalArgumentException") ∈ UL := ul_4 126 rfl rfl
set_option maxRecDepth 20000 in
theorem tw_4_127 : (Jvm.Cond.classLink "SideBySide" (295 : Nat) "java/lang/IllegalStateException") ∈ UL := ul_4 127 rfl rfl
set_option maxRecDepth 20000 in
theorem tw_4_128 : (Jvm.Cond.methodLink "SideBySide" (315 : Nat) ({ cls := "SideBySide$Stroke", name := "fail", desc := "()V" } : Jvm.MethodName)) ∈ UL := ul_4 128 rfl rfl
set_option maxRecDepth 20000 in
theorem tw_4_129 : (Jvm.Cond.instanceMethod ({ cls := "SideBySide$Stroke", name := "fail", desc := "()V" } : Jvm.MethodName)) ∈ UL := ul_4 129 rfl rfl
set_option maxRecDepth 20000 in
theorem tw_4_130 : (Jvm.Cond.selects "SideBySide$Stroke" ({ cls := "SideBySide$Stroke", name := "fail", desc := "()V" } : Jvm.MethodName) ({ cls := "SideBySide$Stroke", name := "fail", desc := "()V" } : Jvm.MethodName)) ∈ UL := ul_4 130 rfl rfl
set_option maxRecDepth 20000 in
theorem tw_4_131 : (Jvm.Cond.sameMethod "SideBySide$Stroke" "SideBySide$Stroke" "fail" "()V") ∈ UL := ul_4 131 rfl rfl
set_option maxRecDepth 20000 in
theorem tw_4_132 : (Jvm.Cond.selects "SideBySide$Between" ({ cls := "SideBySide$Stroke", name := "fail", desc := "()V" } : Jvm.MethodName) ({ cls := "SideBySide$Stroke", name := "fail", desc := "()V" } : Jvm.MethodName)) ∈ UL := ul_4 132 rfl rfl
set_option maxRecDepth 20000 in
theorem tw_4_133 : (Jvm.Cond.selects "SideBySide$Drop" ({ cls := "SideBySide$Stroke", name := "fail", desc := "()V" } : Jvm.MethodName) ({ cls := "SideBySide$Drop", name := "fail", desc := "()V" } : Jvm.MethodName)) ∈ UL := ul_4 133 rfl rfl
set_option maxRecDepth 20000 in
theorem tw_4_134 : (Jvm.Cond.instanceMethod ({ cls := "SideBySide$Drop", name := "fail", desc := "()V" } : Jvm.MethodName)) ∈ UL := ul_4 134 rfl rfl
set_option maxRecDepth 20000 in
theorem tw_4_135 : (Jvm.Cond.code ({ cls := "SideBySide$Drop", name := "fail", desc := "()V" } : Jvm.MethodName) prog_5_method_6_code (1 : Nat) (Option.none : Option Jvm.ClassFile.FieldType)) ∈ UL := ul_4 135 rfl rfl
set_option maxRecDepth 20000 in
theorem tw_4_136 : (Jvm.Cond.classLink "SideBySide$Drop" (24 : Nat) "java/lang/IllegalArgumentException") ∈ UL := ul_4 136 rfl rfl
set_option maxRecDepth 20000 in
theorem tw_4_137 : (Jvm.Cond.instantiable "java/lang/IllegalArgumentException" (6 : Nat)) ∈ UL := ul_4 137 rfl rfl
set_option maxRecDepth 20000 in
theorem tw_4_145 : (Jvm.Cond.selects "java/lang/IllegalArgumentException" ({ cls := "java/lang/Throwable", name := "fillInStackTrace", desc := "(I)Ljava/lang/Throwable;" } : Jvm.MethodName) ({ cls := "java/lang/Throwable", name := "fillInStackTrace", desc := "(I)Ljava/lang/Throwable;" } : Jvm.MethodName)) ∈ UL := ul_4 145 rfl rfl
set_option maxRecDepth 20000 in
theorem tw_4_146 : (Jvm.Cond.selects "java/lang/IllegalArgumentException" ({ cls := "java/lang/Throwable", name := "fillInStackTrace", desc := "()Ljava/lang/Throwable;" } : Jvm.MethodName) ({ cls := "java/lang/Throwable", name := "fillInStackTrace", desc := "()Ljava/lang/Throwable;" } : Jvm.MethodName)) ∈ UL := ul_4 146 rfl rfl
set_option maxRecDepth 20000 in
theorem tw_4_147 : (Jvm.Cond.lays "java/lang/IllegalArgumentException" "java/lang/Throwable" "cause" "Ljava/lang/Throwable;") ∈ UL := ul_4 147 rfl rfl
set_option maxRecDepth 20000 in
theorem tw_4_148 : (Jvm.Cond.lays "java/lang/Throwable" "java/lang/Throwable" "cause" "Ljava/lang/Throwable;") ∈ UL := ul_4 148 rfl rfl
set_option maxRecDepth 20000 in
theorem tw_4_149 : (Jvm.Cond.lays "java/lang/IllegalArgumentException" "java/lang/Throwable" "stackTrace" "[Ljava/lang/StackTraceElement;") ∈ UL := ul_4 149 rfl rfl
set_option maxRecDepth 20000 in
theorem tw_4_150 : (Jvm.Cond.lays "java/lang/Throwable" "java/lang/Throwable" "stackTrace" "[Ljava/lang/StackTraceElement;") ∈ UL := ul_4 150 rfl rfl
set_option maxRecDepth 20000 in
theorem tw_4_151 : (Jvm.Cond.lays "java/lang/IllegalArgumentException" "java/lang/Throwable" "suppressedExceptions" "Ljava/util/List;") ∈ UL := ul_4 151 rfl rfl
set_option maxRecDepth 20000 in
theorem tw_4_152 : (Jvm.Cond.lays "java/lang/Throwable" "java/lang/Throwable" "suppressedExceptions" "Ljava/util/List;") ∈ UL := ul_4 152 rfl rfl
set_option maxRecDepth 20000 in
theorem tw_4_153 : (Jvm.Cond.lays "java/lang/IllegalArgumentException" "java/lang/Throwable" "detailMessage" "Ljava/lang/String;") ∈ UL := ul_4 153 rfl rfl
set_option maxRecDepth 20000 in
theorem tw_4_154 : (Jvm.Cond.lays "java/lang/Throwable" "java/lang/Throwable" "detailMessage" "Ljava/lang/String;") ∈ UL := ul_4 154 rfl rfl
set_option maxRecDepth 20000 in
theorem tw_4_155 : (Jvm.Cond.lays "java/lang/IllegalArgumentException" "java/lang/Throwable" "backtrace" "Ljava/lang/Object;") ∈ UL := ul_4 155 rfl rfl
set_option maxRecDepth 20000 in
theorem tw_4_156 : (Jvm.Cond.lays "java/lang/Throwable" "java/lang/Throwable" "backtrace" "Ljava/lang/Object;") ∈ UL := ul_4 156 rfl rfl
set_option maxRecDepth 20000 in
theorem tw_4_157 : (Jvm.Cond.fieldLink "java/lang/Throwable" (198 : Nat) "java/lang/Throwable" "backtrace" "Ljava/lang/Object;") ∈ UL := ul_4 157 rfl rfl
set_option maxRecDepth 20000 in
theorem tw_4_158 : (Jvm.Cond.superclass "java/lang/Throwable" "java/lang/Object") ∈ UL := ul_4 158 rfl rfl
set_option maxRecDepth 20000 in
theorem tw_4_159 : (Jvm.Cond.instanceMethod ({ cls := "java/lang/Throwable", name := "<init>", desc := "()V" } : Jvm.MethodName)) ∈ UL := ul_4 159 rfl rfl
set_option maxRecDepth 20000 in
theorem tw_4_160 : (Jvm.Cond.code ({ cls := "java/lang/Throwable", name := "<init>", desc := "()V" } : Jvm.MethodName) prog_23_method_1_code (1 : Nat) (Option.none : Option Jvm.ClassFile.FieldType)) ∈ UL := ul_4 160 rfl rfl
set_option maxRecDepth 20000 in
theorem tw_4_161 : (Jvm.Cond.methodLink "java/lang/Throwable" (1 : Nat) ({ cls := "java/lang/Object", name := "<init>", desc := "()V" } : Jvm.MethodName)) ∈ UL := ul_4 161 rfl rfl
set_option maxRecDepth 20000 in
theorem tw_4_162 : (Jvm.Cond.fieldLink "java/lang/Throwable" (13 : Nat) "java/lang/Throwable" "UNASSIGNED_STACK" "[Ljava/lang/StackTraceElement;") ∈ UL := ul_4 162 rfl rfl
set_option maxRecDepth 20000 in
theorem tw_4_164 : (Jvm.Cond.fieldLink "java/lang/Throwable" (20 : Nat) "java/lang/Throwable" "SUPPRESSED_SENTINEL" "Ljava/util/List;") ∈ UL := ul_4 164 rfl rfl
set_option maxRecDepth 20000 in
theorem tw_4_166 : (Jvm.Cond.methodLink "java/lang/Throwable" (27 : Nat) ({ cls := "java/lang/Throwable", name := "fillInStackTrace", desc := "()Ljava/lang/Throwable;" } : Jvm.MethodName)) ∈ UL := ul_4 166 rfl rfl
set_option maxRecDepth 20000 in
theorem tw_4_167 : (Jvm.Cond.instanceMethod ({ cls := "java/lang/Throwable", name := "fillInStackTrace", desc := "()Ljava/lang/Throwable;" } : Jvm.MethodName)) ∈ UL := ul_4 167 rfl rfl
set_option maxRecDepth 20000 in
theorem tw_4_168 : (Jvm.Cond.sameMethod "java/lang/Throwable" "java/lang/Throwable" "fillInStackTrace" "()Ljava/lang/Throwable;") ∈ UL := ul_4 168 rfl rfl
set_option maxRecDepth 20000 in
theorem tw_4_169 : (Jvm.Cond.selects "java/lang/IllegalStateException" ({ cls := "java/lang/Throwable", name := "fillInStackTrace", desc := "()Ljava/lang/Throwable;" } : Jvm.MethodName) ({ cls := "java/lang/Throwable", name := "fillInStackTrace", desc := "()Ljava/lang/Throwable;" } : Jvm.MethodName)) ∈ UL := ul_4 169 rfl rfl
set_option maxRecDepth 20000 in
theorem tw_4_170 : (Jvm.Cond.selects "java/lang/UnsupportedOperationException" ({ cls := "java/lang/Throwable", name := "fillInStackTrace", desc := "()Ljava/lang/Throwable;" } : Jvm.MethodName) ({ cls := "java/lang/Throwable", name := "fillInStackTrace", desc := "()Ljava/lang/Throwable;" } : Jvm.MethodName)) ∈ UL := ul_4 170 rfl rfl
set_option maxRecDepth 20000 in
theorem tw_4_172 : (Jvm.Cond.methodLink "java/lang/Throwable" (202 : Nat) ({ cls := "java/lang/Throwable", name := "fillInStackTrace", desc := "(I)Ljava/lang/Throwable;" } : Jvm.MethodName)) ∈ UL := ul_4 172 rfl rfl
set_option maxRecDepth 20000 in
theorem tw_4_174 : (Jvm.Cond.instanceMethod ({ cls := "java/lang/Throwable", name := "fillInStackTrace", desc := "(I)Ljava/lang/Throwable;" } : Jvm.MethodName)) ∈ UL := ul_4 174 rfl rfl
set_option maxRecDepth 20000 in
theorem tw_4_175 : (Jvm.Cond.instantiable "java/lang/Throwable" (6 : Nat)) ∈ UL := ul_4 175 rfl rfl
set_option maxRecDepth 20000 in
theorem tw_4_176 : (Jvm.Cond.native ({ cls := "java/lang/Throwable", name := "fillInStackTrace", desc := "(I)Ljava/lang/Throwable;" } : Jvm.MethodName)) ∈ UL := ul_4 176 rfl rfl
set_option maxRecDepth 20000 in
theorem tw_4_178 : (Jvm.Cond.methodLink "SideBySide$Drop" (28 : Nat) ({ cls := "java/lang/IllegalArgumentException", name := "<init>", desc := "(Ljava/lang/String;)V" } : Jvm.MethodName)) ∈ UL := ul_4 178 rfl rfl
set_option maxRecDepth 20000 in
theorem tw_4_179 : (Jvm.Cond.instanceMethod ({ cls := "java/lang/IllegalArgumentException", name := "<init>", desc := "(Ljava/lang/String;)V" } : Jvm.MethodName)) ∈ UL := ul_4 179 rfl rfl
set_option maxRecDepth 20000 in
theorem tw_4_180 : (Jvm.Cond.code ({ cls := "java/lang/IllegalArgumentException", name := "<init>", desc := "(Ljava/lang/String;)V" } : Jvm.MethodName) prog_16_method_2_code (2 : Nat) (Option.none : Option Jvm.ClassFile.FieldType)) ∈ UL := ul_4 180 rfl rfl
set_option maxRecDepth 20000 in
theorem tw_4_181 : (Jvm.Cond.methodLink "java/lang/IllegalArgumentException" (7 : Nat) ({ cls := "java/lang/RuntimeException", name := "<init>", desc := "(Ljava/lang/String;)V" } : Jvm.MethodName)) ∈ UL := ul_4 181 rfl rfl
set_option maxRecDepth 20000 in
theorem tw_4_182 : (Jvm.Cond.instanceMethod ({ cls := "java/lang/RuntimeException", name := "<init>", desc := "(Ljava/lang/String;)V" } : Jvm.MethodName)) ∈ UL := ul_4 182 rfl rfl
set_option maxRecDepth 20000 in
theorem tw_4_183 : (Jvm.Cond.code ({ cls := "java/lang/RuntimeException", name := "<init>", desc := "(Ljava/lang/String;)V" } : Jvm.MethodName) prog_20_method_2_code (2 : Nat) (Option.none : Option Jvm.ClassFile.FieldType)) ∈ UL := ul_4 183 rfl rfl
set_option maxRecDepth 20000 in
theorem tw_4_184 : (Jvm.Cond.methodLink "java/lang/RuntimeException" (7 : Nat) ({ cls := "java/lang/Exception", name := "<init>", desc := "(Ljava/lang/String;)V" } : Jvm.MethodName)) ∈ UL := ul_4 184 rfl rfl
set_option maxRecDepth 20000 in
theorem tw_4_185 : (Jvm.Cond.instanceMethod ({ cls := "java/lang/Exception", name := "<init>", desc := "(Ljava/lang/String;)V" } : Jvm.MethodName)) ∈ UL := ul_4 185 rfl rfl
set_option maxRecDepth 20000 in
theorem tw_4_186 : (Jvm.Cond.code ({ cls := "java/lang/Exception", name := "<init>", desc := "(Ljava/lang/String;)V" } : Jvm.MethodName) prog_15_method_2_code (2 : Nat) (Option.none : Option Jvm.ClassFile.FieldType)) ∈ UL := ul_4 186 rfl rfl
set_option maxRecDepth 20000 in
theorem tw_4_187 : (Jvm.Cond.methodLink "java/lang/Exception" (7 : Nat) ({ cls := "java/lang/Throwable", name := "<init>", desc := "(Ljava/lang/String;)V" } : Jvm.MethodName)) ∈ UL := ul_4 187 rfl rfl
set_option maxRecDepth 20000 in
theorem tw_4_188 : (Jvm.Cond.instanceMethod ({ cls := "java/lang/Throwable", name := "<init>", desc := "(Ljava/lang/String;)V" } : Jvm.MethodName)) ∈ UL := ul_4 188 rfl rfl
set_option maxRecDepth 20000 in
theorem tw_4_189 : (Jvm.Cond.code ({ cls := "java/lang/Throwable", name := "<init>", desc := "(Ljava/lang/String;)V" } : Jvm.MethodName) prog_23_method_2_code (2 : Nat) (Option.none : Option Jvm.ClassFile.FieldType)) ∈ UL := ul_4 189 rfl rfl
set_option maxRecDepth 20000 in
theorem tw_4_190 : (Jvm.Cond.fieldLink "java/lang/Throwable" (198 : Nat) "java/lang/Throwable" "backtrace" "Ljava/lang/Object;") ∈ UL := ul_4 190 rfl rfl
set_option maxRecDepth 20000 in
theorem tw_4_191 : (Jvm.Cond.fieldLink "java/lang/Throwable" (31 : Nat) "java/lang/Throwable" "detailMessage" "Ljava/lang/String;") ∈ UL := ul_4 191 rfl rfl
set_option maxRecDepth 20000 in
theorem tw_4_192 : (Jvm.Cond.fieldLink "java/lang/Throwable" (7 : Nat) "java/lang/Throwable" "cause" "Ljava/lang/Throwable;") ∈ UL := ul_4 192 rfl rfl
set_option maxRecDepth 20000 in
theorem tw_4_193 : (Jvm.Cond.fieldLink "java/lang/Throwable" (17 : Nat) "java/lang/Throwable" "stackTrace" "[Ljava/lang/StackTraceElement;") ∈ UL := ul_4 193 rfl rfl
set_option maxRecDepth 20000 in
theorem tw_4_194 : (Jvm.Cond.fieldLink "java/lang/Throwable" (24 : Nat) "java/lang/Throwable" "suppressedExceptions" "Ljava/util/List;") ∈ UL := ul_4 194 rfl rfl
set_option maxRecDepth 20000 in
theorem tw_4_199 : (Jvm.Cond.lays "java/lang/IllegalArgumentException" "java/lang/Throwable" "depth" "I") ∈ UL := ul_4 199 rfl rfl
set_option maxRecDepth 20000 in
theorem tw_4_202 : (Jvm.Cond.superclass "java/lang/IllegalArgumentException" "java/lang/RuntimeException") ∈ UL := ul_4 202 rfl rfl
set_option maxRecDepth 20000 in
theorem tw_4_203 : (Jvm.Cond.arrayClass Jvm.ClassFile.FieldType.byte) ∈ UL := ul_4 203 rfl rfl
set_option maxRecDepth 20000 in
theorem tw_4_204 : (Jvm.Cond.selects "SideBySide$Flick" ({ cls := "SideBySide$Stroke", name := "fail", desc := "()V" } : Jvm.MethodName) ({ cls := "SideBySide$Lift", name := "fail", desc := "()V" } : Jvm.MethodName)) ∈ UL := ul_4 204 rfl rfl
set_option maxRecDepth 20000 in
theorem tw_4_205 : (Jvm.Cond.instanceMethod ({ cls := "SideBySide$Lift", name := "fail", desc := "()V" } : Jvm.MethodName)) ∈ UL := ul_4 205 rfl rfl
set_option maxRecDepth 20000 in
theorem tw_4_206 : (Jvm.Cond.code ({ cls := "SideBySide$Lift", name := "fail", desc := "()V" } : Jvm.MethodName) prog_7_method_6_code (1 : Nat) (Option.none : Option Jvm.ClassFile.FieldType)) ∈ UL := ul_4 206 rfl rfl
set_option maxRecDepth 20000 in
theorem tw_4_207 : (Jvm.Cond.selects "SideBySide$Lift" ({ cls := "SideBySide$Stroke", name := "fail", desc := "()V" } : Jvm.MethodName) ({ cls := "SideBySide$Lift", name := "fail", desc := "()V" } : Jvm.MethodName)) ∈ UL := ul_4 207 rfl rfl
set_option maxRecDepth 20000 in
theorem tw_4_208 : (Jvm.Cond.selects "SideBySide$Push" ({ cls := "SideBySide$Stroke", name := "fail", desc := "()V" } : Jvm.MethodName) ({ cls := "SideBySide$Push", name := "fail", desc := "()V" } : Jvm.MethodName)) ∈ UL := ul_4 208 rfl rfl
set_option maxRecDepth 20000 in
theorem tw_4_209 : (Jvm.Cond.instanceMethod ({ cls := "SideBySide$Push", name := "fail", desc := "()V" } : Jvm.MethodName)) ∈ UL := ul_4 209 rfl rfl
set_option maxRecDepth 20000 in
theorem tw_4_210 : (Jvm.Cond.code ({ cls := "SideBySide$Push", name := "fail", desc := "()V" } : Jvm.MethodName) prog_8_method_5_code (1 : Nat) (Option.none : Option Jvm.ClassFile.FieldType)) ∈ UL := ul_4 210 rfl rfl
set_option maxRecDepth 20000 in
theorem tw_4_211 : (Jvm.Cond.classLink "SideBySide$Push" (21 : Nat) "java/lang/UnsupportedOperationException") ∈ UL := ul_4 211 rfl rfl
set_option maxRecDepth 20000 in
theorem tw_4_212 : (Jvm.Cond.instantiable "java/lang/UnsupportedOperationException" (6 : Nat)) ∈ UL := ul_4 212 rfl rfl
set_option maxRecDepth 20000 in
theorem tw_4_214 : (Jvm.Cond.selects "java/lang/UnsupportedOperationException" ({ cls := "java/lang/Throwable", name := "fillInStackTrace", desc := "(I)Ljava/lang/Throwable;" } : Jvm.MethodName) ({ cls := "java/lang/Throwable", name := "fillInStackTrace", desc := "(I)Ljava/lang/Throwable;" } : Jvm.MethodName)) ∈ UL := ul_4 214 rfl rfl
set_option maxRecDepth 20000 in
theorem tw_4_215 : (Jvm.Cond.lays "java/lang/UnsupportedOperationException" "java/lang/Throwable" "cause" "Ljava/lang/Throwable;") ∈ UL := ul_4 215 rfl rfl
set_option maxRecDepth 20000 in
theorem tw_4_216 : (Jvm.Cond.lays "java/lang/UnsupportedOperationException" "java/lang/Throwable" "stackTrace" "[Ljava/lang/StackTraceElement;") ∈ UL := ul_4 216 rfl rfl
set_option maxRecDepth 20000 in
theorem tw_4_217 : (Jvm.Cond.lays "java/lang/UnsupportedOperationException" "java/lang/Throwable" "suppressedExceptions" "Ljava/util/List;") ∈ UL := ul_4 217 rfl rfl
set_option maxRecDepth 20000 in
theorem tw_4_218 : (Jvm.Cond.lays "java/lang/UnsupportedOperationException" "java/lang/Throwable" "detailMessage" "Ljava/lang/String;") ∈ UL := ul_4 218 rfl rfl
set_option maxRecDepth 20000 in
theorem tw_4_219 : (Jvm.Cond.lays "java/lang/UnsupportedOperationException" "java/lang/Throwable" "backtrace" "Ljava/lang/Object;") ∈ UL := ul_4 219 rfl rfl
set_option maxRecDepth 20000 in
theorem tw_4_221 : (Jvm.Cond.methodLink "SideBySide$Push" (25 : Nat) ({ cls := "java/lang/UnsupportedOperationException", name := "<init>", desc := "(Ljava/lang/String;)V" } : Jvm.MethodName)) ∈ UL := ul_4 221 rfl rfl
set_option maxRecDepth 20000 in
theorem tw_4_222 : (Jvm.Cond.instanceMethod ({ cls := "java/lang/UnsupportedOperationException", name := "<init>", desc := "(Ljava/lang/String;)V" } : Jvm.MethodName)) ∈ UL := ul_4 222 rfl rfl
set_option maxRecDepth 20000 in
theorem tw_4_223 : (Jvm.Cond.code ({ cls := "java/lang/UnsupportedOperationException", name := "<init>", desc := "(Ljava/lang/String;)V" } : Jvm.MethodName) prog_24_method_2_code (2 : Nat) (Option.none : Option Jvm.ClassFile.FieldType)) ∈ UL := ul_4 223 rfl rfl
set_option maxRecDepth 20000 in
theorem tw_4_224 : (Jvm.Cond.methodLink "java/lang/UnsupportedOperationException" (7 : Nat) ({ cls := "java/lang/RuntimeException", name := "<init>", desc := "(Ljava/lang/String;)V" } : Jvm.MethodName)) ∈ UL := ul_4 224 rfl rfl
set_option maxRecDepth 20000 in
theorem tw_4_225 : (Jvm.Cond.lays "java/lang/UnsupportedOperationException" "java/lang/Throwable" "depth" "I") ∈ UL := ul_4 225 rfl rfl
set_option maxRecDepth 20000 in
theorem tw_4_226 : (Jvm.Cond.superclass "java/lang/UnsupportedOperationException" "java/lang/RuntimeException") ∈ UL := ul_4 226 rfl rfl
set_option maxRecDepth 20000 in
theorem tw_4_227 : (Jvm.Cond.selects "SideBySide$Smash" ({ cls := "SideBySide$Stroke", name := "fail", desc := "()V" } : Jvm.MethodName) ({ cls := "SideBySide$Stroke", name := "fail", desc := "()V" } : Jvm.MethodName)) ∈ UL := ul_4 227 rfl rfl
set_option maxRecDepth 20000 in
theorem tw_4_228 : (Jvm.Cond.selects "SideBySide$Wander" ({ cls := "SideBySide$Stroke", name := "fail", desc := "()V" } : Jvm.MethodName) ({ cls := "SideBySide$Lift", name := "fail", desc := "()V" } : Jvm.MethodName)) ∈ UL := ul_4 228 rfl rfl
set_option maxRecDepth 20000 in
theorem tw_4_229 : (Jvm.Cond.code ({ cls := "SideBySide$Stroke", name := "fail", desc := "()V" } : Jvm.MethodName) prog_11_method_8_code (1 : Nat) (Option.none : Option Jvm.ClassFile.FieldType)) ∈ UL := ul_4 229 rfl rfl
set_option maxRecDepth 20000 in
theorem tw_4_230 : (Jvm.Cond.classLink "SideBySide$Stroke" (37 : Nat) "java/lang/IllegalStateException") ∈ UL := ul_4 230 rfl rfl
set_option maxRecDepth 20000 in
theorem tw_4_231 : (Jvm.Cond.instantiable "java/lang/IllegalStateException" (6 : Nat)) ∈ UL := ul_4 231 rfl rfl
set_option maxRecDepth 20000 in
theorem tw_4_233 : (Jvm.Cond.selects "java/lang/IllegalStateException" ({ cls := "java/lang/Throwable", name := "fillInStackTrace", desc := "(I)Ljava/lang/Throwable;" } : Jvm.MethodName) ({ cls := "java/lang/Throwable", name := "fillInStackTrace", desc := "(I)Ljava/lang/Throwable;" } : Jvm.MethodName)) ∈ UL := ul_4 233 rfl rfl
set_option maxRecDepth 20000 in
theorem tw_4_234 : (Jvm.Cond.lays "java/lang/IllegalStateException" "java/lang/Throwable" "cause" "Ljava/lang/Throwable;") ∈ UL := ul_4 234 rfl rfl
set_option maxRecDepth 20000 in
theorem tw_4_235 : (Jvm.Cond.lays "java/lang/IllegalStateException" "java/lang/Throwable" "stackTrace" "[Ljava/lang/StackTraceElement;") ∈ UL := ul_4 235 rfl rfl
set_option maxRecDepth 20000 in
theorem tw_4_236 : (Jvm.Cond.lays "java/lang/IllegalStateException" "java/lang/Throwable" "suppressedExceptions" "Ljava/util/List;") ∈ UL := ul_4 236 rfl rfl
set_option maxRecDepth 20000 in
theorem tw_4_237 : (Jvm.Cond.lays "java/lang/IllegalStateException" "java/lang/Throwable" "detailMessage" "Ljava/lang/String;") ∈ UL := ul_4 237 rfl rfl
set_option maxRecDepth 20000 in
theorem tw_4_238 : (Jvm.Cond.lays "java/lang/IllegalStateException" "java/lang/Throwable" "backtrace" "Ljava/lang/Object;") ∈ UL := ul_4 238 rfl rfl
set_option maxRecDepth 20000 in
theorem tw_5_0 : (Jvm.Cond.methodLink "SideBySide$Stroke" (41 : Nat) ({ cls := "java/lang/IllegalStateException", name := "<init>", desc := "(Ljava/lang/String;)V" } : Jvm.MethodName)) ∈ UL := ul_5 0 rfl rfl
set_option maxRecDepth 20000 in
theorem tw_5_1 : (Jvm.Cond.instanceMethod ({ cls := "java/lang/IllegalStateException", name := "<init>", desc := "(Ljava/lang/String;)V" } : Jvm.MethodName)) ∈ UL := ul_5 1 rfl rfl
set_option maxRecDepth 20000 in
theorem tw_5_2 : (Jvm.Cond.code ({ cls := "java/lang/IllegalStateException", name := "<init>", desc := "(Ljava/lang/String;)V" } : Jvm.MethodName) prog_17_method_2_code (2 : Nat) (Option.none : Option Jvm.ClassFile.FieldType)) ∈ UL := ul_5 2 rfl rfl
set_option maxRecDepth 20000 in
theorem tw_5_3 : (Jvm.Cond.methodLink "java/lang/IllegalStateException" (7 : Nat) ({ cls := "java/lang/RuntimeException", name := "<init>", desc := "(Ljava/lang/String;)V" } : Jvm.MethodName)) ∈ UL := ul_5 3 rfl rfl
set_option maxRecDepth 20000 in
theorem tw_5_4 : (Jvm.Cond.lays "java/lang/IllegalStateException" "java/lang/Throwable" "depth" "I") ∈ UL := ul_5 4 rfl rfl
set_option maxRecDepth 20000 in
theorem tw_5_5 : (Jvm.Cond.superclass "java/lang/IllegalStateException" "java/lang/RuntimeException") ∈ UL := ul_5 5 rfl rfl
set_option maxRecDepth 20000 in
theorem tw_5_6 : (Jvm.Cond.methodLink "SideBySideLaw" (184 : Nat) ({ cls := "SideBySideLaw", name := "element", desc := "(LSideBySide;II[J)I" } : Jvm.MethodName)) ∈ UL := ul_5 6 rfl rfl
set_option maxRecDepth 20000 in
theorem tw_5_7 : (Jvm.Cond.static ({ cls := "SideBySideLaw", name := "element", desc := "(LSideBySide;II[J)I" } : Jvm.MethodName)) ∈ UL := ul_5 7 rfl rfl
set_option maxRecDepth 20000 in
theorem tw_5_8 : (Jvm.Cond.codeWith ({ cls := "SideBySideLaw", name := "element", desc := "(LSideBySide;II[J)I" } : Jvm.MethodName) method_3_code (5 : Nat) (Option.some Jvm.ClassFile.FieldType.int) [((0 : Nat), (9 : Nat), (12 : Nat), (13 : Nat)), ((0 : Nat), (9 : Nat), (16 : Nat), (15 : Nat))]) ∈ UL := ul_5 8 rfl rfl
set_option maxRecDepth 20000 in
theorem tw_5_9 : (Jvm.Cond.classLink "SideBySideLaw" (13 : Nat) "java/lang/IllegalArgumentException") ∈ UL := ul_5 9 rfl rfl
set_option maxRecDepth 20000 in
theorem tw_5_10 : (Jvm.Cond.classLink "SideBySideLaw" (15 : Nat) "java/lang/IllegalStateException") ∈ UL := ul_5 10 rfl rfl
set_option maxRecDepth 20000 in
theorem tw_5_11 : (Jvm.Cond.methodLink "SideBySideLaw" (7 : Nat) ({ cls := "SideBySide", name := "element", desc := "(II)J" } : Jvm.MethodName)) ∈ UL := ul_5 11 rfl rfl
set_option maxRecDepth 20000 in
theorem tw_5_12 : (Jvm.Cond.instanceMethod ({ cls := "SideBySide", name := "element", desc := "(II)J" } : Jvm.MethodName)) ∈ UL := ul_5 12 rfl rfl
set_option maxRecDepth 20000 in
theorem tw_5_13 : (Jvm.Cond.selects "SideBySide" ({ cls := "SideBySide", name := "element", desc := "(II)J" } : Jvm.MethodName) ({ cls := "SideBySide", name := "element", desc := "(II)J" } : Jvm.MethodName)) ∈ UL := ul_5 13 rfl rfl
set_option maxRecDepth 20000 in
theorem tw_5_14 : (Jvm.Cond.code ({ cls := "SideBySide", name := "element", desc := "(II)J" } : Jvm.MethodName) prog_1_method_41_code (4 : Nat) (Option.some Jvm.ClassFile.FieldType.long)) ∈ UL := ul_5 14 rfl rfl
set_option maxRecDepth 20000 in
theorem tw_5_16 : (Jvm.Cond.methodLink "SideBySide" (288 : Nat) ({ cls := "java/lang/IllegalArgumentException", name := "<init>", desc := "(Ljava/lang/String;)V" } : Jvm.MethodName)) ∈ UL := ul_5 16 rfl rfl
set_option maxRecDepth 20000 in
theorem tw_5_18 : (Jvm.Cond.methodLink "SideBySide" (299 : Nat) ({ cls := "java/lang/IllegalStateException", name := "<init>", desc := "(Ljava/lang/String;)V" } : Jvm.MethodName)) ∈ UL := ul_5 18 rfl rfl
set_option maxRecDepth 20000 in
theorem tw_5_19 : (Jvm.Cond.classLink "SideBySideLaw" (18 : Nat) "SideBySideModel") ∈ UL := ul_5 19 rfl rfl
set_option maxRecDepth 20000 in
theorem tw_5_20 : (Jvm.Cond.instantiable "SideBySideModel" (20 : Nat)) ∈ UL := ul_5 20 rfl rfl
set_option maxRecDepth 20000 in
theorem tw_5_21 : (Jvm.Cond.methodLink "SideBySideLaw" (20 : Nat) ({ cls := "SideBySideModel", name := "<init>", desc := "()V" } : Jvm.MethodName)) ∈ UL := ul_5 21 rfl rfl
set_option maxRecDepth 20000 in
theorem tw_5_22 : (Jvm.Cond.instanceMethod ({ cls := "SideBySideModel", name := "<init>", desc := "()V" } : Jvm.MethodName)) ∈ UL := ul_5 22 rfl rfl
set_option maxRecDepth 20000 in
theorem tw_5_23 : (Jvm.Cond.code ({ cls := "SideBySideModel", name := "<init>", desc := "()V" } : Jvm.MethodName) prog_14_method_1_code (2 : Nat) (Option.none : Option Jvm.ClassFile.FieldType)) ∈ UL := ul_5 23 rfl rfl
set_option maxRecDepth 20000 in
theorem tw_5_24 : (Jvm.Cond.methodLink "SideBySideModel" (1 : Nat) ({ cls := "java/lang/Object", name := "<init>", desc := "()V" } : Jvm.MethodName)) ∈ UL := ul_5 24 rfl rfl
set_option maxRecDepth 20000 in
theorem tw_5_25 : (Jvm.Cond.methodLink "SideBySideModel" (46 : Nat) ({ cls := "SideBySideModel", name := "ofP", desc := "(II)I" } : Jvm.MethodName)) ∈ UL := ul_5 25 rfl rfl
set_option maxRecDepth 20000 in
theorem tw_5_26 : (Jvm.Cond.static ({ cls := "SideBySideModel", name := "ofP", desc := "(II)I" } : Jvm.MethodName)) ∈ UL := ul_5 26 rfl rfl
set_option maxRecDepth 20000 in
theorem tw_5_27 : (Jvm.Cond.code ({ cls := "SideBySideModel", name := "ofP", desc := "(II)I" } : Jvm.MethodName) prog_14_method_6_code (2 : Nat) (Option.some Jvm.ClassFile.FieldType.int)) ∈ UL := ul_5 27 rfl rfl
set_option maxRecDepth 20000 in
theorem tw_5_28 : (Jvm.Cond.methodLink "SideBySideModel" (50 : Nat) ({ cls := "SideBySideModel", name := "ofSide", desc := "(II)I" } : Jvm.MethodName)) ∈ UL := ul_5 28 rfl rfl
set_option maxRecDepth 20000 in
theorem tw_5_29 : (Jvm.Cond.static ({ cls := "SideBySideModel", name := "ofSide", desc := "(II)I" } : Jvm.MethodName)) ∈ UL := ul_5 29 rfl rfl
set_option maxRecDepth 20000 in
theorem tw_5_30 : (Jvm.Cond.code ({ cls := "SideBySideModel", name := "ofSide", desc := "(II)I" } : Jvm.MethodName) prog_14_method_7_code (2 : Nat) (Option.some Jvm.ClassFile.FieldType.int)) ∈ UL := ul_5 30 rfl rfl
set_option maxRecDepth 20000 in
theorem tw_5_31 : (Jvm.Cond.fieldLink "SideBySideModel" (9 : Nat) "SideBySideModel" "s" "[I") ∈ UL := ul_5 31 rfl rfl
set_option maxRecDepth 20000 in
theorem tw_5_32 : (Jvm.Cond.fieldLink "SideBySideModel" (13 : Nat) "SideBySideModel" "m" "[I") ∈ UL := ul_5 32 rfl rfl
set_option maxRecDepth 20000 in
theorem tw_5_33 : (Jvm.Cond.fieldLink "SideBySideModel" (16 : Nat) "SideBySideModel" "image" "[I") ∈ UL := ul_5 33 rfl rfl
set_option maxRecDepth 20000 in
theorem tw_5_34 : (Jvm.Cond.fieldLink "SideBySideModel" (19 : Nat) "SideBySideModel" "was" "[I") ∈ UL := ul_5 34 rfl rfl
set_option maxRecDepth 20000 in
theorem tw_5_35 : (Jvm.Cond.fieldLink "SideBySideModel" (22 : Nat) "SideBySideModel" "gone" "[I") ∈ UL := ul_5 35 rfl rfl
set_option maxRecDepth 20000 in
theorem tw_5_36 : (Jvm.Cond.fieldLink "SideBySideModel" (256 : Nat) "SideBySideModel" "hasImage" "Z") ∈ UL := ul_5 36 rfl rfl
set_option maxRecDepth 20000 in
theorem tw_5_37 : (Jvm.Cond.fieldLink "SideBySideModel" (113 : Nat) "SideBySideModel" "place" "I") ∈ UL := ul_5 37 rfl rfl
set_option maxRecDepth 20000 in
theorem tw_5_38 : (Jvm.Cond.fieldLink "SideBySideModel" (120 : Nat) "SideBySideModel" "rowAt" "I") ∈ UL := ul_5 38 rfl rfl
set_option maxRecDepth 20000 in
theorem tw_5_39 : (Jvm.Cond.fieldLink "SideBySideModel" (117 : Nat) "SideBySideModel" "rowEnd" "I") ∈ UL := ul_5 39 rfl rfl
set_option maxRecDepth 20000 in
theorem tw_5_40 : (Jvm.Cond.fieldLink "SideBySideModel" (25 : Nat) "SideBySideModel" "numbers" "[I") ∈ UL := ul_5 40 rfl rfl
set_option maxRecDepth 20000 in
theorem tw_5_41 : (Jvm.Cond.fieldLink "SideBySideModel" (203 : Nat) "SideBySideModel" "rallied" "I") ∈ UL := ul_5 41 rfl rfl
set_option maxRecDepth 20000 in
theorem tw_5_42 : (Jvm.Cond.fieldLink "SideBySideModel" (206 : Nat) "SideBySideModel" "scored" "I") ∈ UL := ul_5 42 rfl rfl
set_option maxRecDepth 20000 in
theorem tw_5_43 : (Jvm.Cond.fieldLink "SideBySideModel" (247 : Nat) "SideBySideModel" "seed" "I") ∈ UL := ul_5 43 rfl rfl
set_option maxRecDepth 20000 in
theorem tw_5_44 : (Jvm.Cond.fieldLink "SideBySideModel" (28 : Nat) "SideBySideModel" "kept" "[I") ∈ UL := ul_5 44 rfl rfl
set_option maxRecDepth 20000 in
theorem tw_5_45 : (Jvm.Cond.fieldLink "SideBySideModel" (31 : Nat) "SideBySideModel" "keptKind" "[I") ∈ UL := ul_5 45 rfl rfl
set_option maxRecDepth 20000 in
theorem tw_5_46 : (Jvm.Cond.fieldLink "SideBySideModel" (34 : Nat) "SideBySideModel" "keptFigure" "[I") ∈ UL := ul_5 46 rfl rfl
set_option maxRecDepth 20000 in
theorem tw_5_47 : (Jvm.Cond.fieldLink "SideBySideModel" (37 : Nat) "SideBySideModel" "sort" "[I") ∈ UL := ul_5 47 rfl rfl
set_option maxRecDepth 20000 in
theorem tw_5_48 : (Jvm.Cond.fieldLink "SideBySideModel" (40 : Nat) "SideBySideModel" "size" "[I") ∈ UL := ul_5 48 rfl rfl
set_option maxRecDepth 20000 in
theorem tw_5_49 : (Jvm.Cond.fieldLink "SideBySideModel" (43 : Nat) "SideBySideModel" "element" "[I") ∈ UL := ul_5 49 rfl rfl
set_option maxRecDepth 20000 in
theorem tw_5_50 : (Jvm.Cond.fieldLink "SideBySideModel" (260 : Nat) "SideBySideModel" "thrown" "I") ∈ UL := ul_5 50 rfl rfl
set_option maxRecDepth 20000 in
theorem tw_5_51 : (Jvm.Cond.laysFinal "SideBySideModel" "SideBySideModel" "s" "[I") ∈ UL := ul_5 51 rfl rfl
set_option maxRecDepth 20000 in
theorem tw_5_53 : (Jvm.Cond.laysFinal "SideBySideModel" "SideBySideModel" "m" "[I") ∈ UL := ul_5 53 rfl rfl
set_option maxRecDepth 20000 in
theorem tw_5_55 : (Jvm.Cond.laysFinal "SideBySideModel" "SideBySideModel" "image" "[I") ∈ UL := ul_5 55 rfl rfl
set_option maxRecDepth 20000 in
theorem tw_5_57 : (Jvm.Cond.laysFinal "SideBySideModel" "SideBySideModel" "was" "[I") ∈ UL := ul_5 57 rfl rfl
set_option maxRecDepth 20000 in
theorem tw_5_59 : (Jvm.Cond.laysFinal "SideBySideModel" "SideBySideModel" "gone" "[I") ∈ UL := ul_5 59 rfl rfl
set_option maxRecDepth 20000 in
theorem tw_5_61 : (Jvm.Cond.lays "SideBySideModel" "SideBySideModel" "hasImage" "Z") ∈ UL := ul_5 61 rfl rfl
set_option maxRecDepth 20000 in
theorem tw_5_63 : (Jvm.Cond.lays "SideBySideModel" "SideBySideModel" "place" "I") ∈ UL := ul_5 63 rfl rfl
set_option maxRecDepth 20000 in
theorem tw_5_65 : (Jvm.Cond.lays "SideBySideModel" "SideBySideModel" "rowAt" "I") ∈ UL := ul_5 65 rfl rfl
set_option maxRecDepth 20000 in
theorem tw_5_67 : (Jvm.Cond.lays "SideBySideModel" "SideBySideModel" "rowEnd" "I") ∈ UL := ul_5 67 rfl rfl
set_option maxRecDepth 20000 in
theorem tw_5_69 : (Jvm.Cond.laysFinal "SideBySideModel" "SideBySideModel" "numbers" "[I") ∈ UL := ul_5 69 rfl rfl
set_option maxRecDepth 20000 in
theorem tw_5_71 : (Jvm.Cond.lays "SideBySideModel" "SideBySideModel" "rallied" "I") ∈ UL := ul_5 71 rfl rfl
set_option maxRecDepth 20000 in
theorem tw_5_73 : (Jvm.Cond.lays "SideBySideModel" "SideBySideModel" "scored" "I") ∈ UL := ul_5 73 rfl rfl
set_option maxRecDepth 20000 in
theorem tw_5_75 : (Jvm.Cond.lays "SideBySideModel" "SideBySideModel" "seed" "I") ∈ UL := ul_5 75 rfl rfl
set_option maxRecDepth 20000 in
theorem tw_5_77 : (Jvm.Cond.laysFinal "SideBySideModel" "SideBySideModel" "kept" "[I") ∈ UL := ul_5 77 rfl rfl
set_option maxRecDepth 20000 in
theorem tw_5_79 : (Jvm.Cond.laysFinal "SideBySideModel" "SideBySideModel" "keptKind" "[I") ∈ UL := ul_5 79 rfl rfl
set_option maxRecDepth 20000 in
theorem tw_5_81 : (Jvm.Cond.laysFinal "SideBySideModel" "SideBySideModel" "keptFigure" "[I") ∈ UL := ul_5 81 rfl rfl
set_option maxRecDepth 20000 in
theorem tw_5_83 : (Jvm.Cond.laysFinal "SideBySideModel" "SideBySideModel" "sort" "[I") ∈ UL := ul_5 83 rfl rfl
set_option maxRecDepth 20000 in
theorem tw_5_85 : (Jvm.Cond.laysFinal "SideBySideModel" "SideBySideModel" "size" "[I") ∈ UL := ul_5 85 rfl rfl
set_option maxRecDepth 20000 in
theorem tw_5_87 : (Jvm.Cond.laysFinal "SideBySideModel" "SideBySideModel" "element" "[I") ∈ UL := ul_5 87 rfl rfl
set_option maxRecDepth 20000 in
theorem tw_5_89 : (Jvm.Cond.lays "SideBySideModel" "SideBySideModel" "thrown" "I") ∈ UL := ul_5 89 rfl rfl
set_option maxRecDepth 20000 in
theorem tw_5_91 : (Jvm.Cond.superclass "SideBySideModel" "java/lang/Object") ∈ UL := ul_5 91 rfl rfl
set_option maxRecDepth 20000 in
theorem tw_5_92 : (Jvm.Cond.methodLink "SideBySideLaw" (25 : Nat) ({ cls := "SideBySideModel", name := "court", desc := "(I)I" } : Jvm.MethodName)) ∈ UL := ul_5 92 rfl rfl
set_option maxRecDepth 20000 in
theorem tw_5_93 : (Jvm.Cond.instanceMethod ({ cls := "SideBySideModel", name := "court", desc := "(I)I" } : Jvm.MethodName)) ∈ UL := ul_5 93 rfl rfl
set_option maxRecDepth 20000 in
theorem tw_5_94 : (Jvm.Cond.selects "SideBySideModel" ({ cls := "SideBySideModel", name := "court", desc := "(I)I" } : Jvm.MethodName) ({ cls := "SideBySideModel", name := "court", desc := "(I)I" } : Jvm.MethodName)) ∈ UL := ul_5 94 rfl rfl
set_option maxRecDepth 20000 in
theorem tw_5_95 : (Jvm.Cond.code ({ cls := "SideBySideModel", name := "court", desc := "(I)I" } : Jvm.MethodName) prog_14_method_35_code (8 : Nat) (Option.some Jvm.ClassFile.FieldType.int)) ∈ UL := ul_5 95 rfl rfl
set_option maxRecDepth 20000 in
theorem tw_5_96 : (Jvm.Cond.methodLink "SideBySideModel" (152 : Nat) ({ cls := "SideBySideModel", name := "wrongRow", desc := "(II)I" } : Jvm.MethodName)) ∈ UL := ul_5 96 rfl rfl
set_option maxRecDepth 20000 in
theorem tw_5_98 : (Jvm.Cond.instanceMethod ({ cls := "SideBySideModel", name := "wrongRow", desc := "(II)I" } : Jvm.MethodName)) ∈ UL := ul_5 98 rfl rfl
set_option maxRecDepth 20000 in
theorem tw_5_99 : (Jvm.Cond.code ({ cls := "SideBySideModel", name := "wrongRow", desc := "(II)I" } : Jvm.MethodName) prog_14_method_93_code (3 : Nat) (Option.some Jvm.ClassFile.FieldType.int)) ∈ UL := ul_5 99 rfl rfl
set_option maxRecDepth 20000 in
theorem tw_5_100 : (Jvm.Cond.methodLink "SideBySideModel" (263 : Nat) ({ cls := "SideBySideModel", name := "isShelf", desc := "(I)Z" } : Jvm.MethodName)) ∈ UL := ul_5 100 rfl rfl
set_option maxRecDepth 20000 in
theorem tw_5_101 : (Jvm.Cond.static ({ cls := "SideBySideModel", name := "isShelf", desc := "(I)Z" } : Jvm.MethodName)) ∈ UL := ul_5 101 rfl rfl
set_option maxRecDepth 20000 in
theorem tw_5_102 : (Jvm.Cond.code ({ cls := "SideBySideModel", name := "isShelf", desc := "(I)Z" } : Jvm.MethodName) prog_14_method_92_code (1 : Nat) (Option.some Jvm.ClassFile.FieldType.boolean)) ∈ UL := ul_5 102 rfl rfl
set_option maxRecDepth 20000 in
theorem tw_5_103 : (Jvm.Cond.methodLink "SideBySideModel" (53 : Nat) ({ cls := "SideBySideModel", name := "isIn", desc := "(III)Z" } : Jvm.MethodName)) ∈ UL := ul_5 103 rfl rfl
set_option maxRecDepth 20000 in
theorem tw_5_104 : (Jvm.Cond.static ({ cls := "SideBySideModel", name := "isIn", desc := "(III)Z" } : Jvm.MethodName)) ∈ UL := ul_5 104 rfl rfl
set_option maxRecDepth 20000 in
theorem tw_5_105 : (Jvm.Cond.code ({ cls := "SideBySideModel", name := "isIn", desc := "(III)Z" } : Jvm.MethodName) prog_14_method_2_code (3 : Nat) (Option.some Jvm.ClassFile.FieldType.boolean)) ∈ UL := ul_5 105 rfl rfl
set_option maxRecDepth 20000 in
theorem tw_5_106 : (Jvm.Cond.methodLink "SideBySideModel" (155 : Nat) ({ cls := "SideBySideModel", name := "readsStatement", desc := "()Z" } : Jvm.MethodName)) ∈ UL := ul_5 106 rfl rfl
set_option maxRecDepth 20000 in
theorem tw_5_108 : (Jvm.Cond.instanceMethod ({ cls := "SideBySideModel", name := "readsStatement", desc := "()Z" } : Jvm.MethodName)) ∈ UL := ul_5 108 rfl rfl
set_option maxRecDepth 20000 in
theorem tw_5_109 : (Jvm.Cond.code ({ cls := "SideBySideModel", name := "readsStatement", desc := "()Z" } : Jvm.MethodName) prog_14_method_31_code (3 : Nat) (Option.some Jvm.ClassFile.FieldType.boolean)) ∈ UL := ul_5 109 rfl rfl
set_option maxRecDepth 20000 in
theorem tw_5_110 : (Jvm.Cond.methodLink "SideBySideModel" (123 : Nat) ({ cls := "SideBySideModel", name := "here", desc := "()I" } : Jvm.MethodName)) ∈ UL := ul_5 110 rfl rfl
set_option maxRecDepth 20000 in
theorem tw_5_112 : (Jvm.Cond.instanceMethod ({ cls := "SideBySideModel", name := "here", desc := "()I" } : Jvm.MethodName)) ∈ UL := ul_5 112 rfl rfl
set_option maxRecDepth 20000 in
theorem tw_5_113 : (Jvm.Cond.code ({ cls := "SideBySideModel", name := "here", desc := "()I" } : Jvm.MethodName) prog_14_method_29_code (1 : Nat) (Option.some Jvm.ClassFile.FieldType.int)) ∈ UL := ul_5 113 rfl rfl
set_option maxRecDepth 20000 in
theorem tw_5_114 : (Jvm.Cond.methodLink "SideBySideModel" (127 : Nat) ({ cls := "SideBySideModel", name := "readsNumber", desc := "(II)Z" } : Jvm.MethodName)) ∈ UL := ul_5 114 rfl rfl
set_option maxRecDepth 20000 in
theorem tw_5_116 : (Jvm.Cond.instanceMethod ({ cls := "SideBySideModel", name := "readsNumber", desc := "(II)Z" } : Jvm.MethodName)) ∈ UL := ul_5 116 rfl rfl
set_option maxRecDepth 20000 in
theorem tw_5_117 : (Jvm.Cond.code ({ cls := "SideBySideModel", name := "readsNumber", desc := "(II)Z" } : Jvm.MethodName) prog_14_method_30_code (4 : Nat) (Option.some Jvm.ClassFile.FieldType.boolean)) ∈ UL := ul_5 117 rfl rfl
set_option maxRecDepth 20000 in
theorem tw_5_118 : (Jvm.Cond.methodLink "SideBySideModel" (158 : Nat) ({ cls := "SideBySideModel", name := "copies", desc := "([I[I)V" } : Jvm.MethodName)) ∈ UL := ul_5 118 rfl rfl
set_option maxRecDepth 20000 in
theorem tw_5_119 : (Jvm.Cond.static ({ cls := "SideBySideModel", name := "copies", desc := "([I[I)V" } : Jvm.MethodName)) ∈ UL := ul_5 119 rfl rfl
set_option maxRecDepth 20000 in
theorem tw_5_120 : (Jvm.Cond.code ({ cls := "SideBySideModel", name := "copies", desc := "([I[I)V" } : Jvm.MethodName) prog_14_method_4_code (3 : Nat) (Option.none : Option Jvm.ClassFile.FieldType)) ∈ UL := ul_5 120 rfl rfl
set_option maxRecDepth 20000 in
theorem tw_5_121 : (Jvm.Cond.methodLink "SideBySideModel" (162 : Nat) ({ cls := "SideBySideModel", name := "isDone", desc := "(I)Z" } : Jvm.MethodName)) ∈ UL := ul_5 121 rfl rfl
set_option maxRecDepth 20000 in
theorem tw_5_123 : (Jvm.Cond.instanceMethod ({ cls := "SideBySideModel", name := "isDone", desc := "(I)Z" } : Jvm.MethodName)) ∈ UL := ul_5 123 rfl rfl
set_option maxRecDepth 20000 in
theorem tw_5_124 : (Jvm.Cond.code ({ cls := "SideBySideModel", name := "isDone", desc := "(I)Z" } : Jvm.MethodName) prog_14_method_34_code (5 : Nat) (Option.some Jvm.ClassFile.FieldType.boolean)) ∈ UL := ul_5 124 rfl rfl
set_option maxRecDepth 20000 in
theorem tw_5_125 : (Jvm.Cond.methodLink "SideBySideModel" (131 : Nat) ({ cls := "SideBySideModel", name := "adds", desc := "(II)V" } : Jvm.MethodName)) ∈ UL := ul_5 125 rfl rfl
set_option maxRecDepth 20000 in
theorem tw_5_127 : (Jvm.Cond.instanceMethod ({ cls := "SideBySideModel", name := "adds", desc := "(II)V" } : Jvm.MethodName)) ∈ UL := ul_5 127 rfl rfl
set_option maxRecDepth 20000 in
theorem tw_5_128 : (Jvm.Cond.code ({ cls := "SideBySideModel", name := "adds", desc := "(II)V" } : Jvm.MethodName) prog_14_method_32_code (3 : Nat) (Option.none : Option Jvm.ClassFile.FieldType)) ∈ UL := ul_5 128 rfl rfl
set_option maxRecDepth 20000 in
theorem tw_5_129 : (Jvm.Cond.methodLink "SideBySideModel" (60 : Nat) ({ cls := "SideBySideModel", name := "ofS", desc := "(II)I" } : Jvm.MethodName)) ∈ UL := ul_5 129 rfl rfl
set_option maxRecDepth 20000 in
theorem tw_5_130 : (Jvm.Cond.static ({ cls := "SideBySideModel", name := "ofS", desc := "(II)I" } : Jvm.MethodName)) ∈ UL := ul_5 130 rfl rfl
set_option maxRecDepth 20000 in
theorem tw_5_131 : (Jvm.Cond.code ({ cls := "SideBySideModel", name := "ofS", desc := "(II)I" } : Jvm.MethodName) prog_14_method_5_code (2 : Nat) (Option.some Jvm.ClassFile.FieldType.int)) ∈ UL := ul_5 131 rfl rfl
set_option maxRecDepth 20000 in
theorem tw_5_132 : (Jvm.Cond.methodLink "SideBySideModel" (135 : Nat) ({ cls := "SideBySideModel", name := "isPlayer", desc := "(I)Z" } : Jvm.MethodName)) ∈ UL := ul_5 132 rfl rfl
set_option maxRecDepth 20000 in
theorem tw_5_133 : (Jvm.Cond.static ({ cls := "SideBySideModel", name := "isPlayer", desc := "(I)Z" } : Jvm.MethodName)) ∈ UL := ul_5 133 rfl rfl
set_option maxRecDepth 20000 in
theorem tw_5_134 : (Jvm.Cond.code ({ cls := "SideBySideModel", name := "isPlayer", desc := "(I)Z" } : Jvm.MethodName) prog_14_method_10_code (1 : Nat) (Option.some Jvm.ClassFile.FieldType.boolean)) ∈ UL := ul_5 134 rfl rfl
set_option maxRecDepth 20000 in
theorem tw_5_135 : (Jvm.Cond.methodLink "SideBySideModel" (139 : Nat) ({ cls := "SideBySideModel", name := "isCell", desc := "(I)Z" } : Jvm.MethodName)) ∈ UL := ul_5 135 rfl rfl
set_option maxRecDepth 20000 in
theorem tw_5_136 : (Jvm.Cond.static ({ cls := "SideBySideModel", name := "isCell", desc := "(I)Z" } : Jvm.MethodName)) ∈ UL := ul_5 136 rfl rfl
set_option maxRecDepth 20000 in
theorem tw_5_137 : (Jvm.Cond.code ({ cls := "SideBySideModel", name := "isCell", desc := "(I)Z" } : Jvm.MethodName) prog_14_method_9_code (1 : Nat) (Option.some Jvm.ClassFile.FieldType.boolean)) ∈ UL := ul_5 137 rfl rfl
set_option maxRecDepth 20000 in
theorem tw_5_138 : (Jvm.Cond.methodLink "SideBySideModel" (142 : Nat) ({ cls := "SideBySideModel", name := "isStroke", desc := "(I)Z" } : Jvm.MethodName)) ∈ UL := ul_5 138 rfl rfl
set_option maxRecDepth 20000 in
theorem tw_5_140 : (Jvm.Cond.instanceMethod ({ cls := "SideBySideModel", name := "isStroke", desc := "(I)Z" } : Jvm.MethodName)) ∈ UL := ul_5 140 rfl rfl
set_option maxRecDepth 20000 in
theorem tw_5_141 : (Jvm.Cond.code ({ cls := "SideBySideModel", name := "isStroke", desc := "(I)Z" } : Jvm.MethodName) prog_14_method_8_code (2 : Nat) (Option.some Jvm.ClassFile.FieldType.boolean)) ∈ UL := ul_5 141 rfl rfl
set_option maxRecDepth 20000 in
theorem tw_5_142 : (Jvm.Cond.methodLink "SideBySideModel" (145 : Nat) ({ cls := "SideBySideModel", name := "isOver", desc := "()Z" } : Jvm.MethodName)) ∈ UL := ul_5 142 rfl rfl
set_option maxRecDepth 20000 in
theorem tw_5_144 : (Jvm.Cond.instanceMethod ({ cls := "SideBySideModel", name := "isOver", desc := "()Z" } : Jvm.MethodName)) ∈ UL := ul_5 144 rfl rfl
set_option maxRecDepth 20000 in
theorem tw_5_145 : (Jvm.Cond.code ({ cls := "SideBySideModel", name := "isOver", desc := "()Z" } : Jvm.MethodName) prog_14_method_33_code (1 : Nat) (Option.some Jvm.ClassFile.FieldType.boolean)) ∈ UL := ul_5 145 rfl rfl
set_option maxRecDepth 20000 in
theorem tw_5_146 : (Jvm.Cond.methodLink "SideBySideModel" (149 : Nat) ({ cls := "SideBySideModel", name := "hits", desc := "([III)Z" } : Jvm.MethodName)) ∈ UL := ul_5 146 rfl rfl
set_option maxRecDepth 20000 in
theorem tw_5_148 : (Jvm.Cond.instanceMethod ({ cls := "SideBySideModel", name := "hits", desc := "([III)Z" } : Jvm.MethodName)) ∈ UL := ul_5 148 rfl rfl
set_option maxRecDepth 20000 in
theorem tw_5_149 : (Jvm.Cond.code ({ cls := "SideBySideModel", name := "hits", desc := "([III)Z" } : Jvm.MethodName) prog_14_method_28_code (11 : Nat) (Option.some Jvm.ClassFile.FieldType.boolean)) ∈ UL := ul_5 149 rfl rfl
set_option maxRecDepth 20000 in
theorem tw_5_150 : (Jvm.Cond.methodLink "SideBySideModel" (73 : Nat) ({ cls := "SideBySideModel", name := "sideOf", desc := "(I)I" } : Jvm.MethodName)) ∈ UL := ul_5 150 rfl rfl
set_option maxRecDepth 20000 in
theorem tw_5_151 : (Jvm.Cond.static ({ cls := "SideBySideModel", name := "sideOf", desc := "(I)I" } : Jvm.MethodName)) ∈ UL := ul_5 151 rfl rfl
set_option maxRecDepth 20000 in
theorem tw_5_152 : (Jvm.Cond.code ({ cls := "SideBySideModel", name := "sideOf", desc := "(I)I" } : Jvm.MethodName) prog_14_method_19_code (1 : Nat) (Option.some Jvm.ClassFile.FieldType.int)) ∈ UL := ul_5 152 rfl rfl
set_option maxRecDepth 20000 in
theorem tw_5_153 : (Jvm.Cond.methodLink "SideBySideModel" (77 : Nat) ({ cls := "SideBySideModel", name := "fallsIn", desc := "([III)I" } : Jvm.MethodName)) ∈ UL := ul_5 153 rfl rfl
set_option maxRecDepth 20000 in
theorem tw_5_154 : (Jvm.Cond.static ({ cls := "SideBySideModel", name := "fallsIn", desc := "([III)I" } : Jvm.MethodName)) ∈ UL := ul_5 154 rfl rfl
set_option maxRecDepth 20000 in
theorem tw_5_155 : (Jvm.Cond.code ({ cls := "SideBySideModel", name := "fallsIn", desc := "([III)I" } : Jvm.MethodName) prog_14_method_17_code (5 : Nat) (Option.some Jvm.ClassFile.FieldType.int)) ∈ UL := ul_5 155 rfl rfl
set_option maxRecDepth 20000 in
theorem tw_5_156 : (Jvm.Cond.methodLink "SideBySideModel" (81 : Nat) ({ cls := "SideBySideModel", name := "timeIn", desc := "([III)I" } : Jvm.MethodName)) ∈ UL := ul_5 156 rfl rfl
set_option maxRecDepth 20000 in
theorem tw_5_157 : (Jvm.Cond.static ({ cls := "SideBySideModel", name := "timeIn", desc := "([III)I" } : Jvm.MethodName)) ∈ UL := ul_5 157 rfl rfl
set_option maxRecDepth 20000 in
theorem tw_5_158 : (Jvm.Cond.code ({ cls := "SideBySideModel", name := "timeIn", desc := "([III)I" } : Jvm.MethodName) prog_14_method_18_code (3 : Nat) (Option.some Jvm.ClassFile.FieldType.int)) ∈ UL := ul_5 158 rfl rfl
set_option maxRecDepth 20000 in
theorem tw_5_159 : (Jvm.Cond.methodLink "SideBySideModel" (63 : Nat) ({ cls := "SideBySideModel", name := "timeBy", desc := "(III)I" } : Jvm.MethodName)) ∈ UL := ul_5 159 rfl rfl
set_option maxRecDepth 20000 in
theorem tw_5_160 : (Jvm.Cond.static ({ cls := "SideBySideModel", name := "timeBy", desc := "(III)I" } : Jvm.MethodName)) ∈ UL := ul_5 160 rfl rfl
set_option maxRecDepth 20000 in
theorem tw_5_161 : (Jvm.Cond.code ({ cls := "SideBySideModel", name := "timeBy", desc := "(III)I" } : Jvm.MethodName) prog_14_method_15_code (4 : Nat) (Option.some Jvm.ClassFile.FieldType.int)) ∈ UL := ul_5 161 rfl rfl
set_option maxRecDepth 20000 in
theorem tw_5_162 : (Jvm.Cond.methodLink "SideBySideModel" (84 : Nat) ({ cls := "SideBySideModel", name := "whoseIn", desc := "([III)I" } : Jvm.MethodName)) ∈ UL := ul_5 162 rfl rfl
set_option maxRecDepth 20000 in
theorem tw_5_163 : (Jvm.Cond.static ({ cls := "SideBySideModel", name := "whoseIn", desc := "([III)I" } : Jvm.MethodName)) ∈ UL := ul_5 163 rfl rfl
set_option maxRecDepth 20000 in
theorem tw_5_164 : (Jvm.Cond.code ({ cls := "SideBySideModel", name := "whoseIn", desc := "([III)I" } : Jvm.MethodName) prog_14_method_23_code (8 : Nat) (Option.some Jvm.ClassFile.FieldType.int)) ∈ UL := ul_5 164 rfl rfl
set_option maxRecDepth 20000 in
theorem tw_5_165 : (Jvm.Cond.methodLink "SideBySideModel" (70 : Nat) ({ cls := "SideBySideModel", name := "wayOf", desc := "(II)I" } : Jvm.MethodName)) ∈ UL := ul_5 165 rfl rfl
set_option maxRecDepth 20000 in
theorem tw_5_166 : (Jvm.Cond.static ({ cls := "SideBySideModel", name := "wayOf", desc := "(II)I" } : Jvm.MethodName)) ∈ UL := ul_5 166 rfl rfl
set_option maxRecDepth 20000 in
theorem tw_5_167 : (Jvm.Cond.code ({ cls := "SideBySideModel", name := "wayOf", desc := "(II)I" } : Jvm.MethodName) prog_14_method_14_code (2 : Nat) (Option.some Jvm.ClassFile.FieldType.int)) ∈ UL := ul_5 167 rfl rfl
set_option maxRecDepth 20000 in
theorem tw_5_168 : (Jvm.Cond.methodLink "SideBySideModel" (57 : Nat) ({ cls := "SideBySideModel", name := "apart", desc := "(II)I" } : Jvm.MethodName)) ∈ UL := ul_5 168 rfl rfl
set_option maxRecDepth 20000 in
theorem tw_5_169 : (Jvm.Cond.static ({ cls := "SideBySideModel", name := "apart", desc := "(II)I" } : Jvm.MethodName)) ∈ UL := ul_5 169 rfl rfl
set_option maxRecDepth 20000 in
theorem tw_5_170 : (Jvm.Cond.code ({ cls := "SideBySideModel", name := "apart", desc := "(II)I" } : Jvm.MethodName) prog_14_method_13_code (2 : Nat) (Option.some Jvm.ClassFile.FieldType.int)) ∈ UL := ul_5 170 rfl rfl
set_option maxRecDepth 20000 in
theorem tw_5_171 : (Jvm.Cond.methodLink "SideBySideModel" (87 : Nat) ({ cls := "SideBySideModel", name := "tiresBy", desc := "(II)I" } : Jvm.MethodName)) ∈ UL := ul_5 171 rfl rfl
set_option maxRecDepth 20000 in
theorem tw_5_172 : (Jvm.Cond.static ({ cls := "SideBySideModel", name := "tiresBy", desc := "(II)I" } : Jvm.MethodName)) ∈ UL := ul_5 172 rfl rfl
set_option maxRecDepth 20000 in
theorem tw_5_173 : (Jvm.Cond.code ({ cls := "SideBySideModel", name := "tiresBy", desc := "(II)I" } : Jvm.MethodName) prog_14_method_16_code (2 : Nat) (Option.some Jvm.ClassFile.FieldType.int)) ∈ UL := ul_5 173 rfl rfl
set_option maxRecDepth 20000 in
theorem tw_5_174 : (Jvm.Cond.methodLink "SideBySideModel" (90 : Nat) ({ cls := "SideBySideModel", name := "isTired", desc := "([III)V" } : Jvm.MethodName)) ∈ UL := ul_5 174 rfl rfl
set_option maxRecDepth 20000 in
theorem tw_5_175 : (Jvm.Cond.static ({ cls := "SideBySideModel", name := "isTired", desc := "([III)V" } : Jvm.MethodName)) ∈ UL := ul_5 175 rfl rfl
set_option maxRecDepth 20000 in
theorem tw_5_176 : (Jvm.Cond.code ({ cls := "SideBySideModel", name := "isTired", desc := "([III)V" } : Jvm.MethodName) prog_14_method_22_code (3 : Nat) (Option.none : Option Jvm.ClassFile.FieldType)) ∈ UL := ul_5 176 rfl rfl
set_option maxRecDepth 20000 in
theorem tw_5_177 : (Jvm.Cond.methodLink "SideBySideModel" (67 : Nat) ({ cls := "SideBySideModel", name := "least", desc := "(II)I" } : Jvm.MethodName)) ∈ UL := ul_5 177 rfl rfl
set_option maxRecDepth 20000 in
theorem tw_5_178 : (Jvm.Cond.static ({ cls := "SideBySideModel", name := "least", desc := "(II)I" } : Jvm.MethodName)) ∈ UL := ul_5 178 rfl rfl
set_option maxRecDepth 20000 in
theorem tw_5_179 : (Jvm.Cond.code ({ cls := "SideBySideModel", name := "least", desc := "(II)I" } : Jvm.MethodName) prog_14_method_3_code (2 : Nat) (Option.some Jvm.ClassFile.FieldType.int)) ∈ UL := ul_5 179 rfl rfl
set_option maxRecDepth 20000 in
theorem tw_5_180 : (Jvm.Cond.methodLink "SideBySideModel" (94 : Nat) ({ cls := "SideBySideModel", name := "isBoths", desc := "([III)Z" } : Jvm.MethodName)) ∈ UL := ul_5 180 rfl rfl
set_option maxRecDepth 20000 in
theorem tw_5_181 : (Jvm.Cond.static ({ cls := "SideBySideModel", name := "isBoths", desc := "([III)Z" } : Jvm.MethodName)) ∈ UL := ul_5 181 rfl rfl
set_option maxRecDepth 20000 in
theorem tw_5_182 : (Jvm.Cond.code ({ cls := "SideBySideModel", name := "isBoths", desc := "([III)Z" } : Jvm.MethodName) prog_14_method_24_code (3 : Nat) (Option.some Jvm.ClassFile.FieldType.boolean)) ∈ UL := ul_5 182 rfl rfl
set_option maxRecDepth 20000 in
theorem tw_5_183 : (Jvm.Cond.methodLink "SideBySideModel" (98 : Nat) ({ cls := "SideBySideModel", name := "stepsIn", desc := "([III)I" } : Jvm.MethodName)) ∈ UL := ul_5 183 rfl rfl
set_option maxRecDepth 20000 in
theorem tw_5_184 : (Jvm.Cond.static ({ cls := "SideBySideModel", name := "stepsIn", desc := "([III)I" } : Jvm.MethodName)) ∈ UL := ul_5 184 rfl rfl
set_option maxRecDepth 20000 in
theorem tw_5_185 : (Jvm.Cond.code ({ cls := "SideBySideModel", name := "stepsIn", desc := "([III)I" } : Jvm.MethodName) prog_14_method_21_code (4 : Nat) (Option.some Jvm.ClassFile.FieldType.int)) ∈ UL := ul_5 185 rfl rfl
set_option maxRecDepth 20000 in
theorem tw_5_186 : (Jvm.Cond.methodLink "SideBySideModel" (101 : Nat) ({ cls := "SideBySideModel", name := "moves", desc := "([III)V" } : Jvm.MethodName)) ∈ UL := ul_5 186 rfl rfl
set_option maxRecDepth 20000 in
theorem tw_5_188 : (Jvm.Cond.instanceMethod ({ cls := "SideBySideModel", name := "moves", desc := "([III)V" } : Jvm.MethodName)) ∈ UL := ul_5 188 rfl rfl
set_option maxRecDepth 20000 in
theorem tw_5_189 : (Jvm.Cond.code ({ cls := "SideBySideModel", name := "moves", desc := "([III)V" } : Jvm.MethodName) prog_14_method_27_code (4 : Nat) (Option.none : Option Jvm.ClassFile.FieldType)) ∈ UL := ul_5 189 rfl rfl
set_option maxRecDepth 20000 in
theorem tw_5_190 : (Jvm.Cond.methodLink "SideBySideModel" (104 : Nat) ({ cls := "SideBySideModel", name := "partner", desc := "(I)I" } : Jvm.MethodName)) ∈ UL := ul_5 190 rfl rfl
set_option maxRecDepth 20000 in
theorem tw_5_191 : (Jvm.Cond.static ({ cls := "SideBySideModel", name := "partner", desc := "(I)I" } : Jvm.MethodName)) ∈ UL := ul_5 191 rfl rfl
set_option maxRecDepth 20000 in
theorem tw_5_192 : (Jvm.Cond.code ({ cls := "SideBySideModel", name := "partner", desc := "(I)I" } : Jvm.MethodName) prog_14_method_20_code (1 : Nat) (Option.some Jvm.ClassFile.FieldType.int)) ∈ UL := ul_5 192 rfl rfl
set_option maxRecDepth 20000 in
theorem tw_5_193 : (Jvm.Cond.methodLink "SideBySideModel" (107 : Nat) ({ cls := "SideBySideModel", name := "placeFor", desc := "(II)I" } : Jvm.MethodName)) ∈ UL := ul_5 193 rfl rfl
set_option maxRecDepth 20000 in
theorem tw_5_194 : (Jvm.Cond.static ({ cls := "SideBySideModel", name := "placeFor", desc := "(II)I" } : Jvm.MethodName)) ∈ UL := ul_5 194 rfl rfl
set_option maxRecDepth 20000 in
theorem tw_5_195 : (Jvm.Cond.code ({ cls := "SideBySideModel", name := "placeFor", desc := "(II)I" } : Jvm.MethodName) prog_14_method_25_code (2 : Nat) (Option.some Jvm.ClassFile.FieldType.int)) ∈ UL := ul_5 195 rfl rfl
set_option maxRecDepth 20000 in
theorem tw_5_196 : (Jvm.Cond.methodLink "SideBySideModel" (110 : Nat) ({ cls := "SideBySideModel", name := "towards", desc := "(III)I" } : Jvm.MethodName)) ∈ UL := ul_5 196 rfl rfl
set_option maxRecDepth 20000 in
theorem tw_5_197 : (Jvm.Cond.static ({ cls := "SideBySideModel", name := "towards", desc := "(III)I" } : Jvm.MethodName)) ∈ UL := ul_5 197 rfl rfl
set_option maxRecDepth 20000 in
theorem tw_5_198 : (Jvm.Cond.code ({ cls := "SideBySideModel", name := "towards", desc := "(III)I" } : Jvm.MethodName) prog_14_method_26_code (6 : Nat) (Option.some Jvm.ClassFile.FieldType.int)) ∈ UL := ul_5 198 rfl rfl
set_option maxRecDepth 20000 in
theorem tw_5_199 : (Jvm.Cond.methodLink "SideBySideLaw" (30 : Nat) ({ cls := "SideBySideModel", name := "stroke", desc := "(II)I" } : Jvm.MethodName)) ∈ UL := ul_5 199 rfl rfl
set_option maxRecDepth 20000 in
theorem tw_5_200 : (Jvm.Cond.instanceMethod ({ cls := "SideBySideModel", name := "stroke", desc := "(II)I" } : Jvm.MethodName)) ∈ UL := ul_5 200 rfl rfl
set_option maxRecDepth 20000 in
theorem tw_5_201 : (Jvm.Cond.selects "SideBySideModel" ({ cls := "SideBySideModel", name := "stroke", desc := "(II)I" } : Jvm.MethodName) ({ cls := "SideBySideModel", name := "stroke", desc := "(II)I" } : Jvm.MethodName)) ∈ UL := ul_5 201 rfl rfl
set_option maxRecDepth 20000 in
theorem tw_5_202 : (Jvm.Cond.code ({ cls := "SideBySideModel", name := "stroke", desc := "(II)I" } : Jvm.MethodName) prog_14_method_36_code (5 : Nat) (Option.some Jvm.ClassFile.FieldType.int)) ∈ UL := ul_5 202 rfl rfl
set_option maxRecDepth 20000 in
theorem tw_5_203 : (Jvm.Cond.methodLink "SideBySideLaw" (34 : Nat) ({ cls := "SideBySideModel", name := "player", desc := "(II)I" } : Jvm.MethodName)) ∈ UL := ul_5 203 rfl rfl
set_option maxRecDepth 20000 in
theorem tw_5_204 : (Jvm.Cond.instanceMethod ({ cls := "SideBySideModel", name := "player", desc := "(II)I" } : Jvm.MethodName)) ∈ UL := ul_5 204 rfl rfl
set_option maxRecDepth 20000 in
theorem tw_5_205 : (Jvm.Cond.selects "SideBySideModel" ({ cls := "SideBySideModel", name := "player", desc := "(II)I" } : Jvm.MethodName) ({ cls := "SideBySideModel", name := "player", desc := "(II)I" } : Jvm.MethodName)) ∈ UL := ul_5 205 rfl rfl
set_option maxRecDepth 20000 in
theorem tw_5_206 : (Jvm.Cond.code ({ cls := "SideBySideModel", name := "player", desc := "(II)I" } : Jvm.MethodName) prog_14_method_37_code (3 : Nat) (Option.some Jvm.ClassFile.FieldType.int)) ∈ UL := ul_5 206 rfl rfl
set_option maxRecDepth 20000 in
theorem tw_5_207 : (Jvm.Cond.methodLink "SideBySideLaw" (38 : Nat) ({ cls := "SideBySideModel", name := "side", desc := "(II)I" } : Jvm.MethodName)) ∈ UL := ul_5 207 rfl rfl
set_option maxRecDepth 20000 in
theorem tw_5_208 : (Jvm.Cond.instanceMethod ({ cls := "SideBySideModel", name := "side", desc := "(II)I" } : Jvm.MethodName)) ∈ UL := ul_5 208 rfl rfl
set_option maxRecDepth 20000 in
theorem tw_5_209 : (Jvm.Cond.selects "SideBySideModel" ({ cls := "SideBySideModel", name := "side", desc := "(II)I" } : Jvm.MethodName) ({ cls := "SideBySideModel", name := "side", desc := "(II)I" } : Jvm.MethodName)) ∈ UL := ul_5 209 rfl rfl
set_option maxRecDepth 20000 in
theorem tw_5_210 : (Jvm.Cond.code ({ cls := "SideBySideModel", name := "side", desc := "(II)I" } : Jvm.MethodName) prog_14_method_39_code (3 : Nat) (Option.some Jvm.ClassFile.FieldType.int)) ∈ UL := ul_5 210 rfl rfl
set_option maxRecDepth 20000 in
theorem tw_5_211 : (Jvm.Cond.methodLink "SideBySideModel" (165 : Nat) ({ cls := "SideBySideModel", name := "outOfPlace", desc := "(I)I" } : Jvm.MethodName)) ∈ UL := ul_5 211 rfl rfl
set_option maxRecDepth 20000 in
theorem tw_5_213 : (Jvm.Cond.instanceMethod ({ cls := "SideBySideModel", name := "outOfPlace", desc := "(I)I" } : Jvm.MethodName)) ∈ UL := ul_5 213 rfl rfl
set_option maxRecDepth 20000 in
theorem tw_5_214 : (Jvm.Cond.code ({ cls := "SideBySideModel", name := "outOfPlace", desc := "(I)I" } : Jvm.MethodName) prog_14_method_38_code (3 : Nat) (Option.some Jvm.ClassFile.FieldType.int)) ∈ UL := ul_5 214 rfl rfl
set_option maxRecDepth 20000 in
theorem tw_5_215 : (Jvm.Cond.methodLink "SideBySideLaw" (42 : Nat) ({ cls := "SideBySideModel", name := "learns", desc := "(I)I" } : Jvm.MethodName)) ∈ UL := ul_5 215 rfl rfl
set_option maxRecDepth 20000 in
theorem tw_5_216 : (Jvm.Cond.instanceMethod ({ cls := "SideBySideModel", name := "learns", desc := "(I)I" } : Jvm.MethodName)) ∈ UL := ul_5 216 rfl rfl
set_option maxRecDepth 20000 in
theorem tw_5_217 : (Jvm.Cond.selects "SideBySideModel" ({ cls := "SideBySideModel", name := "learns", desc := "(I)I" } : Jvm.MethodName) ({ cls := "SideBySideModel", name := "learns", desc := "(I)I" } : Jvm.MethodName)) ∈ UL := ul_5 217 rfl rfl
set_option maxRecDepth 20000 in
theorem tw_5_218 : (Jvm.Cond.code ({ cls := "SideBySideModel", name := "learns", desc := "(I)I" } : Jvm.MethodName) prog_14_method_40_code (3 : Nat) (Option.some Jvm.ClassFile.FieldType.int)) ∈ UL := ul_5 218 rfl rfl
set_option maxRecDepth 20000 in
theorem tw_5_219 : (Jvm.Cond.methodLink "SideBySideModel" (168 : Nat) ({ cls := "SideBySideModel", name := "wrongKept", desc := "(I)I" } : Jvm.MethodName)) ∈ UL := ul_5 219 rfl rfl
set_option maxRecDepth 20000 in
theorem tw_5_221 : (Jvm.Cond.instanceMethod ({ cls := "SideBySideModel", name := "wrongKept", desc := "(I)I" } : Jvm.MethodName)) ∈ UL := ul_5 221 rfl rfl
set_option maxRecDepth 20000 in
theorem tw_5_222 : (Jvm.Cond.code ({ cls := "SideBySideModel", name := "wrongKept", desc := "(I)I" } : Jvm.MethodName) prog_14_method_94_code (2 : Nat) (Option.some Jvm.ClassFile.FieldType.int)) ∈ UL := ul_5 222 rfl rfl
set_option maxRecDepth 20000 in
theorem tw_5_223 : (Jvm.Cond.methodLink "SideBySideLaw" (47 : Nat) ({ cls := "SideBySideModel", name := "stands", desc := "(III)I" } : Jvm.MethodName)) ∈ UL := ul_5 223 rfl rfl
set_option maxRecDepth 20000 in
theorem tw_5_224 : (Jvm.Cond.instanceMethod ({ cls := "SideBySideModel", name := "stands", desc := "(III)I" } : Jvm.MethodName)) ∈ UL := ul_5 224 rfl rfl
set_option maxRecDepth 20000 in
theorem tw_5_225 : (Jvm.Cond.selects "SideBySideModel" ({ cls := "SideBySideModel", name := "stands", desc := "(III)I" } : Jvm.MethodName) ({ cls := "SideBySideModel", name := "stands", desc := "(III)I" } : Jvm.MethodName)) ∈ UL := ul_5 225 rfl rfl
set_option maxRecDepth 20000 in
theorem tw_5_226 : (Jvm.Cond.code ({ cls := "SideBySideModel", name := "stands", desc := "(III)I" } : Jvm.MethodName) prog_14_method_41_code (5 : Nat) (Option.some Jvm.ClassFile.FieldType.int)) ∈ UL := ul_5 226 rfl rfl
set_option maxRecDepth 20000 in
theorem tw_5_227 : (Jvm.Cond.methodLink "SideBySideLaw" (51 : Nat) ({ cls := "SideBySideModel", name := "tires", desc := "(II)I" } : Jvm.MethodName)) ∈ UL := ul_5 227 rfl rfl
set_option maxRecDepth 20000 in
theorem tw_5_228 : (Jvm.Cond.instanceMethod ({ cls := "SideBySideModel", name := "tires", desc := "(II)I" } : Jvm.MethodName)) ∈ UL := ul_5 228 rfl rfl
set_option maxRecDepth 20000 in
theorem tw_5_229 : (Jvm.Cond.selects "SideBySideModel" ({ cls := "SideBySideModel", name := "tires", desc := "(II)I" } : Jvm.MethodName) ({ cls := "SideBySideModel", name := "tires", desc := "(II)I" } : Jvm.MethodName)) ∈ UL := ul_5 229 rfl rfl
set_option maxRecDepth 20000 in
theorem tw_5_230 : (Jvm.Cond.code ({ cls := "SideBySideModel", name := "tires", desc := "(II)I" } : Jvm.MethodName) prog_14_method_42_code (4 : Nat) (Option.some Jvm.ClassFile.FieldType.int)) ∈ UL := ul_5 230 rfl rfl
set_option maxRecDepth 20000 in
theorem tw_5_231 : (Jvm.Cond.methodLink "SideBySideLaw" (55 : Nat) ({ cls := "SideBySideModel", name := "hands", desc := "(I)I" } : Jvm.MethodName)) ∈ UL := ul_5 231 rfl rfl
set_option maxRecDepth 20000 in
theorem tw_5_232 : (Jvm.Cond.instanceMethod ({ cls := "SideBySideModel", name := "hands", desc := "(I)I" } : Jvm.MethodName)) ∈ UL := ul_5 232 rfl rfl
set_option maxRecDepth 20000 in
theorem tw_5_233 : (Jvm.Cond.selects "SideBySideModel" ({ cls := "SideBySideModel", name := "hands", desc := "(I)I" } : Jvm.MethodName) ({ cls := "SideBySideModel", name := "hands", desc := "(I)I" } : Jvm.MethodName)) ∈ UL := ul_5 233 rfl rfl
set_option maxRecDepth 20000 in
theorem tw_5_234 : (Jvm.Cond.code ({ cls := "SideBySideModel", name := "hands", desc := "(I)I" } : Jvm.MethodName) prog_14_method_43_code (2 : Nat) (Option.some Jvm.ClassFile.FieldType.int)) ∈ UL := ul_5 234 rfl rfl
set_option maxRecDepth 20000 in
theorem tw_5_235 : (Jvm.Cond.methodLink "SideBySideLaw" (59 : Nat) ({ cls := "SideBySideModel", name := "forms", desc := "(III)I" } : Jvm.MethodName)) ∈ UL := ul_5 235 rfl rfl
set_option maxRecDepth 20000 in
theorem tw_5_236 : (Jvm.Cond.instanceMethod ({ cls := "SideBySideModel", name := "forms", desc := "(III)I" } : Jvm.MethodName)) ∈ UL := ul_5 236 rfl rfl
set_option maxRecDepth 20000 in
theorem tw_5_237 : (Jvm.Cond.selects "SideBySideModel" ({ cls := "SideBySideModel", name := "forms", desc := "(III)I" } : Jvm.MethodName) ({ cls := "SideBySideModel", name := "forms", desc := "(III)I" } : Jvm.MethodName)) ∈ UL := ul_5 237 rfl rfl
set_option maxRecDepth 20000 in
theorem tw_5_238 : (Jvm.Cond.code ({ cls := "SideBySideModel", name := "forms", desc := "(III)I" } : Jvm.MethodName) prog_14_method_44_code (5 : Nat) (Option.some Jvm.ClassFile.FieldType.int)) ∈ UL := ul_5 238 rfl rfl
set_option maxRecDepth 20000 in
theorem tw_5_239 : (Jvm.Cond.methodLink "SideBySideLaw" (63 : Nat) ({ cls := "SideBySideModel", name := "blows", desc := "(I)I" } : Jvm.MethodName)) ∈ UL := ul_5 239 rfl rfl
set_option maxRecDepth 20000 in
theorem tw_6_0 : (Jvm.Cond.instanceMethod ({ cls := "SideBySideModel", name := "blows", desc := "(I)I" } : Jvm.MethodName)) ∈ UL := ul_6 0 rfl rfl
set_option maxRecDepth 20000 in
theorem tw_6_1 : (Jvm.Cond.selects "SideBySideModel" ({ cls := "SideBySideModel", name := "blows", desc := "(I)I" } : Jvm.MethodName) ({ cls := "SideBySideModel", name := "blows", desc := "(I)I" } : Jvm.MethodName)) ∈ UL := ul_6 1 rfl rfl
set_option maxRecDepth 20000 in
theorem tw_6_2 : (Jvm.Cond.code ({ cls := "SideBySideModel", name := "blows", desc := "(I)I" } : Jvm.MethodName) prog_14_method_45_code (3 : Nat) (Option.some Jvm.ClassFile.FieldType.int)) ∈ UL := ul_6 2 rfl rfl
set_option maxRecDepth 20000 in
theorem tw_6_3 : (Jvm.Cond.methodLink "SideBySideLaw" (67 : Nat) ({ cls := "SideBySideModel", name := "hit", desc := "(II)I" } : Jvm.MethodName)) ∈ UL := ul_6 3 rfl rfl
set_option maxRecDepth 20000 in
theorem tw_6_4 : (Jvm.Cond.instanceMethod ({ cls := "SideBySideModel", name := "hit", desc := "(II)I" } : Jvm.MethodName)) ∈ UL := ul_6 4 rfl rfl
set_option maxRecDepth 20000 in
theorem tw_6_5 : (Jvm.Cond.selects "SideBySideModel" ({ cls := "SideBySideModel", name := "hit", desc := "(II)I" } : Jvm.MethodName) ({ cls := "SideBySideModel", name := "hit", desc := "(II)I" } : Jvm.MethodName)) ∈ UL := ul_6 5 rfl rfl
set_option maxRecDepth 20000 in
theorem tw_6_6 : (Jvm.Cond.code ({ cls := "SideBySideModel", name := "hit", desc := "(II)I" } : Jvm.MethodName) prog_14_method_46_code (4 : Nat) (Option.some Jvm.ClassFile.FieldType.int)) ∈ UL := ul_6 6 rfl rfl
set_option maxRecDepth 20000 in
theorem tw_6_7 : (Jvm.Cond.methodLink "SideBySideLaw" (71 : Nat) ({ cls := "SideBySideModel", name := "whose", desc := "(II)I" } : Jvm.MethodName)) ∈ UL := ul_6 7 rfl rfl
set_option maxRecDepth 20000 in
theorem tw_6_8 : (Jvm.Cond.instanceMethod ({ cls := "SideBySideModel", name := "whose", desc := "(II)I" } : Jvm.MethodName)) ∈ UL := ul_6 8 rfl rfl
set_option maxRecDepth 20000 in
theorem tw_6_9 : (Jvm.Cond.selects "SideBySideModel" ({ cls := "SideBySideModel", name := "whose", desc := "(II)I" } : Jvm.MethodName) ({ cls := "SideBySideModel", name := "whose", desc := "(II)I" } : Jvm.MethodName)) ∈ UL := ul_6 9 rfl rfl
set_option maxRecDepth 20000 in
theorem tw_6_10 : (Jvm.Cond.code ({ cls := "SideBySideModel", name := "whose", desc := "(II)I" } : Jvm.MethodName) prog_14_method_51_code (3 : Nat) (Option.some Jvm.ClassFile.FieldType.int)) ∈ UL := ul_6 10 rfl rfl
set_option maxRecDepth 20000 in
theorem tw_6_11 : (Jvm.Cond.methodLink "SideBySideModel" (174 : Nat) ({ cls := "SideBySideModel", name := "isHit", desc := "(II)Z" } : Jvm.MethodName)) ∈ UL := ul_6 11 rfl rfl
set_option maxRecDepth 20000 in
theorem tw_6_13 : (Jvm.Cond.instanceMethod ({ cls := "SideBySideModel", name := "isHit", desc := "(II)Z" } : Jvm.MethodName)) ∈ UL := ul_6 13 rfl rfl
set_option maxRecDepth 20000 in
theorem tw_6_14 : (Jvm.Cond.code ({ cls := "SideBySideModel", name := "isHit", desc := "(II)Z" } : Jvm.MethodName) prog_14_method_50_code (3 : Nat) (Option.some Jvm.ClassFile.FieldType.boolean)) ∈ UL := ul_6 14 rfl rfl
set_option maxRecDepth 20000 in
theorem tw_6_15 : (Jvm.Cond.methodLink "SideBySideModel" (177 : Nat) ({ cls := "SideBySideModel", name := "whoseNow", desc := "(II)I" } : Jvm.MethodName)) ∈ UL := ul_6 15 rfl rfl
set_option maxRecDepth 20000 in
theorem tw_6_17 : (Jvm.Cond.instanceMethod ({ cls := "SideBySideModel", name := "whoseNow", desc := "(II)I" } : Jvm.MethodName)) ∈ UL := ul_6 17 rfl rfl
set_option maxRecDepth 20000 in
theorem tw_6_18 : (Jvm.Cond.code ({ cls := "SideBySideModel", name := "whoseNow", desc := "(II)I" } : Jvm.MethodName) prog_14_method_48_code (3 : Nat) (Option.some Jvm.ClassFile.FieldType.int)) ∈ UL := ul_6 18 rfl rfl
set_option maxRecDepth 20000 in
theorem tw_6_19 : (Jvm.Cond.methodLink "SideBySideModel" (171 : Nat) ({ cls := "SideBySideModel", name := "otherSide", desc := "()I" } : Jvm.MethodName)) ∈ UL := ul_6 19 rfl rfl
set_option maxRecDepth 20000 in
theorem tw_6_21 : (Jvm.Cond.instanceMethod ({ cls := "SideBySideModel", name := "otherSide", desc := "()I" } : Jvm.MethodName)) ∈ UL := ul_6 21 rfl rfl
set_option maxRecDepth 20000 in
theorem tw_6_22 : (Jvm.Cond.code ({ cls := "SideBySideModel", name := "otherSide", desc := "()I" } : Jvm.MethodName) prog_14_method_47_code (1 : Nat) (Option.some Jvm.ClassFile.FieldType.int)) ∈ UL := ul_6 22 rfl rfl
set_option maxRecDepth 20000 in
theorem tw_6_23 : (Jvm.Cond.methodLink "SideBySideLaw" (75 : Nat) ({ cls := "SideBySideModel", name := "wins", desc := "(II)I" } : Jvm.MethodName)) ∈ UL := ul_6 23 rfl rfl
set_option maxRecDepth 20000 in
theorem tw_6_24 : (Jvm.Cond.instanceMethod ({ cls := "SideBySideModel", name := "wins", desc := "(II)I" } : Jvm.MethodName)) ∈ UL := ul_6 24 rfl rfl
set_option maxRecDepth 20000 in
theorem tw_6_25 : (Jvm.Cond.selects "SideBySideModel" ({ cls := "SideBySideModel", name := "wins", desc := "(II)I" } : Jvm.MethodName) ({ cls := "SideBySideModel", name := "wins", desc := "(II)I" } : Jvm.MethodName)) ∈ UL := ul_6 25 rfl rfl
set_option maxRecDepth 20000 in
theorem tw_6_26 : (Jvm.Cond.code ({ cls := "SideBySideModel", name := "wins", desc := "(II)I" } : Jvm.MethodName) prog_14_method_52_code (3 : Nat) (Option.some Jvm.ClassFile.FieldType.int)) ∈ UL := ul_6 26 rfl rfl
set_option maxRecDepth 20000 in
theorem tw_6_27 : (Jvm.Cond.methodLink "SideBySideModel" (180 : Nat) ({ cls := "SideBySideModel", name := "isWon", desc := "(II)Z" } : Jvm.MethodName)) ∈ UL := ul_6 27 rfl rfl
set_option maxRecDepth 20000 in
theorem tw_6_29 : (Jvm.Cond.instanceMethod ({ cls := "SideBySideModel", name := "isWon", desc := "(II)Z" } : Jvm.MethodName)) ∈ UL := ul_6 29 rfl rfl
set_option maxRecDepth 20000 in
theorem tw_6_30 : (Jvm.Cond.code ({ cls := "SideBySideModel", name := "isWon", desc := "(II)Z" } : Jvm.MethodName) prog_14_method_49_code (3 : Nat) (Option.some Jvm.ClassFile.FieldType.boolean)) ∈ UL := ul_6 30 rfl rfl
set_option maxRecDepth 20000 in
theorem tw_6_31 : (Jvm.Cond.methodLink "SideBySideLaw" (79 : Nat) ({ cls := "SideBySideModel", name := "falls", desc := "(II)I" } : Jvm.MethodName)) ∈ UL := ul_6 31 rfl rfl
set_option maxRecDepth 20000 in
theorem tw_6_32 : (Jvm.Cond.instanceMethod ({ cls := "SideBySideModel", name := "falls", desc := "(II)I" } : Jvm.MethodName)) ∈ UL := ul_6 32 rfl rfl
set_option maxRecDepth 20000 in
theorem tw_6_33 : (Jvm.Cond.selects "SideBySideModel" ({ cls := "SideBySideModel", name := "falls", desc := "(II)I" } : Jvm.MethodName) ({ cls := "SideBySideModel", name := "falls", desc := "(II)I" } : Jvm.MethodName)) ∈ UL := ul_6 33 rfl rfl
set_option maxRecDepth 20000 in
theorem tw_6_34 : (Jvm.Cond.code ({ cls := "SideBySideModel", name := "falls", desc := "(II)I" } : Jvm.MethodName) prog_14_method_53_code (3 : Nat) (Option.some Jvm.ClassFile.FieldType.int)) ∈ UL := ul_6 34 rfl rfl
set_option maxRecDepth 20000 in
theorem tw_6_35 : (Jvm.Cond.methodLink "SideBySideLaw" (83 : Nat) ({ cls := "SideBySideModel", name := "open", desc := "(I)I" } : Jvm.MethodName)) ∈ UL := ul_6 35 rfl rfl
set_option maxRecDepth 20000 in
theorem tw_6_36 : (Jvm.Cond.instanceMethod ({ cls := "SideBySideModel", name := "open", desc := "(I)I" } : Jvm.MethodName)) ∈ UL := ul_6 36 rfl rfl
set_option maxRecDepth 20000 in
theorem tw_6_37 : (Jvm.Cond.selects "SideBySideModel" ({ cls := "SideBySideModel", name := "open", desc := "(I)I" } : Jvm.MethodName) ({ cls := "SideBySideModel", name := "open", desc := "(I)I" } : Jvm.MethodName)) ∈ UL := ul_6 37 rfl rfl
set_option maxRecDepth 20000 in
theorem tw_6_38 : (Jvm.Cond.code ({ cls := "SideBySideModel", name := "open", desc := "(I)I" } : Jvm.MethodName) prog_14_method_55_code (2 : Nat) (Option.some Jvm.ClassFile.FieldType.int)) ∈ UL := ul_6 38 rfl rfl
set_option maxRecDepth 20000 in
theorem tw_6_39 : (Jvm.Cond.methodLink "SideBySideModel" (183 : Nat) ({ cls := "SideBySideModel", name := "openTo", desc := "(I)I" } : Jvm.MethodName)) ∈ UL := ul_6 39 rfl rfl
set_option maxRecDepth 20000 in
theorem tw_6_41 : (Jvm.Cond.instanceMethod ({ cls := "SideBySideModel", name := "openTo", desc := "(I)I" } : Jvm.MethodName)) ∈ UL := ul_6 41 rfl rfl
set_option maxRecDepth 20000 in
theorem tw_6_42 : (Jvm.Cond.code ({ cls := "SideBySideModel", name := "openTo", desc := "(I)I" } : Jvm.MethodName) prog_14_method_54_code (4 : Nat) (Option.some Jvm.ClassFile.FieldType.int)) ∈ UL := ul_6 42 rfl rfl
set_option maxRecDepth 20000 in
theorem tw_6_43 : (Jvm.Cond.methodLink "SideBySideLaw" (88 : Nat) ({ cls := "SideBySideModel", name := "forced", desc := "()I" } : Jvm.MethodName)) ∈ UL := ul_6 43 rfl rfl
set_option maxRecDepth 20000 in
theorem tw_6_44 : (Jvm.Cond.instanceMethod ({ cls := "SideBySideModel", name := "forced", desc := "()I" } : Jvm.MethodName)) ∈ UL := ul_6 44 rfl rfl
set_option maxRecDepth 20000 in
theorem tw_6_45 : (Jvm.Cond.selects "SideBySideModel" ({ cls := "SideBySideModel", name := "forced", desc := "()I" } : Jvm.MethodName) ({ cls := "SideBySideModel", name := "forced", desc := "()I" } : Jvm.MethodName)) ∈ UL := ul_6 45 rfl rfl
set_option maxRecDepth 20000 in
theorem tw_6_46 : (Jvm.Cond.code ({ cls := "SideBySideModel", name := "forced", desc := "()I" } : Jvm.MethodName) prog_14_method_56_code (2 : Nat) (Option.some Jvm.ClassFile.FieldType.int)) ∈ UL := ul_6 46 rfl rfl
set_option maxRecDepth 20000 in
theorem tw_6_47 : (Jvm.Cond.methodLink "SideBySideLaw" (92 : Nat) ({ cls := "SideBySideModel", name := "farthest", desc := "(II)I" } : Jvm.MethodName)) ∈ UL := ul_6 47 rfl rfl
set_option maxRecDepth 20000 in
theorem tw_6_48 : (Jvm.Cond.instanceMethod ({ cls := "SideBySideModel", name := "farthest", desc := "(II)I" } : Jvm.MethodName)) ∈ UL := ul_6 48 rfl rfl
set_option maxRecDepth 20000 in
theorem tw_6_49 : (Jvm.Cond.selects "SideBySideModel" ({ cls := "SideBySideModel", name := "farthest", desc := "(II)I" } : Jvm.MethodName) ({ cls := "SideBySideModel", name := "farthest", desc := "(II)I" } : Jvm.MethodName)) ∈ UL := ul_6 49 rfl rfl
set_option maxRecDepth 20000 in
theorem tw_6_50 : (Jvm.Cond.code ({ cls := "SideBySideModel", name := "farthest", desc := "(II)I" } : Jvm.MethodName) prog_14_method_58_code (5 : Nat) (Option.some Jvm.ClassFile.FieldType.int)) ∈ UL := ul_6 50 rfl rfl
set_option maxRecDepth 20000 in
theorem tw_6_51 : (Jvm.Cond.methodLink "SideBySideModel" (186 : Nat) ({ cls := "SideBySideModel", name := "leads", desc := "(II)I" } : Jvm.MethodName)) ∈ UL := ul_6 51 rfl rfl
set_option maxRecDepth 20000 in
theorem tw_6_53 : (Jvm.Cond.instanceMethod ({ cls := "SideBySideModel", name := "leads", desc := "(II)I" } : Jvm.MethodName)) ∈ UL := ul_6 53 rfl rfl
set_option maxRecDepth 20000 in
theorem tw_6_54 : (Jvm.Cond.code ({ cls := "SideBySideModel", name := "leads", desc := "(II)I" } : Jvm.MethodName) prog_14_method_57_code (4 : Nat) (Option.some Jvm.ClassFile.FieldType.int)) ∈ UL := ul_6 54 rfl rfl
set_option maxRecDepth 20000 in
theorem tw_6_55 : (Jvm.Cond.methodLink "SideBySideLaw" (96 : Nat) ({ cls := "SideBySideModel", name := "atWhom", desc := "(I)I" } : Jvm.MethodName)) ∈ UL := ul_6 55 rfl rfl
set_option maxRecDepth 20000 in
theorem tw_6_56 : (Jvm.Cond.instanceMethod ({ cls := "SideBySideModel", name := "atWhom", desc := "(I)I" } : Jvm.MethodName)) ∈ UL := ul_6 56 rfl rfl
set_option maxRecDepth 20000 in
theorem tw_6_57 : (Jvm.Cond.selects "SideBySideModel" ({ cls := "SideBySideModel", name := "atWhom", desc := "(I)I" } : Jvm.MethodName) ({ cls := "SideBySideModel", name := "atWhom", desc := "(I)I" } : Jvm.MethodName)) ∈ UL := ul_6 57 rfl rfl
set_option maxRecDepth 20000 in
theorem tw_6_58 : (Jvm.Cond.code ({ cls := "SideBySideModel", name := "atWhom", desc := "(I)I" } : Jvm.MethodName) prog_14_method_59_code (5 : Nat) (Option.some Jvm.ClassFile.FieldType.int)) ∈ UL := ul_6 58 rfl rfl
set_option maxRecDepth 20000 in
theorem tw_6_59 : (Jvm.Cond.methodLink "SideBySideLaw" (100 : Nat) ({ cls := "SideBySideModel", name := "fewest", desc := "(I)I" } : Jvm.MethodName)) ∈ UL := ul_6 59 rfl rfl
set_option maxRecDepth 20000 in
theorem tw_6_60 : (Jvm.Cond.instanceMethod ({ cls := "SideBySideModel", name := "fewest", desc := "(I)I" } : Jvm.MethodName)) ∈ UL := ul_6 60 rfl rfl
set_option maxRecDepth 20000 in
theorem tw_6_61 : (Jvm.Cond.selects "SideBySideModel" ({ cls := "SideBySideModel", name := "fewest", desc := "(I)I" } : Jvm.MethodName) ({ cls := "SideBySideModel", name := "fewest", desc := "(I)I" } : Jvm.MethodName)) ∈ UL := ul_6 61 rfl rfl
set_option maxRecDepth 20000 in
theorem tw_6_62 : (Jvm.Cond.code ({ cls := "SideBySideModel", name := "fewest", desc := "(I)I" } : Jvm.MethodName) prog_14_method_61_code (6 : Nat) (Option.some Jvm.ClassFile.FieldType.int)) ∈ UL := ul_6 62 rfl rfl
set_option maxRecDepth 20000 in
theorem tw_6_63 : (Jvm.Cond.methodLink "SideBySideModel" (189 : Nat) ({ cls := "SideBySideModel", name := "forced", desc := "()I" } : Jvm.MethodName)) ∈ UL := ul_6 63 rfl rfl
set_option maxRecDepth 20000 in
theorem tw_6_64 : (Jvm.Cond.methodLink "SideBySideModel" (192 : Nat) ({ cls := "SideBySideModel", name := "isWonInThree", desc := "(II)Z" } : Jvm.MethodName)) ∈ UL := ul_6 64 rfl rfl
set_option maxRecDepth 20000 in
theorem tw_6_66 : (Jvm.Cond.instanceMethod ({ cls := "SideBySideModel", name := "isWonInThree", desc := "(II)Z" } : Jvm.MethodName)) ∈ UL := ul_6 66 rfl rfl
set_option maxRecDepth 20000 in
theorem tw_6_67 : (Jvm.Cond.code ({ cls := "SideBySideModel", name := "isWonInThree", desc := "(II)Z" } : Jvm.MethodName) prog_14_method_60_code (3 : Nat) (Option.some Jvm.ClassFile.FieldType.boolean)) ∈ UL := ul_6 67 rfl rfl
set_option maxRecDepth 20000 in
theorem tw_6_68 : (Jvm.Cond.methodLink "SideBySideLaw" (104 : Nat) ({ cls := "SideBySideModel", name := "bestForm", desc := "(II)I" } : Jvm.MethodName)) ∈ UL := ul_6 68 rfl rfl
set_option maxRecDepth 20000 in
theorem tw_6_69 : (Jvm.Cond.instanceMethod ({ cls := "SideBySideModel", name := "bestForm", desc := "(II)I" } : Jvm.MethodName)) ∈ UL := ul_6 69 rfl rfl
set_option maxRecDepth 20000 in
theorem tw_6_70 : (Jvm.Cond.selects "SideBySideModel" ({ cls := "SideBySideModel", name := "bestForm", desc := "(II)I" } : Jvm.MethodName) ({ cls := "SideBySideModel", name := "bestForm", desc := "(II)I" } : Jvm.MethodName)) ∈ UL := ul_6 70 rfl rfl
set_option maxRecDepth 20000 in
theorem tw_6_71 : (Jvm.Cond.code ({ cls := "SideBySideModel", name := "bestForm", desc := "(II)I" } : Jvm.MethodName) prog_14_method_64_code (3 : Nat) (Option.some Jvm.ClassFile.FieldType.int)) ∈ UL := ul_6 71 rfl rfl
set_option maxRecDepth 20000 in
theorem tw_6_72 : (Jvm.Cond.methodLink "SideBySideModel" (199 : Nat) ({ cls := "SideBySideModel", name := "bestOf", desc := "(IIII)I" } : Jvm.MethodName)) ∈ UL := ul_6 72 rfl rfl
set_option maxRecDepth 20000 in
theorem tw_6_74 : (Jvm.Cond.instanceMethod ({ cls := "SideBySideModel", name := "bestOf", desc := "(IIII)I" } : Jvm.MethodName)) ∈ UL := ul_6 74 rfl rfl
set_option maxRecDepth 20000 in
theorem tw_6_75 : (Jvm.Cond.code ({ cls := "SideBySideModel", name := "bestOf", desc := "(IIII)I" } : Jvm.MethodName) prog_14_method_63_code (10 : Nat) (Option.some Jvm.ClassFile.FieldType.int)) ∈ UL := ul_6 75 rfl rfl
set_option maxRecDepth 20000 in
theorem tw_6_76 : (Jvm.Cond.methodLink "SideBySideModel" (195 : Nat) ({ cls := "SideBySideModel", name := "isHeld", desc := "(IIII)Z" } : Jvm.MethodName)) ∈ UL := ul_6 76 rfl rfl
set_option maxRecDepth 20000 in
theorem tw_6_78 : (Jvm.Cond.instanceMethod ({ cls := "SideBySideModel", name := "isHeld", desc := "(IIII)Z" } : Jvm.MethodName)) ∈ UL := ul_6 78 rfl rfl
set_option maxRecDepth 20000 in
theorem tw_6_79 : (Jvm.Cond.code ({ cls := "SideBySideModel", name := "isHeld", desc := "(IIII)Z" } : Jvm.MethodName) prog_14_method_62_code (5 : Nat) (Option.some Jvm.ClassFile.FieldType.boolean)) ∈ UL := ul_6 79 rfl rfl
set_option maxRecDepth 20000 in
theorem tw_6_80 : (Jvm.Cond.methodLink "SideBySideLaw" (108 : Nat) ({ cls := "SideBySideModel", name := "bestHabit", desc := "(II)I" } : Jvm.MethodName)) ∈ UL := ul_6 80 rfl rfl
set_option maxRecDepth 20000 in
theorem tw_6_81 : (Jvm.Cond.instanceMethod ({ cls := "SideBySideModel", name := "bestHabit", desc := "(II)I" } : Jvm.MethodName)) ∈ UL := ul_6 81 rfl rfl
set_option maxRecDepth 20000 in
theorem tw_6_82 : (Jvm.Cond.selects "SideBySideModel" ({ cls := "SideBySideModel", name := "bestHabit", desc := "(II)I" } : Jvm.MethodName) ({ cls := "SideBySideModel", name := "bestHabit", desc := "(II)I" } : Jvm.MethodName)) ∈ UL := ul_6 82 rfl rfl
set_option maxRecDepth 20000 in
theorem tw_6_83 : (Jvm.Cond.code ({ cls := "SideBySideModel", name := "bestHabit", desc := "(II)I" } : Jvm.MethodName) prog_14_method_65_code (3 : Nat) (Option.some Jvm.ClassFile.FieldType.int)) ∈ UL := ul_6 83 rfl rfl
set_option maxRecDepth 20000 in
theorem tw_6_84 : (Jvm.Cond.methodLink "SideBySideLaw" (113 : Nat) ({ cls := "SideBySideModel", name := "change", desc := "(IIII)I" } : Jvm.MethodName)) ∈ UL := ul_6 84 rfl rfl
set_option maxRecDepth 20000 in
theorem tw_6_85 : (Jvm.Cond.instanceMethod ({ cls := "SideBySideModel", name := "change", desc := "(IIII)I" } : Jvm.MethodName)) ∈ UL := ul_6 85 rfl rfl
set_option maxRecDepth 20000 in
theorem tw_6_86 : (Jvm.Cond.selects "SideBySideModel" ({ cls := "SideBySideModel", name := "change", desc := "(IIII)I" } : Jvm.MethodName) ({ cls := "SideBySideModel", name := "change", desc := "(IIII)I" } : Jvm.MethodName)) ∈ UL := ul_6 86 rfl rfl
set_option maxRecDepth 20000 in
theorem tw_6_87 : (Jvm.Cond.code ({ cls := "SideBySideModel", name := "change", desc := "(IIII)I" } : Jvm.MethodName) prog_14_method_66_code (6 : Nat) (Option.some Jvm.ClassFile.FieldType.int)) ∈ UL := ul_6 87 rfl rfl
set_option maxRecDepth 20000 in
theorem tw_6_88 : (Jvm.Cond.methodLink "SideBySideLaw" (117 : Nat) ({ cls := "SideBySideModel", name := "rally", desc := "(II)I" } : Jvm.MethodName)) ∈ UL := ul_6 88 rfl rfl
set_option maxRecDepth 20000 in
theorem tw_6_89 : (Jvm.Cond.instanceMethod ({ cls := "SideBySideModel", name := "rally", desc := "(II)I" } : Jvm.MethodName)) ∈ UL := ul_6 89 rfl rfl
set_option maxRecDepth 20000 in
theorem tw_6_90 : (Jvm.Cond.selects "SideBySideModel" ({ cls := "SideBySideModel", name := "rally", desc := "(II)I" } : Jvm.MethodName) ({ cls := "SideBySideModel", name := "rally", desc := "(II)I" } : Jvm.MethodName)) ∈ UL := ul_6 90 rfl rfl
set_option maxRecDepth 20000 in
theorem tw_6_91 : (Jvm.Cond.code ({ cls := "SideBySideModel", name := "rally", desc := "(II)I" } : Jvm.MethodName) prog_14_method_69_code (4 : Nat) (Option.some Jvm.ClassFile.FieldType.int)) ∈ UL := ul_6 91 rfl rfl
set_option maxRecDepth 20000 in
theorem tw_6_92 : (Jvm.Cond.methodLink "SideBySideModel" (209 : Nat) ({ cls := "SideBySideModel", name := "wrongRally", desc := "(I)I" } : Jvm.MethodName)) ∈ UL := ul_6 92 rfl rfl
set_option maxRecDepth 20000 in
theorem tw_6_94 : (Jvm.Cond.instanceMethod ({ cls := "SideBySideModel", name := "wrongRally", desc := "(I)I" } : Jvm.MethodName)) ∈ UL := ul_6 94 rfl rfl
set_option maxRecDepth 20000 in
theorem tw_6_95 : (Jvm.Cond.code ({ cls := "SideBySideModel", name := "wrongRally", desc := "(I)I" } : Jvm.MethodName) prog_14_method_67_code (4 : Nat) (Option.some Jvm.ClassFile.FieldType.int)) ∈ UL := ul_6 95 rfl rfl
set_option maxRecDepth 20000 in
theorem tw_6_96 : (Jvm.Cond.methodLink "SideBySideModel" (212 : Nat) ({ cls := "SideBySideModel", name := "rallies", desc := "(I)V" } : Jvm.MethodName)) ∈ UL := ul_6 96 rfl rfl
set_option maxRecDepth 20000 in
theorem tw_6_98 : (Jvm.Cond.instanceMethod ({ cls := "SideBySideModel", name := "rallies", desc := "(I)V" } : Jvm.MethodName)) ∈ UL := ul_6 98 rfl rfl
set_option maxRecDepth 20000 in
theorem tw_6_99 : (Jvm.Cond.code ({ cls := "SideBySideModel", name := "rallies", desc := "(I)V" } : Jvm.MethodName) prog_14_method_68_code (4 : Nat) (Option.none : Option Jvm.ClassFile.FieldType)) ∈ UL := ul_6 99 rfl rfl
set_option maxRecDepth 20000 in
theorem tw_6_100 : (Jvm.Cond.methodLink "SideBySideLaw" (121 : Nat) ({ cls := "SideBySideModel", name := "ways", desc := "(II)I" } : Jvm.MethodName)) ∈ UL := ul_6 100 rfl rfl
set_option maxRecDepth 20000 in
theorem tw_6_101 : (Jvm.Cond.instanceMethod ({ cls := "SideBySideModel", name := "ways", desc := "(II)I" } : Jvm.MethodName)) ∈ UL := ul_6 101 rfl rfl
set_option maxRecDepth 20000 in
theorem tw_6_102 : (Jvm.Cond.selects "SideBySideModel" ({ cls := "SideBySideModel", name := "ways", desc := "(II)I" } : Jvm.MethodName) ({ cls := "SideBySideModel", name := "ways", desc := "(II)I" } : Jvm.MethodName)) ∈ UL := ul_6 102 rfl rfl
set_option maxRecDepth 20000 in
theorem tw_6_103 : (Jvm.Cond.code ({ cls := "SideBySideModel", name := "ways", desc := "(II)I" } : Jvm.MethodName) prog_14_method_70_code (4 : Nat) (Option.some Jvm.ClassFile.FieldType.int)) ∈ UL := ul_6 103 rfl rfl
set_option maxRecDepth 20000 in
theorem tw_6_104 : (Jvm.Cond.methodLink "SideBySideLaw" (125 : Nat) ({ cls := "SideBySideModel", name := "spent", desc := "(I)I" } : Jvm.MethodName)) ∈ UL := ul_6 104 rfl rfl
set_option maxRecDepth 20000 in
theorem tw_6_105 : (Jvm.Cond.instanceMethod ({ cls := "SideBySideModel", name := "spent", desc := "(I)I" } : Jvm.MethodName)) ∈ UL := ul_6 105 rfl rfl
set_option maxRecDepth 20000 in
theorem tw_6_106 : (Jvm.Cond.selects "SideBySideModel" ({ cls := "SideBySideModel", name := "spent", desc := "(I)I" } : Jvm.MethodName) ({ cls := "SideBySideModel", name := "spent", desc := "(I)I" } : Jvm.MethodName)) ∈ UL := ul_6 106 rfl rfl
set_option maxRecDepth 20000 in
theorem tw_6_107 : (Jvm.Cond.code ({ cls := "SideBySideModel", name := "spent", desc := "(I)I" } : Jvm.MethodName) prog_14_method_71_code (5 : Nat) (Option.some Jvm.ClassFile.FieldType.int)) ∈ UL := ul_6 107 rfl rfl
set_option maxRecDepth 20000 in
theorem tw_6_108 : (Jvm.Cond.methodLink "SideBySideLaw" (129 : Nat) ({ cls := "SideBySideModel", name := "whatIs", desc := "(III)I" } : Jvm.MethodName)) ∈ UL := ul_6 108 rfl rfl
set_option maxRecDepth 20000 in
theorem tw_6_109 : (Jvm.Cond.instanceMethod ({ cls := "SideBySideModel", name := "whatIs", desc := "(III)I" } : Jvm.MethodName)) ∈ UL := ul_6 109 rfl rfl
set_option maxRecDepth 20000 in
theorem tw_6_110 : (Jvm.Cond.selects "SideBySideModel" ({ cls := "SideBySideModel", name := "whatIs", desc := "(III)I" } : Jvm.MethodName) ({ cls := "SideBySideModel", name := "whatIs", desc := "(III)I" } : Jvm.MethodName)) ∈ UL := ul_6 110 rfl rfl
set_option maxRecDepth 20000 in
theorem tw_6_111 : (Jvm.Cond.code ({ cls := "SideBySideModel", name := "whatIs", desc := "(III)I" } : Jvm.MethodName) prog_14_method_74_code (9 : Nat) (Option.some Jvm.ClassFile.FieldType.int)) ∈ UL := ul_6 111 rfl rfl
set_option maxRecDepth 20000 in
theorem tw_6_112 : (Jvm.Cond.methodLink "SideBySideModel" (220 : Nat) ({ cls := "SideBySideModel", name := "isSkipped", desc := "(II)Z" } : Jvm.MethodName)) ∈ UL := ul_6 112 rfl rfl
set_option maxRecDepth 20000 in
theorem tw_6_114 : (Jvm.Cond.instanceMethod ({ cls := "SideBySideModel", name := "isSkipped", desc := "(II)Z" } : Jvm.MethodName)) ∈ UL := ul_6 114 rfl rfl
set_option maxRecDepth 20000 in
theorem tw_6_115 : (Jvm.Cond.code ({ cls := "SideBySideModel", name := "isSkipped", desc := "(II)Z" } : Jvm.MethodName) prog_14_method_73_code (3 : Nat) (Option.some Jvm.ClassFile.FieldType.boolean)) ∈ UL := ul_6 115 rfl rfl
set_option maxRecDepth 20000 in
theorem tw_6_116 : (Jvm.Cond.methodLink "SideBySideModel" (217 : Nat) ({ cls := "SideBySideModel", name := "leastOf", desc := "(I)I" } : Jvm.MethodName)) ∈ UL := ul_6 116 rfl rfl
set_option maxRecDepth 20000 in
theorem tw_6_117 : (Jvm.Cond.static ({ cls := "SideBySideModel", name := "leastOf", desc := "(I)I" } : Jvm.MethodName)) ∈ UL := ul_6 117 rfl rfl
set_option maxRecDepth 20000 in
theorem tw_6_118 : (Jvm.Cond.code ({ cls := "SideBySideModel", name := "leastOf", desc := "(I)I" } : Jvm.MethodName) prog_14_method_72_code (1 : Nat) (Option.some Jvm.ClassFile.FieldType.int)) ∈ UL := ul_6 118 rfl rfl
set_option maxRecDepth 20000 in
theorem tw_6_119 : (Jvm.Cond.constant "SideBySideModel" (216 : Nat) (-2147483648 : Int32)) ∈ UL := ul_6 119 rfl rfl
set_option maxRecDepth 20000 in
theorem tw_6_120 : (Jvm.Cond.methodLink "SideBySideLaw" (133 : Nat) ({ cls := "SideBySideModel", name := "habits", desc := "(I)I" } : Jvm.MethodName)) ∈ UL := ul_6 120 rfl rfl
set_option maxRecDepth 20000 in
theorem tw_6_121 : (Jvm.Cond.instanceMethod ({ cls := "SideBySideModel", name := "habits", desc := "(I)I" } : Jvm.MethodName)) ∈ UL := ul_6 121 rfl rfl
set_option maxRecDepth 20000 in
theorem tw_6_122 : (Jvm.Cond.selects "SideBySideModel" ({ cls := "SideBySideModel", name := "habits", desc := "(I)I" } : Jvm.MethodName) ({ cls := "SideBySideModel", name := "habits", desc := "(I)I" } : Jvm.MethodName)) ∈ UL := ul_6 122 rfl rfl
set_option maxRecDepth 20000 in
theorem tw_6_123 : (Jvm.Cond.code ({ cls := "SideBySideModel", name := "habits", desc := "(I)I" } : Jvm.MethodName) prog_14_method_75_code (7 : Nat) (Option.some Jvm.ClassFile.FieldType.int)) ∈ UL := ul_6 123 rfl rfl
set_option maxRecDepth 20000 in
theorem tw_6_124 : (Jvm.Cond.methodLink "SideBySideLaw" (137 : Nat) ({ cls := "SideBySideModel", name := "two", desc := "()I" } : Jvm.MethodName)) ∈ UL := ul_6 124 rfl rfl
set_option maxRecDepth 20000 in
theorem tw_6_125 : (Jvm.Cond.instanceMethod ({ cls := "SideBySideModel", name := "two", desc := "()I" } : Jvm.MethodName)) ∈ UL := ul_6 125 rfl rfl
set_option maxRecDepth 20000 in
theorem tw_6_126 : (Jvm.Cond.selects "SideBySideModel" ({ cls := "SideBySideModel", name := "two", desc := "()I" } : Jvm.MethodName) ({ cls := "SideBySideModel", name := "two", desc := "()I" } : Jvm.MethodName)) ∈ UL := ul_6 126 rfl rfl
set_option maxRecDepth 20000 in
theorem tw_6_127 : (Jvm.Cond.code ({ cls := "SideBySideModel", name := "two", desc := "()I" } : Jvm.MethodName) prog_14_method_77_code (4 : Nat) (Option.some Jvm.ClassFile.FieldType.int)) ∈ UL := ul_6 127 rfl rfl
set_option maxRecDepth 20000 in
theorem tw_6_128 : (Jvm.Cond.methodLink "SideBySideModel" (223 : Nat) ({ cls := "SideBySideModel", name := "costBy2", desc := "(III)I" } : Jvm.MethodName)) ∈ UL := ul_6 128 rfl rfl
set_option maxRecDepth 20000 in
theorem tw_6_130 : (Jvm.Cond.instanceMethod ({ cls := "SideBySideModel", name := "costBy2", desc := "(III)I" } : Jvm.MethodName)) ∈ UL := ul_6 130 rfl rfl
set_option maxRecDepth 20000 in
theorem tw_6_131 : (Jvm.Cond.code ({ cls := "SideBySideModel", name := "costBy2", desc := "(III)I" } : Jvm.MethodName) prog_14_method_76_code (7 : Nat) (Option.some Jvm.ClassFile.FieldType.int)) ∈ UL := ul_6 131 rfl rfl
set_option maxRecDepth 20000 in
theorem tw_6_132 : (Jvm.Cond.methodLink "SideBySideLaw" (142 : Nat) ({ cls := "SideBySideModel", name := "draughts", desc := "(III)J" } : Jvm.MethodName)) ∈ UL := ul_6 132 rfl rfl
set_option maxRecDepth 20000 in
theorem tw_6_133 : (Jvm.Cond.instanceMethod ({ cls := "SideBySideModel", name := "draughts", desc := "(III)J" } : Jvm.MethodName)) ∈ UL := ul_6 133 rfl rfl
set_option maxRecDepth 20000 in
theorem tw_6_134 : (Jvm.Cond.selects "SideBySideModel" ({ cls := "SideBySideModel", name := "draughts", desc := "(III)J" } : Jvm.MethodName) ({ cls := "SideBySideModel", name := "draughts", desc := "(III)J" } : Jvm.MethodName)) ∈ UL := ul_6 134 rfl rfl
set_option maxRecDepth 20000 in
theorem tw_6_135 : (Jvm.Cond.code ({ cls := "SideBySideModel", name := "draughts", desc := "(III)J" } : Jvm.MethodName) prog_14_method_81_code (12 : Nat) (Option.some Jvm.ClassFile.FieldType.long)) ∈ UL := ul_6 135 rfl rfl
set_option maxRecDepth 20000 in
theorem tw_6_136 : (Jvm.Cond.constantLong "SideBySideModel" (233 : Nat) (1000000001 : Int64)) ∈ UL := ul_6 136 rfl rfl
set_option maxRecDepth 20000 in
theorem tw_6_137 : (Jvm.Cond.methodLink "SideBySideModel" (230 : Nat) ({ cls := "SideBySideModel", name := "has", desc := "(II)Z" } : Jvm.MethodName)) ∈ UL := ul_6 137 rfl rfl
set_option maxRecDepth 20000 in
theorem tw_6_138 : (Jvm.Cond.static ({ cls := "SideBySideModel", name := "has", desc := "(II)Z" } : Jvm.MethodName)) ∈ UL := ul_6 138 rfl rfl
set_option maxRecDepth 20000 in
theorem tw_6_139 : (Jvm.Cond.code ({ cls := "SideBySideModel", name := "has", desc := "(II)Z" } : Jvm.MethodName) prog_14_method_11_code (2 : Nat) (Option.some Jvm.ClassFile.FieldType.boolean)) ∈ UL := ul_6 139 rfl rfl
set_option maxRecDepth 20000 in
theorem tw_6_140 : (Jvm.Cond.methodLink "SideBySideModel" (235 : Nat) ({ cls := "SideBySideModel", name := "isPointless", desc := "(II)Z" } : Jvm.MethodName)) ∈ UL := ul_6 140 rfl rfl
set_option maxRecDepth 20000 in
theorem tw_6_142 : (Jvm.Cond.instanceMethod ({ cls := "SideBySideModel", name := "isPointless", desc := "(II)Z" } : Jvm.MethodName)) ∈ UL := ul_6 142 rfl rfl
set_option maxRecDepth 20000 in
theorem tw_6_143 : (Jvm.Cond.code ({ cls := "SideBySideModel", name := "isPointless", desc := "(II)Z" } : Jvm.MethodName) prog_14_method_80_code (4 : Nat) (Option.some Jvm.ClassFile.FieldType.boolean)) ∈ UL := ul_6 143 rfl rfl
set_option maxRecDepth 20000 in
theorem tw_6_144 : (Jvm.Cond.methodLink "SideBySideModel" (238 : Nat) ({ cls := "SideBySideModel", name := "partOf", desc := "(JJI)J" } : Jvm.MethodName)) ∈ UL := ul_6 144 rfl rfl
set_option maxRecDepth 20000 in
theorem tw_6_145 : (Jvm.Cond.static ({ cls := "SideBySideModel", name := "partOf", desc := "(JJI)J" } : Jvm.MethodName)) ∈ UL := ul_6 145 rfl rfl
set_option maxRecDepth 20000 in
theorem tw_6_146 : (Jvm.Cond.code ({ cls := "SideBySideModel", name := "partOf", desc := "(JJI)J" } : Jvm.MethodName) prog_14_method_79_code (5 : Nat) (Option.some Jvm.ClassFile.FieldType.long)) ∈ UL := ul_6 146 rfl rfl
set_option maxRecDepth 20000 in
theorem tw_6_147 : (Jvm.Cond.methodLink "SideBySideModel" (226 : Nat) ({ cls := "SideBySideModel", name := "gcd", desc := "(JJ)J" } : Jvm.MethodName)) ∈ UL := ul_6 147 rfl rfl
set_option maxRecDepth 20000 in
theorem tw_6_148 : (Jvm.Cond.static ({ cls := "SideBySideModel", name := "gcd", desc := "(JJ)J" } : Jvm.MethodName)) ∈ UL := ul_6 148 rfl rfl
set_option maxRecDepth 20000 in
theorem tw_6_149 : (Jvm.Cond.code ({ cls := "SideBySideModel", name := "gcd", desc := "(JJ)J" } : Jvm.MethodName) prog_14_method_78_code (10 : Nat) (Option.some Jvm.ClassFile.FieldType.long)) ∈ UL := ul_6 149 rfl rfl
set_option maxRecDepth 20000 in
theorem tw_6_150 : (Jvm.Cond.methodLink "SideBySideLaw" (147 : Nat) ({ cls := "SideBySideModel", name := "mean", desc := "(I)J" } : Jvm.MethodName)) ∈ UL := ul_6 150 rfl rfl
set_option maxRecDepth 20000 in
theorem tw_6_151 : (Jvm.Cond.instanceMethod ({ cls := "SideBySideModel", name := "mean", desc := "(I)J" } : Jvm.MethodName)) ∈ UL := ul_6 151 rfl rfl
set_option maxRecDepth 20000 in
theorem tw_6_152 : (Jvm.Cond.selects "SideBySideModel" ({ cls := "SideBySideModel", name := "mean", desc := "(I)J" } : Jvm.MethodName) ({ cls := "SideBySideModel", name := "mean", desc := "(I)J" } : Jvm.MethodName)) ∈ UL := ul_6 152 rfl rfl
set_option maxRecDepth 20000 in
theorem tw_6_153 : (Jvm.Cond.code ({ cls := "SideBySideModel", name := "mean", desc := "(I)J" } : Jvm.MethodName) prog_14_method_83_code (2 : Nat) (Option.some Jvm.ClassFile.FieldType.long)) ∈ UL := ul_6 153 rfl rfl
set_option maxRecDepth 20000 in
theorem tw_6_154 : (Jvm.Cond.methodLink "SideBySideModel" (242 : Nat) ({ cls := "SideBySideModel", name := "allTired", desc := "()I" } : Jvm.MethodName)) ∈ UL := ul_6 154 rfl rfl
set_option maxRecDepth 20000 in
theorem tw_6_156 : (Jvm.Cond.instanceMethod ({ cls := "SideBySideModel", name := "allTired", desc := "()I" } : Jvm.MethodName)) ∈ UL := ul_6 156 rfl rfl
set_option maxRecDepth 20000 in
theorem tw_6_157 : (Jvm.Cond.code ({ cls := "SideBySideModel", name := "allTired", desc := "()I" } : Jvm.MethodName) prog_14_method_82_code (3 : Nat) (Option.some Jvm.ClassFile.FieldType.int)) ∈ UL := ul_6 157 rfl rfl
set_option maxRecDepth 20000 in
theorem tw_6_158 : (Jvm.Cond.constantLong "SideBySideModel" (245 : Nat) (4 : Int64)) ∈ UL := ul_6 158 rfl rfl
set_option maxRecDepth 20000 in
theorem tw_6_159 : (Jvm.Cond.methodLink "SideBySideLaw" (151 : Nat) ({ cls := "SideBySideModel", name := "forged", desc := "(I)I" } : Jvm.MethodName)) ∈ UL := ul_6 159 rfl rfl
set_option maxRecDepth 20000 in
theorem tw_6_160 : (Jvm.Cond.instanceMethod ({ cls := "SideBySideModel", name := "forged", desc := "(I)I" } : Jvm.MethodName)) ∈ UL := ul_6 160 rfl rfl
set_option maxRecDepth 20000 in
theorem tw_6_161 : (Jvm.Cond.selects "SideBySideModel" ({ cls := "SideBySideModel", name := "forged", desc := "(I)I" } : Jvm.MethodName) ({ cls := "SideBySideModel", name := "forged", desc := "(I)I" } : Jvm.MethodName)) ∈ UL := ul_6 161 rfl rfl
set_option maxRecDepth 20000 in
theorem tw_6_162 : (Jvm.Cond.code ({ cls := "SideBySideModel", name := "forged", desc := "(I)I" } : Jvm.MethodName) prog_14_method_84_code (7 : Nat) (Option.some Jvm.ClassFile.FieldType.int)) ∈ UL := ul_6 162 rfl rfl
set_option maxRecDepth 20000 in
theorem tw_6_163 : (Jvm.Cond.methodLink "SideBySideLaw" (155 : Nat) ({ cls := "SideBySideModel", name := "judge", desc := "(I)I" } : Jvm.MethodName)) ∈ UL := ul_6 163 rfl rfl
set_option maxRecDepth 20000 in
theorem tw_6_164 : (Jvm.Cond.instanceMethod ({ cls := "SideBySideModel", name := "judge", desc := "(I)I" } : Jvm.MethodName)) ∈ UL := ul_6 164 rfl rfl
set_option maxRecDepth 20000 in
theorem tw_6_165 : (Jvm.Cond.selects "SideBySideModel" ({ cls := "SideBySideModel", name := "judge", desc := "(I)I" } : Jvm.MethodName) ({ cls := "SideBySideModel", name := "judge", desc := "(I)I" } : Jvm.MethodName)) ∈ UL := ul_6 165 rfl rfl
set_option maxRecDepth 20000 in
theorem tw_6_166 : (Jvm.Cond.code ({ cls := "SideBySideModel", name := "judge", desc := "(I)I" } : Jvm.MethodName) prog_14_method_85_code (5 : Nat) (Option.some Jvm.ClassFile.FieldType.int)) ∈ UL := ul_6 166 rfl rfl
set_option maxRecDepth 20000 in
theorem tw_6_167 : (Jvm.Cond.methodLink "SideBySideLaw" (159 : Nat) ({ cls := "SideBySideModel", name := "nights", desc := "(III)I" } : Jvm.MethodName)) ∈ UL := ul_6 167 rfl rfl
set_option maxRecDepth 20000 in
theorem tw_6_168 : (Jvm.Cond.instanceMethod ({ cls := "SideBySideModel", name := "nights", desc := "(III)I" } : Jvm.MethodName)) ∈ UL := ul_6 168 rfl rfl
set_option maxRecDepth 20000 in
theorem tw_6_169 : (Jvm.Cond.selects "SideBySideModel" ({ cls := "SideBySideModel", name := "nights", desc := "(III)I" } : Jvm.MethodName) ({ cls := "SideBySideModel", name := "nights", desc := "(III)I" } : Jvm.MethodName)) ∈ UL := ul_6 169 rfl rfl
set_option maxRecDepth 20000 in
theorem tw_6_170 : (Jvm.Cond.code ({ cls := "SideBySideModel", name := "nights", desc := "(III)I" } : Jvm.MethodName) prog_14_method_87_code (9 : Nat) (Option.some Jvm.ClassFile.FieldType.int)) ∈ UL := ul_6 170 rfl rfl
set_option maxRecDepth 20000 in
theorem tw_6_171 : (Jvm.Cond.methodLink "SideBySideModel" (253 : Nat) ({ cls := "SideBySideModel", name := "drawn", desc := "(I)I" } : Jvm.MethodName)) ∈ UL := ul_6 171 rfl rfl
set_option maxRecDepth 20000 in
theorem tw_6_173 : (Jvm.Cond.instanceMethod ({ cls := "SideBySideModel", name := "drawn", desc := "(I)I" } : Jvm.MethodName)) ∈ UL := ul_6 173 rfl rfl
set_option maxRecDepth 20000 in
theorem tw_6_174 : (Jvm.Cond.code ({ cls := "SideBySideModel", name := "drawn", desc := "(I)I" } : Jvm.MethodName) prog_14_method_86_code (2 : Nat) (Option.some Jvm.ClassFile.FieldType.int)) ∈ UL := ul_6 174 rfl rfl
set_option maxRecDepth 20000 in
theorem tw_6_175 : (Jvm.Cond.constant "SideBySideModel" (250 : Nat) (1103515245 : Int32)) ∈ UL := ul_6 175 rfl rfl
set_option maxRecDepth 20000 in
theorem tw_6_176 : (Jvm.Cond.constant "SideBySideModel" (251 : Nat) (2147483647 : Int32)) ∈ UL := ul_6 176 rfl rfl
set_option maxRecDepth 20000 in
theorem tw_6_177 : (Jvm.Cond.constant "SideBySideModel" (252 : Nat) (65536 : Int32)) ∈ UL := ul_6 177 rfl rfl
set_option maxRecDepth 20000 in
theorem tw_6_178 : (Jvm.Cond.methodLink "SideBySideLaw" (163 : Nat) ({ cls := "SideBySideModel", name := "image", desc := "()I" } : Jvm.MethodName)) ∈ UL := ul_6 178 rfl rfl
set_option maxRecDepth 20000 in
theorem tw_6_179 : (Jvm.Cond.instanceMethod ({ cls := "SideBySideModel", name := "image", desc := "()I" } : Jvm.MethodName)) ∈ UL := ul_6 179 rfl rfl
set_option maxRecDepth 20000 in
theorem tw_6_180 : (Jvm.Cond.selects "SideBySideModel" ({ cls := "SideBySideModel", name := "image", desc := "()I" } : Jvm.MethodName) ({ cls := "SideBySideModel", name := "image", desc := "()I" } : Jvm.MethodName)) ∈ UL := ul_6 180 rfl rfl
set_option maxRecDepth 20000 in
theorem tw_6_181 : (Jvm.Cond.code ({ cls := "SideBySideModel", name := "image", desc := "()I" } : Jvm.MethodName) prog_14_method_88_code (1 : Nat) (Option.some Jvm.ClassFile.FieldType.int)) ∈ UL := ul_6 181 rfl rfl
set_option maxRecDepth 20000 in
theorem tw_6_182 : (Jvm.Cond.methodLink "SideBySideLaw" (167 : Nat) ({ cls := "SideBySideModel", name := "restore", desc := "()I" } : Jvm.MethodName)) ∈ UL := ul_6 182 rfl rfl
set_option maxRecDepth 20000 in
theorem tw_6_183 : (Jvm.Cond.instanceMethod ({ cls := "SideBySideModel", name := "restore", desc := "()I" } : Jvm.MethodName)) ∈ UL := ul_6 183 rfl rfl
set_option maxRecDepth 20000 in
theorem tw_6_184 : (Jvm.Cond.selects "SideBySideModel" ({ cls := "SideBySideModel", name := "restore", desc := "()I" } : Jvm.MethodName) ({ cls := "SideBySideModel", name := "restore", desc := "()I" } : Jvm.MethodName)) ∈ UL := ul_6 184 rfl rfl
set_option maxRecDepth 20000 in
theorem tw_6_185 : (Jvm.Cond.code ({ cls := "SideBySideModel", name := "restore", desc := "()I" } : Jvm.MethodName) prog_14_method_89_code (1 : Nat) (Option.some Jvm.ClassFile.FieldType.int)) ∈ UL := ul_6 185 rfl rfl
set_option maxRecDepth 20000 in
theorem tw_6_186 : (Jvm.Cond.methodLink "SideBySideLaw" (171 : Nat) ({ cls := "SideBySideModel", name := "count", desc := "(I)I" } : Jvm.MethodName)) ∈ UL := ul_6 186 rfl rfl
set_option maxRecDepth 20000 in
theorem tw_6_187 : (Jvm.Cond.instanceMethod ({ cls := "SideBySideModel", name := "count", desc := "(I)I" } : Jvm.MethodName)) ∈ UL := ul_6 187 rfl rfl
set_option maxRecDepth 20000 in
theorem tw_6_188 : (Jvm.Cond.selects "SideBySideModel" ({ cls := "SideBySideModel", name := "count", desc := "(I)I" } : Jvm.MethodName) ({ cls := "SideBySideModel", name := "count", desc := "(I)I" } : Jvm.MethodName)) ∈ UL := ul_6 188 rfl rfl
set_option maxRecDepth 20000 in
theorem tw_6_189 : (Jvm.Cond.code ({ cls := "SideBySideModel", name := "count", desc := "(I)I" } : Jvm.MethodName) prog_14_method_90_code (4 : Nat) (Option.some Jvm.ClassFile.FieldType.int)) ∈ UL := ul_6 189 rfl rfl
set_option maxRecDepth 20000 in
theorem tw_6_190 : (Jvm.Cond.methodLink "SideBySideLaw" (190 : Nat) ({ cls := "SideBySideModel", name := "thrown", desc := "()I" } : Jvm.MethodName)) ∈ UL := ul_6 190 rfl rfl
set_option maxRecDepth 20000 in
theorem tw_6_191 : (Jvm.Cond.instanceMethod ({ cls := "SideBySideModel", name := "thrown", desc := "()I" } : Jvm.MethodName)) ∈ UL := ul_6 191 rfl rfl
set_option maxRecDepth 20000 in
theorem tw_6_192 : (Jvm.Cond.selects "SideBySideModel" ({ cls := "SideBySideModel", name := "thrown", desc := "()I" } : Jvm.MethodName) ({ cls := "SideBySideModel", name := "thrown", desc := "()I" } : Jvm.MethodName)) ∈ UL := ul_6 192 rfl rfl
set_option maxRecDepth 20000 in
theorem tw_6_193 : (Jvm.Cond.code ({ cls := "SideBySideModel", name := "thrown", desc := "()I" } : Jvm.MethodName) prog_14_method_91_code (1 : Nat) (Option.some Jvm.ClassFile.FieldType.int)) ∈ UL := ul_6 193 rfl rfl
set_option maxRecDepth 20000 in
theorem tw_6_194 : (Jvm.Cond.methodLink "SideBySideLaw" (175 : Nat) ({ cls := "SideBySideModel", name := "keep", desc := "(IIII)I" } : Jvm.MethodName)) ∈ UL := ul_6 194 rfl rfl
set_option maxRecDepth 20000 in
theorem tw_6_195 : (Jvm.Cond.instanceMethod ({ cls := "SideBySideModel", name := "keep", desc := "(IIII)I" } : Jvm.MethodName)) ∈ UL := ul_6 195 rfl rfl
set_option maxRecDepth 20000 in
theorem tw_6_196 : (Jvm.Cond.selects "SideBySideModel" ({ cls := "SideBySideModel", name := "keep", desc := "(IIII)I" } : Jvm.MethodName) ({ cls := "SideBySideModel", name := "keep", desc := "(IIII)I" } : Jvm.MethodName)) ∈ UL := ul_6 196 rfl rfl
set_option maxRecDepth 20000 in
theorem tw_6_197 : (Jvm.Cond.code ({ cls := "SideBySideModel", name := "keep", desc := "(IIII)I" } : Jvm.MethodName) prog_14_method_95_code (5 : Nat) (Option.some Jvm.ClassFile.FieldType.int)) ∈ UL := ul_6 197 rfl rfl
set_option maxRecDepth 20000 in
theorem tw_6_198 : (Jvm.Cond.methodLink "SideBySideLaw" (179 : Nat) ({ cls := "SideBySideModel", name := "row", desc := "(III)I" } : Jvm.MethodName)) ∈ UL := ul_6 198 rfl rfl
set_option maxRecDepth 20000 in
theorem tw_6_199 : (Jvm.Cond.instanceMethod ({ cls := "SideBySideModel", name := "row", desc := "(III)I" } : Jvm.MethodName)) ∈ UL := ul_6 199 rfl rfl
set_option maxRecDepth 20000 in
theorem tw_6_200 : (Jvm.Cond.selects "SideBySideModel" ({ cls := "SideBySideModel", name := "row", desc := "(III)I" } : Jvm.MethodName) ({ cls := "SideBySideModel", name := "row", desc := "(III)I" } : Jvm.MethodName)) ∈ UL := ul_6 200 rfl rfl
set_option maxRecDepth 20000 in
theorem tw_6_201 : (Jvm.Cond.code ({ cls := "SideBySideModel", name := "row", desc := "(III)I" } : Jvm.MethodName) prog_14_method_96_code (5 : Nat) (Option.some Jvm.ClassFile.FieldType.int)) ∈ UL := ul_6 201 rfl rfl
set_option maxRecDepth 20000 in
theorem tw_6_202 : (Jvm.Cond.methodLink "SideBySideLaw" (183 : Nat) ({ cls := "SideBySideModel", name := "put", desc := "(III)I" } : Jvm.MethodName)) ∈ UL := ul_6 202 rfl rfl
set_option maxRecDepth 20000 in
theorem tw_6_203 : (Jvm.Cond.instanceMethod ({ cls := "SideBySideModel", name := "put", desc := "(III)I" } : Jvm.MethodName)) ∈ UL := ul_6 203 rfl rfl
set_option maxRecDepth 20000 in
theorem tw_6_204 : (Jvm.Cond.selects "SideBySideModel" ({ cls := "SideBySideModel", name := "put", desc := "(III)I" } : Jvm.MethodName) ({ cls := "SideBySideModel", name := "put", desc := "(III)I" } : Jvm.MethodName)) ∈ UL := ul_6 204 rfl rfl
set_option maxRecDepth 20000 in
theorem tw_6_205 : (Jvm.Cond.code ({ cls := "SideBySideModel", name := "put", desc := "(III)I" } : Jvm.MethodName) prog_14_method_97_code (5 : Nat) (Option.some Jvm.ClassFile.FieldType.int)) ∈ UL := ul_6 205 rfl rfl
set_option maxRecDepth 20000 in
theorem tw_6_206 : (Jvm.Cond.methodLink "SideBySideLaw" (189 : Nat) ({ cls := "SideBySideModel", name := "element", desc := "(II)J" } : Jvm.MethodName)) ∈ UL := ul_6 206 rfl rfl
set_option maxRecDepth 20000 in
theorem tw_6_207 : (Jvm.Cond.instanceMethod ({ cls := "SideBySideModel", name := "element", desc := "(II)J" } : Jvm.MethodName)) ∈ UL := ul_6 207 rfl rfl
set_option maxRecDepth 20000 in
theorem tw_6_208 : (Jvm.Cond.selects "SideBySideModel" ({ cls := "SideBySideModel", name := "element", desc := "(II)J" } : Jvm.MethodName) ({ cls := "SideBySideModel", name := "element", desc := "(II)J" } : Jvm.MethodName)) ∈ UL := ul_6 208 rfl rfl
set_option maxRecDepth 20000 in
theorem tw_6_209 : (Jvm.Cond.code ({ cls := "SideBySideModel", name := "element", desc := "(II)J" } : Jvm.MethodName) prog_14_method_98_code (3 : Nat) (Option.some Jvm.ClassFile.FieldType.long)) ∈ UL := ul_6 209 rfl rfl
set_option maxRecDepth 20000 in
theorem tw_6_210 : (Jvm.Cond.methodLink "SideBySideLaw" (197 : Nat) ({ cls := "SideBySideModel", name := "copy", desc := "(IIIII)I" } : Jvm.MethodName)) ∈ UL := ul_6 210 rfl rfl
set_option maxRecDepth 20000 in
theorem tw_6_211 : (Jvm.Cond.instanceMethod ({ cls := "SideBySideModel", name := "copy", desc := "(IIIII)I" } : Jvm.MethodName)) ∈ UL := ul_6 211 rfl rfl
set_option maxRecDepth 20000 in
theorem tw_6_212 : (Jvm.Cond.selects "SideBySideModel" ({ cls := "SideBySideModel", name := "copy", desc := "(IIIII)I" } : Jvm.MethodName) ({ cls := "SideBySideModel", name := "copy", desc := "(IIIII)I" } : Jvm.MethodName)) ∈ UL := ul_6 212 rfl rfl
set_option maxRecDepth 20000 in
theorem tw_6_213 : (Jvm.Cond.code ({ cls := "SideBySideModel", name := "copy", desc := "(IIIII)I" } : Jvm.MethodName) prog_14_method_99_code (8 : Nat) (Option.some Jvm.ClassFile.FieldType.int)) ∈ UL := ul_6 213 rfl rfl
set_option maxRecDepth 20000 in
theorem tw_6_214 : (Jvm.Cond.methodLink "SideBySideLaw" (201 : Nat) ({ cls := "SideBySideModel", name := "cost", desc := "(I)I" } : Jvm.MethodName)) ∈ UL := ul_6 214 rfl rfl
set_option maxRecDepth 20000 in
theorem tw_6_215 : (Jvm.Cond.instanceMethod ({ cls := "SideBySideModel", name := "cost", desc := "(I)I" } : Jvm.MethodName)) ∈ UL := ul_6 215 rfl rfl
set_option maxRecDepth 20000 in
theorem tw_6_216 : (Jvm.Cond.selects "SideBySideModel" ({ cls := "SideBySideModel", name := "cost", desc := "(I)I" } : Jvm.MethodName) ({ cls := "SideBySideModel", name := "cost", desc := "(I)I" } : Jvm.MethodName)) ∈ UL := ul_6 216 rfl rfl
set_option maxRecDepth 20000 in
theorem tw_6_217 : (Jvm.Cond.code ({ cls := "SideBySideModel", name := "cost", desc := "(I)I" } : Jvm.MethodName) prog_14_method_101_code (3 : Nat) (Option.some Jvm.ClassFile.FieldType.int)) ∈ UL := ul_6 217 rfl rfl
set_option maxRecDepth 20000 in
theorem tw_6_218 : (Jvm.Cond.methodLink "SideBySideModel" (266 : Nat) ({ cls := "SideBySideModel", name := "costBy", desc := "(II)I" } : Jvm.MethodName)) ∈ UL := ul_6 218 rfl rfl
set_option maxRecDepth 20000 in
theorem tw_6_219 : (Jvm.Cond.static ({ cls := "SideBySideModel", name := "costBy", desc := "(II)I" } : Jvm.MethodName)) ∈ UL := ul_6 219 rfl rfl
set_option maxRecDepth 20000 in
theorem tw_6_220 : (Jvm.Cond.code ({ cls := "SideBySideModel", name := "costBy", desc := "(II)I" } : Jvm.MethodName) prog_14_method_100_code (2 : Nat) (Option.some Jvm.ClassFile.FieldType.int)) ∈ UL := ul_6 220 rfl rfl
set_option maxRecDepth 20000 in
theorem tw_6_221 : (Jvm.Cond.methodLink "SideBySideLaw" (205 : Nat) ({ cls := "SideBySideModel", name := "toss", desc := "(I)I" } : Jvm.MethodName)) ∈ UL := ul_6 221 rfl rfl
set_option maxRecDepth 20000 in
theorem tw_6_222 : (Jvm.Cond.instanceMethod ({ cls := "SideBySideModel", name := "toss", desc := "(I)I" } : Jvm.MethodName)) ∈ UL := ul_6 222 rfl rfl
set_option maxRecDepth 20000 in
theorem tw_6_223 : (Jvm.Cond.selects "SideBySideModel" ({ cls := "SideBySideModel", name := "toss", desc := "(I)I" } : Jvm.MethodName) ({ cls := "SideBySideModel", name := "toss", desc := "(I)I" } : Jvm.MethodName)) ∈ UL := ul_6 223 rfl rfl
set_option maxRecDepth 20000 in
theorem tw_6_224 : (Jvm.Cond.code ({ cls := "SideBySideModel", name := "toss", desc := "(I)I" } : Jvm.MethodName) prog_14_method_102_code (5 : Nat) (Option.some Jvm.ClassFile.FieldType.int)) ∈ UL := ul_6 224 rfl rfl
set_option maxRecDepth 20000 in
theorem tw_6_225 : (Jvm.Cond.arrayClass Jvm.ClassFile.FieldType.long) ∈ UL := ul_6 225 rfl rfl
set_option maxRecDepth 20000 in
theorem tw_6_226 : (Jvm.Cond.sameMethod "SideBySide$Lift" "SideBySide$Lift" "timeTo" "(I)I") ∈ UL := ul_6 226 rfl rfl
set_option maxRecDepth 20000 in
theorem tw_6_227 : (Jvm.Cond.sameMethod "SideBySide$Drop" "SideBySide$Drop" "timeTo" "(I)I") ∈ UL := ul_6 227 rfl rfl
set_option maxRecDepth 20000 in
theorem tw_6_228 : (Jvm.Cond.sameMethod "SideBySide$Lift" "SideBySide$Lift" "effort" "()I") ∈ UL := ul_6 228 rfl rfl
set_option maxRecDepth 20000 in
theorem tw_6_229 : (Jvm.Cond.sameMethod "SideBySide$Lift" "SideBySide$Lift" "price" "()I") ∈ UL := ul_6 229 rfl rfl
set_option maxRecDepth 20000 in
theorem tw_6_230 : (Jvm.Cond.sameMethod "SideBySide$Drop" "SideBySide$Drop" "price" "()I") ∈ UL := ul_6 230 rfl rfl
set_option maxRecDepth 20000 in
theorem tw_6_231 : (Jvm.Cond.sameMethod "java/lang/Throwable" "java/lang/Throwable" "fillInStackTrace" "(I)Ljava/lang/Throwable;") ∈ UL := ul_6 231 rfl rfl
