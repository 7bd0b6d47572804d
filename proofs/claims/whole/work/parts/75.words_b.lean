theorem tw_15 : (Jvm.Cond.instanceMethod ({ cls := "java/lang/Object", name := "<init>", desc := "()V" } : Jvm.MethodName)) ∈ tc_wA := tc_mem (i := 15) (by decide +kernel) (by decide +kernel)
theorem tw_16 : (Jvm.Cond.code ({ cls := "java/lang/Object", name := "<init>", desc := "()V" } : Jvm.MethodName) object_method_1_code (1 : Nat) (Option.none : Option Jvm.ClassFile.FieldType)) ∈ tc_wA := tc_mem (i := 16) (by decide +kernel) (by decide +kernel)
theorem tw_22 : (Jvm.Cond.methodLink "TwinConsole$SecondProcessor" (1 : Nat) ({ cls := "java/lang/Object", name := "<init>", desc := "()V" } : Jvm.MethodName)) ∈ tc_wA := tc_mem (i := 22) (by decide +kernel) (by decide +kernel)
theorem tw_76 : (Jvm.Cond.methodLink "TwinConsole$PictureUnit" (1 : Nat) ({ cls := "java/lang/Object", name := "<init>", desc := "()V" } : Jvm.MethodName)) ∈ tc_wA := tc_mem (i := 76) (by decide +kernel) (by decide +kernel)
theorem tw_124 : (Jvm.Cond.methodLink "TwinConsole$Painter" (1 : Nat) ({ cls := "java/lang/Object", name := "<init>", desc := "()V" } : Jvm.MethodName)) ∈ tc_wA := tc_mem (i := 124) (by decide +kernel) (by decide +kernel)
theorem tw_83 : (Jvm.Cond.fieldLinkNest "TwinConsole$Painter" (13 : Nat) "TwinConsole$PictureUnit" "registers" "[I" "TwinConsole") ∈ tc_wA := tc_mem (i := 83) (by decide +kernel) (by decide +kernel)
theorem tw_161 : (Jvm.Cond.methodLink "TwinConsole$Beam" (1 : Nat) ({ cls := "java/lang/Object", name := "<init>", desc := "()V" } : Jvm.MethodName)) ∈ tc_wA := tc_mem (i := 161) (by decide +kernel) (by decide +kernel)
theorem tw_197 : (Jvm.Cond.methodLink "TwinConsole$Bus" (1 : Nat) ({ cls := "java/lang/Object", name := "<init>", desc := "()V" } : Jvm.MethodName)) ∈ tc_wA := tc_mem (i := 197) (by decide +kernel) (by decide +kernel)
theorem tw_229 : (Jvm.Cond.methodLink "TwinConsole$MainProcessor" (1 : Nat) ({ cls := "java/lang/Object", name := "<init>", desc := "()V" } : Jvm.MethodName)) ∈ tc_wA := tc_mem (i := 229) (by decide +kernel) (by decide +kernel)
theorem tw_14 : (Jvm.Cond.methodLink "TwinConsole" (1 : Nat) ({ cls := "java/lang/Object", name := "<init>", desc := "()V" } : Jvm.MethodName)) ∈ tc_wA := tc_mem (i := 14) (by decide +kernel) (by decide +kernel)
theorem tw_17 : (Jvm.Cond.classLink "TwinConsole" (13 : Nat) "TwinConsole$SecondProcessor") ∈ tc_wA := tc_mem (i := 17) (by decide +kernel) (by decide +kernel)
theorem tw_18 : (Jvm.Cond.instantiable "TwinConsole$SecondProcessor" (13 : Nat)) ∈ tc_wA := tc_mem (i := 18) (by decide +kernel) (by decide +kernel)
theorem tw_19 : (Jvm.Cond.methodLink "TwinConsole" (15 : Nat) ({ cls := "TwinConsole$SecondProcessor", name := "<init>", desc := "([I)V" } : Jvm.MethodName)) ∈ tc_wA := tc_mem (i := 19) (by decide +kernel) (by decide +kernel)
theorem tw_21 : (Jvm.Cond.code ({ cls := "TwinConsole$SecondProcessor", name := "<init>", desc := "([I)V" } : Jvm.MethodName) prog_7_method_1_code (2 : Nat) (Option.none : Option Jvm.ClassFile.FieldType)) ∈ tc_wA := tc_mem (i := 21) (by decide +kernel) (by decide +kernel)
theorem tw_20 : (Jvm.Cond.instanceMethod ({ cls := "TwinConsole$SecondProcessor", name := "<init>", desc := "([I)V" } : Jvm.MethodName)) ∈ tc_wA := tc_mem (i := 20) (by decide +kernel) (by decide +kernel)
theorem tw_71 : (Jvm.Cond.classLink "TwinConsole" (22 : Nat) "TwinConsole$PictureUnit") ∈ tc_wA := tc_mem (i := 71) (by decide +kernel) (by decide +kernel)
theorem tw_72 : (Jvm.Cond.instantiable "TwinConsole$PictureUnit" (10 : Nat)) ∈ tc_wA := tc_mem (i := 72) (by decide +kernel) (by decide +kernel)
theorem tw_73 : (Jvm.Cond.methodLink "TwinConsole" (24 : Nat) ({ cls := "TwinConsole$PictureUnit", name := "<init>", desc := "()V" } : Jvm.MethodName)) ∈ tc_wA := tc_mem (i := 73) (by decide +kernel) (by decide +kernel)
theorem tw_75 : (Jvm.Cond.code ({ cls := "TwinConsole$PictureUnit", name := "<init>", desc := "()V" } : Jvm.MethodName) prog_6_method_1_code (1 : Nat) (Option.none : Option Jvm.ClassFile.FieldType)) ∈ tc_wA := tc_mem (i := 75) (by decide +kernel) (by decide +kernel)
theorem tw_74 : (Jvm.Cond.instanceMethod ({ cls := "TwinConsole$PictureUnit", name := "<init>", desc := "()V" } : Jvm.MethodName)) ∈ tc_wA := tc_mem (i := 74) (by decide +kernel) (by decide +kernel)
theorem tw_119 : (Jvm.Cond.classLink "TwinConsole" (29 : Nat) "TwinConsole$Painter") ∈ tc_wA := tc_mem (i := 119) (by decide +kernel) (by decide +kernel)
theorem tw_120 : (Jvm.Cond.instantiable "TwinConsole$Painter" (9 : Nat)) ∈ tc_wA := tc_mem (i := 120) (by decide +kernel) (by decide +kernel)
theorem tw_121 : (Jvm.Cond.methodLink "TwinConsole" (31 : Nat) ({ cls := "TwinConsole$Painter", name := "<init>", desc := "(LTwinConsole$PictureUnit;)V" } : Jvm.MethodName)) ∈ tc_wA := tc_mem (i := 121) (by decide +kernel) (by decide +kernel)
theorem tw_123 : (Jvm.Cond.code ({ cls := "TwinConsole$Painter", name := "<init>", desc := "(LTwinConsole$PictureUnit;)V" } : Jvm.MethodName) prog_5_method_1_code (2 : Nat) (Option.none : Option Jvm.ClassFile.FieldType)) ∈ tc_wA := tc_mem (i := 123) (by decide +kernel) (by decide +kernel)
theorem tw_122 : (Jvm.Cond.instanceMethod ({ cls := "TwinConsole$Painter", name := "<init>", desc := "(LTwinConsole$PictureUnit;)V" } : Jvm.MethodName)) ∈ tc_wA := tc_mem (i := 122) (by decide +kernel) (by decide +kernel)
theorem tw_156 : (Jvm.Cond.classLink "TwinConsole" (38 : Nat) "TwinConsole$Beam") ∈ tc_wA := tc_mem (i := 156) (by decide +kernel) (by decide +kernel)
theorem tw_157 : (Jvm.Cond.instantiable "TwinConsole$Beam" (8 : Nat)) ∈ tc_wA := tc_mem (i := 157) (by decide +kernel) (by decide +kernel)
theorem tw_158 : (Jvm.Cond.methodLink "TwinConsole" (40 : Nat) ({ cls := "TwinConsole$Beam", name := "<init>", desc := "(LTwinConsole$PictureUnit;LTwinConsole$Painter;LTwinConsole$SecondProcessor;)V" } : Jvm.MethodName)) ∈ tc_wA := tc_mem (i := 158) (by decide +kernel) (by decide +kernel)
theorem tw_160 : (Jvm.Cond.code ({ cls := "TwinConsole$Beam", name := "<init>", desc := "(LTwinConsole$PictureUnit;LTwinConsole$Painter;LTwinConsole$SecondProcessor;)V" } : Jvm.MethodName) prog_2_method_1_code (4 : Nat) (Option.none : Option Jvm.ClassFile.FieldType)) ∈ tc_wA := tc_mem (i := 160) (by decide +kernel) (by decide +kernel)
theorem tw_159 : (Jvm.Cond.instanceMethod ({ cls := "TwinConsole$Beam", name := "<init>", desc := "(LTwinConsole$PictureUnit;LTwinConsole$Painter;LTwinConsole$SecondProcessor;)V" } : Jvm.MethodName)) ∈ tc_wA := tc_mem (i := 159) (by decide +kernel) (by decide +kernel)
theorem tw_192 : (Jvm.Cond.classLink "TwinConsole" (47 : Nat) "TwinConsole$Bus") ∈ tc_wA := tc_mem (i := 192) (by decide +kernel) (by decide +kernel)
theorem tw_193 : (Jvm.Cond.instantiable "TwinConsole$Bus" (8 : Nat)) ∈ tc_wA := tc_mem (i := 193) (by decide +kernel) (by decide +kernel)
theorem tw_194 : (Jvm.Cond.methodLink "TwinConsole" (49 : Nat) ({ cls := "TwinConsole$Bus", name := "<init>", desc := "([ILTwinConsole$SecondProcessor;LTwinConsole$PictureUnit;LTwinConsole$Painter;LTwinConsole$Beam;)V" } : Jvm.MethodName)) ∈ tc_wA := tc_mem (i := 194) (by decide +kernel) (by decide +kernel)
theorem tw_196 : (Jvm.Cond.code ({ cls := "TwinConsole$Bus", name := "<init>", desc := "([ILTwinConsole$SecondProcessor;LTwinConsole$PictureUnit;LTwinConsole$Painter;LTwinConsole$Beam;)V" } : Jvm.MethodName) prog_3_method_1_code (6 : Nat) (Option.none : Option Jvm.ClassFile.FieldType)) ∈ tc_wA := tc_mem (i := 196) (by decide +kernel) (by decide +kernel)
theorem tw_195 : (Jvm.Cond.instanceMethod ({ cls := "TwinConsole$Bus", name := "<init>", desc := "([ILTwinConsole$SecondProcessor;LTwinConsole$PictureUnit;LTwinConsole$Painter;LTwinConsole$Beam;)V" } : Jvm.MethodName)) ∈ tc_wA := tc_mem (i := 195) (by decide +kernel) (by decide +kernel)
theorem tw_224 : (Jvm.Cond.classLink "TwinConsole" (56 : Nat) "TwinConsole$MainProcessor") ∈ tc_wA := tc_mem (i := 224) (by decide +kernel) (by decide +kernel)
theorem tw_225 : (Jvm.Cond.instantiable "TwinConsole$MainProcessor" (10 : Nat)) ∈ tc_wA := tc_mem (i := 225) (by decide +kernel) (by decide +kernel)
theorem tw_226 : (Jvm.Cond.methodLink "TwinConsole" (58 : Nat) ({ cls := "TwinConsole$MainProcessor", name := "<init>", desc := "(LTwinConsole$Bus;)V" } : Jvm.MethodName)) ∈ tc_wA := tc_mem (i := 226) (by decide +kernel) (by decide +kernel)
theorem tw_228 : (Jvm.Cond.code ({ cls := "TwinConsole$MainProcessor", name := "<init>", desc := "(LTwinConsole$Bus;)V" } : Jvm.MethodName) prog_4_method_1_code (2 : Nat) (Option.none : Option Jvm.ClassFile.FieldType)) ∈ tc_wA := tc_mem (i := 228) (by decide +kernel) (by decide +kernel)
theorem tw_227 : (Jvm.Cond.instanceMethod ({ cls := "TwinConsole$MainProcessor", name := "<init>", desc := "(LTwinConsole$Bus;)V" } : Jvm.MethodName)) ∈ tc_wA := tc_mem (i := 227) (by decide +kernel) (by decide +kernel)
theorem tw_620 : (Jvm.Cond.methodLink "TwinConsoleModel" (1 : Nat) ({ cls := "java/lang/Object", name := "<init>", desc := "()V" } : Jvm.MethodName)) ∈ tc_wA := tc_mem (i := 620) (by decide +kernel) (by decide +kernel)
theorem tw_290 : (Jvm.Cond.selects "TwinConsole" ({ cls := "TwinConsole", name := "rom", desc := "(II)Z" } : Jvm.MethodName) ({ cls := "TwinConsole", name := "rom", desc := "(II)Z" } : Jvm.MethodName)) ∈ tc_wA := tc_mem (i := 290) (by decide +kernel) (by decide +kernel)
theorem tw_291 : (Jvm.Cond.code ({ cls := "TwinConsole", name := "rom", desc := "(II)Z" } : Jvm.MethodName) prog_1_method_2_code (3 : Nat) (Option.some Jvm.ClassFile.FieldType.boolean)) ∈ tc_wA := tc_mem (i := 291) (by decide +kernel) (by decide +kernel)
theorem tw_288 : (Jvm.Cond.methodLink "TwinConsoleLaw" (13 : Nat) ({ cls := "TwinConsole", name := "rom", desc := "(II)Z" } : Jvm.MethodName)) ∈ tc_wA := tc_mem (i := 288) (by decide +kernel) (by decide +kernel)
theorem tw_289 : (Jvm.Cond.instanceMethod ({ cls := "TwinConsole", name := "rom", desc := "(II)Z" } : Jvm.MethodName)) ∈ tc_wA := tc_mem (i := 289) (by decide +kernel) (by decide +kernel)
theorem tw_765 : (Jvm.Cond.selects "TwinConsoleModel" ({ cls := "TwinConsoleModel", name := "rom", desc := "(II)Z" } : Jvm.MethodName) ({ cls := "TwinConsoleModel", name := "rom", desc := "(II)Z" } : Jvm.MethodName)) ∈ tc_wA := tc_mem (i := 765) (by decide +kernel) (by decide +kernel)
theorem tw_766 : (Jvm.Cond.code ({ cls := "TwinConsoleModel", name := "rom", desc := "(II)Z" } : Jvm.MethodName) prog_9_method_51_code (3 : Nat) (Option.some Jvm.ClassFile.FieldType.boolean)) ∈ tc_wA := tc_mem (i := 766) (by decide +kernel) (by decide +kernel)
theorem tw_763 : (Jvm.Cond.methodLink "TwinConsoleLaw" (17 : Nat) ({ cls := "TwinConsoleModel", name := "rom", desc := "(II)Z" } : Jvm.MethodName)) ∈ tc_wA := tc_mem (i := 763) (by decide +kernel) (by decide +kernel)
theorem tw_764 : (Jvm.Cond.instanceMethod ({ cls := "TwinConsoleModel", name := "rom", desc := "(II)Z" } : Jvm.MethodName)) ∈ tc_wA := tc_mem (i := 764) (by decide +kernel) (by decide +kernel)
theorem tw_295 : (Jvm.Cond.selects "TwinConsole" ({ cls := "TwinConsole", name := "reset", desc := "()V" } : Jvm.MethodName) ({ cls := "TwinConsole", name := "reset", desc := "()V" } : Jvm.MethodName)) ∈ tc_wA := tc_mem (i := 295) (by decide +kernel) (by decide +kernel)
theorem tw_296 : (Jvm.Cond.code ({ cls := "TwinConsole", name := "reset", desc := "()V" } : Jvm.MethodName) prog_1_method_3_code (1 : Nat) (Option.none : Option Jvm.ClassFile.FieldType)) ∈ tc_wA := tc_mem (i := 296) (by decide +kernel) (by decide +kernel)
theorem tw_293 : (Jvm.Cond.methodLink "TwinConsoleLaw" (18 : Nat) ({ cls := "TwinConsole", name := "reset", desc := "()V" } : Jvm.MethodName)) ∈ tc_wA := tc_mem (i := 293) (by decide +kernel) (by decide +kernel)
theorem tw_294 : (Jvm.Cond.instanceMethod ({ cls := "TwinConsole", name := "reset", desc := "()V" } : Jvm.MethodName)) ∈ tc_wA := tc_mem (i := 294) (by decide +kernel) (by decide +kernel)
theorem tw_769 : (Jvm.Cond.selects "TwinConsoleModel" ({ cls := "TwinConsoleModel", name := "reset", desc := "()V" } : Jvm.MethodName) ({ cls := "TwinConsoleModel", name := "reset", desc := "()V" } : Jvm.MethodName)) ∈ tc_wA := tc_mem (i := 769) (by decide +kernel) (by decide +kernel)
theorem tw_770 : (Jvm.Cond.code ({ cls := "TwinConsoleModel", name := "reset", desc := "()V" } : Jvm.MethodName) prog_9_method_52_code (2 : Nat) (Option.none : Option Jvm.ClassFile.FieldType)) ∈ tc_wA := tc_mem (i := 770) (by decide +kernel) (by decide +kernel)
theorem tw_767 : (Jvm.Cond.methodLink "TwinConsoleLaw" (21 : Nat) ({ cls := "TwinConsoleModel", name := "reset", desc := "()V" } : Jvm.MethodName)) ∈ tc_wA := tc_mem (i := 767) (by decide +kernel) (by decide +kernel)
theorem tw_768 : (Jvm.Cond.instanceMethod ({ cls := "TwinConsoleModel", name := "reset", desc := "()V" } : Jvm.MethodName)) ∈ tc_wA := tc_mem (i := 768) (by decide +kernel) (by decide +kernel)
theorem tw_315 : (Jvm.Cond.selects "TwinConsole" ({ cls := "TwinConsole", name := "pad", desc := "(I)V" } : Jvm.MethodName) ({ cls := "TwinConsole", name := "pad", desc := "(I)V" } : Jvm.MethodName)) ∈ tc_wA := tc_mem (i := 315) (by decide +kernel) (by decide +kernel)
theorem tw_316 : (Jvm.Cond.code ({ cls := "TwinConsole", name := "pad", desc := "(I)V" } : Jvm.MethodName) prog_1_method_4_code (2 : Nat) (Option.none : Option Jvm.ClassFile.FieldType)) ∈ tc_wA := tc_mem (i := 316) (by decide +kernel) (by decide +kernel)
theorem tw_313 : (Jvm.Cond.methodLink "TwinConsoleLaw" (22 : Nat) ({ cls := "TwinConsole", name := "pad", desc := "(I)V" } : Jvm.MethodName)) ∈ tc_wA := tc_mem (i := 313) (by decide +kernel) (by decide +kernel)
theorem tw_314 : (Jvm.Cond.instanceMethod ({ cls := "TwinConsole", name := "pad", desc := "(I)V" } : Jvm.MethodName)) ∈ tc_wA := tc_mem (i := 314) (by decide +kernel) (by decide +kernel)
theorem tw_785 : (Jvm.Cond.selects "TwinConsoleModel" ({ cls := "TwinConsoleModel", name := "pad", desc := "(I)V" } : Jvm.MethodName) ({ cls := "TwinConsoleModel", name := "pad", desc := "(I)V" } : Jvm.MethodName)) ∈ tc_wA := tc_mem (i := 785) (by decide +kernel) (by decide +kernel)
theorem tw_786 : (Jvm.Cond.code ({ cls := "TwinConsoleModel", name := "pad", desc := "(I)V" } : Jvm.MethodName) prog_9_method_53_code (2 : Nat) (Option.none : Option Jvm.ClassFile.FieldType)) ∈ tc_wA := tc_mem (i := 786) (by decide +kernel) (by decide +kernel)
theorem tw_783 : (Jvm.Cond.methodLink "TwinConsoleLaw" (26 : Nat) ({ cls := "TwinConsoleModel", name := "pad", desc := "(I)V" } : Jvm.MethodName)) ∈ tc_wA := tc_mem (i := 783) (by decide +kernel) (by decide +kernel)
theorem tw_784 : (Jvm.Cond.instanceMethod ({ cls := "TwinConsoleModel", name := "pad", desc := "(I)V" } : Jvm.MethodName)) ∈ tc_wA := tc_mem (i := 784) (by decide +kernel) (by decide +kernel)
theorem tw_319 : (Jvm.Cond.selects "TwinConsole" ({ cls := "TwinConsole", name := "step", desc := "()I" } : Jvm.MethodName) ({ cls := "TwinConsole", name := "step", desc := "()I" } : Jvm.MethodName)) ∈ tc_wA := tc_mem (i := 319) (by decide +kernel) (by decide +kernel)
theorem tw_320 : (Jvm.Cond.code ({ cls := "TwinConsole", name := "step", desc := "()I" } : Jvm.MethodName) prog_1_method_5_code (1 : Nat) (Option.some Jvm.ClassFile.FieldType.int)) ∈ tc_wA := tc_mem (i := 320) (by decide +kernel) (by decide +kernel)
theorem tw_317 : (Jvm.Cond.methodLink "TwinConsoleLaw" (27 : Nat) ({ cls := "TwinConsole", name := "step", desc := "()I" } : Jvm.MethodName)) ∈ tc_wA := tc_mem (i := 317) (by decide +kernel) (by decide +kernel)
theorem tw_318 : (Jvm.Cond.instanceMethod ({ cls := "TwinConsole", name := "step", desc := "()I" } : Jvm.MethodName)) ∈ tc_wA := tc_mem (i := 318) (by decide +kernel) (by decide +kernel)
theorem tw_787 : (Jvm.Cond.methodLink "TwinConsoleLaw" (31 : Nat) ({ cls := "TwinConsoleModel", name := "step", desc := "()I" } : Jvm.MethodName)) ∈ tc_wA := tc_mem (i := 787) (by decide +kernel) (by decide +kernel)
theorem tw_579 : (Jvm.Cond.selects "TwinConsole" ({ cls := "TwinConsole", name := "run", desc := "(I)I" } : Jvm.MethodName) ({ cls := "TwinConsole", name := "run", desc := "(I)I" } : Jvm.MethodName)) ∈ tc_wA := tc_mem (i := 579) (by decide +kernel) (by decide +kernel)
theorem tw_580 : (Jvm.Cond.code ({ cls := "TwinConsole", name := "run", desc := "(I)I" } : Jvm.MethodName) prog_1_method_6_code (4 : Nat) (Option.some Jvm.ClassFile.FieldType.int)) ∈ tc_wA := tc_mem (i := 580) (by decide +kernel) (by decide +kernel)
theorem tw_577 : (Jvm.Cond.methodLink "TwinConsoleLaw" (32 : Nat) ({ cls := "TwinConsole", name := "run", desc := "(I)I" } : Jvm.MethodName)) ∈ tc_wA := tc_mem (i := 577) (by decide +kernel) (by decide +kernel)
theorem tw_578 : (Jvm.Cond.instanceMethod ({ cls := "TwinConsole", name := "run", desc := "(I)I" } : Jvm.MethodName)) ∈ tc_wA := tc_mem (i := 578) (by decide +kernel) (by decide +kernel)
theorem tw_985 : (Jvm.Cond.selects "TwinConsoleModel" ({ cls := "TwinConsoleModel", name := "run", desc := "(I)I" } : Jvm.MethodName) ({ cls := "TwinConsoleModel", name := "run", desc := "(I)I" } : Jvm.MethodName)) ∈ tc_wA := tc_mem (i := 985) (by decide +kernel) (by decide +kernel)
theorem tw_986 : (Jvm.Cond.code ({ cls := "TwinConsoleModel", name := "run", desc := "(I)I" } : Jvm.MethodName) prog_9_method_55_code (3 : Nat) (Option.some Jvm.ClassFile.FieldType.int)) ∈ tc_wA := tc_mem (i := 986) (by decide +kernel) (by decide +kernel)
theorem tw_983 : (Jvm.Cond.methodLink "TwinConsoleLaw" (36 : Nat) ({ cls := "TwinConsoleModel", name := "run", desc := "(I)I" } : Jvm.MethodName)) ∈ tc_wA := tc_mem (i := 983) (by decide +kernel) (by decide +kernel)
theorem tw_984 : (Jvm.Cond.instanceMethod ({ cls := "TwinConsoleModel", name := "run", desc := "(I)I" } : Jvm.MethodName)) ∈ tc_wA := tc_mem (i := 984) (by decide +kernel) (by decide +kernel)
theorem tw_583 : (Jvm.Cond.selects "TwinConsole" ({ cls := "TwinConsole", name := "memory", desc := "(I)I" } : Jvm.MethodName) ({ cls := "TwinConsole", name := "memory", desc := "(I)I" } : Jvm.MethodName)) ∈ tc_wA := tc_mem (i := 583) (by decide +kernel) (by decide +kernel)
theorem tw_584 : (Jvm.Cond.code ({ cls := "TwinConsole", name := "memory", desc := "(I)I" } : Jvm.MethodName) prog_1_method_7_code (2 : Nat) (Option.some Jvm.ClassFile.FieldType.int)) ∈ tc_wA := tc_mem (i := 584) (by decide +kernel) (by decide +kernel)
theorem tw_581 : (Jvm.Cond.methodLink "TwinConsoleLaw" (37 : Nat) ({ cls := "TwinConsole", name := "memory", desc := "(I)I" } : Jvm.MethodName)) ∈ tc_wA := tc_mem (i := 581) (by decide +kernel) (by decide +kernel)
theorem tw_582 : (Jvm.Cond.instanceMethod ({ cls := "TwinConsole", name := "memory", desc := "(I)I" } : Jvm.MethodName)) ∈ tc_wA := tc_mem (i := 582) (by decide +kernel) (by decide +kernel)
theorem tw_990 : (Jvm.Cond.selects "TwinConsoleModel" ({ cls := "TwinConsoleModel", name := "memory", desc := "(I)I" } : Jvm.MethodName) ({ cls := "TwinConsoleModel", name := "memory", desc := "(I)I" } : Jvm.MethodName)) ∈ tc_wA := tc_mem (i := 990) (by decide +kernel) (by decide +kernel)
theorem tw_991 : (Jvm.Cond.code ({ cls := "TwinConsoleModel", name := "memory", desc := "(I)I" } : Jvm.MethodName) prog_9_method_56_code (2 : Nat) (Option.some Jvm.ClassFile.FieldType.int)) ∈ tc_wA := tc_mem (i := 991) (by decide +kernel) (by decide +kernel)
theorem tw_988 : (Jvm.Cond.methodLink "TwinConsoleLaw" (40 : Nat) ({ cls := "TwinConsoleModel", name := "memory", desc := "(I)I" } : Jvm.MethodName)) ∈ tc_wA := tc_mem (i := 988) (by decide +kernel) (by decide +kernel)
theorem tw_989 : (Jvm.Cond.instanceMethod ({ cls := "TwinConsoleModel", name := "memory", desc := "(I)I" } : Jvm.MethodName)) ∈ tc_wA := tc_mem (i := 989) (by decide +kernel) (by decide +kernel)
theorem tw_588 : (Jvm.Cond.selects "TwinConsole" ({ cls := "TwinConsole", name := "register", desc := "(I)I" } : Jvm.MethodName) ({ cls := "TwinConsole", name := "register", desc := "(I)I" } : Jvm.MethodName)) ∈ tc_wA := tc_mem (i := 588) (by decide +kernel) (by decide +kernel)
theorem tw_589 : (Jvm.Cond.code ({ cls := "TwinConsole", name := "register", desc := "(I)I" } : Jvm.MethodName) prog_1_method_8_code (2 : Nat) (Option.some Jvm.ClassFile.FieldType.int)) ∈ tc_wA := tc_mem (i := 589) (by decide +kernel) (by decide +kernel)
theorem tw_586 : (Jvm.Cond.methodLink "TwinConsoleLaw" (41 : Nat) ({ cls := "TwinConsole", name := "register", desc := "(I)I" } : Jvm.MethodName)) ∈ tc_wA := tc_mem (i := 586) (by decide +kernel) (by decide +kernel)
theorem tw_587 : (Jvm.Cond.instanceMethod ({ cls := "TwinConsole", name := "register", desc := "(I)I" } : Jvm.MethodName)) ∈ tc_wA := tc_mem (i := 587) (by decide +kernel) (by decide +kernel)
theorem tw_998 : (Jvm.Cond.selects "TwinConsoleModel" ({ cls := "TwinConsoleModel", name := "register", desc := "(I)I" } : Jvm.MethodName) ({ cls := "TwinConsoleModel", name := "register", desc := "(I)I" } : Jvm.MethodName)) ∈ tc_wA := tc_mem (i := 998) (by decide +kernel) (by decide +kernel)
theorem tw_999 : (Jvm.Cond.code ({ cls := "TwinConsoleModel", name := "register", desc := "(I)I" } : Jvm.MethodName) prog_9_method_58_code (2 : Nat) (Option.some Jvm.ClassFile.FieldType.int)) ∈ tc_wA := tc_mem (i := 999) (by decide +kernel) (by decide +kernel)
theorem tw_996 : (Jvm.Cond.methodLink "TwinConsoleLaw" (44 : Nat) ({ cls := "TwinConsoleModel", name := "register", desc := "(I)I" } : Jvm.MethodName)) ∈ tc_wA := tc_mem (i := 996) (by decide +kernel) (by decide +kernel)
theorem tw_997 : (Jvm.Cond.instanceMethod ({ cls := "TwinConsoleModel", name := "register", desc := "(I)I" } : Jvm.MethodName)) ∈ tc_wA := tc_mem (i := 997) (by decide +kernel) (by decide +kernel)
theorem tw_597 : (Jvm.Cond.selects "TwinConsole" ({ cls := "TwinConsole", name := "seed", desc := "(II)Z" } : Jvm.MethodName) ({ cls := "TwinConsole", name := "seed", desc := "(II)Z" } : Jvm.MethodName)) ∈ tc_wA := tc_mem (i := 597) (by decide +kernel) (by decide +kernel)
theorem tw_598 : (Jvm.Cond.code ({ cls := "TwinConsole", name := "seed", desc := "(II)Z" } : Jvm.MethodName) prog_1_method_9_code (3 : Nat) (Option.some Jvm.ClassFile.FieldType.boolean)) ∈ tc_wA := tc_mem (i := 598) (by decide +kernel) (by decide +kernel)
theorem tw_595 : (Jvm.Cond.methodLink "TwinConsoleLaw" (45 : Nat) ({ cls := "TwinConsole", name := "seed", desc := "(II)Z" } : Jvm.MethodName)) ∈ tc_wA := tc_mem (i := 595) (by decide +kernel) (by decide +kernel)
theorem tw_596 : (Jvm.Cond.instanceMethod ({ cls := "TwinConsole", name := "seed", desc := "(II)Z" } : Jvm.MethodName)) ∈ tc_wA := tc_mem (i := 596) (by decide +kernel) (by decide +kernel)
theorem tw_994 : (Jvm.Cond.selects "TwinConsoleModel" ({ cls := "TwinConsoleModel", name := "seed", desc := "(II)Z" } : Jvm.MethodName) ({ cls := "TwinConsoleModel", name := "seed", desc := "(II)Z" } : Jvm.MethodName)) ∈ tc_wA := tc_mem (i := 994) (by decide +kernel) (by decide +kernel)
theorem tw_995 : (Jvm.Cond.code ({ cls := "TwinConsoleModel", name := "seed", desc := "(II)Z" } : Jvm.MethodName) prog_9_method_57_code (3 : Nat) (Option.some Jvm.ClassFile.FieldType.boolean)) ∈ tc_wA := tc_mem (i := 995) (by decide +kernel) (by decide +kernel)
theorem tw_992 : (Jvm.Cond.methodLink "TwinConsoleLaw" (48 : Nat) ({ cls := "TwinConsoleModel", name := "seed", desc := "(II)Z" } : Jvm.MethodName)) ∈ tc_wA := tc_mem (i := 992) (by decide +kernel) (by decide +kernel)
theorem tw_993 : (Jvm.Cond.instanceMethod ({ cls := "TwinConsoleModel", name := "seed", desc := "(II)Z" } : Jvm.MethodName)) ∈ tc_wA := tc_mem (i := 993) (by decide +kernel) (by decide +kernel)
theorem tw_601 : (Jvm.Cond.selects "TwinConsole" ({ cls := "TwinConsole", name := "video", desc := "(II)I" } : Jvm.MethodName) ({ cls := "TwinConsole", name := "video", desc := "(II)I" } : Jvm.MethodName)) ∈ tc_wA := tc_mem (i := 601) (by decide +kernel) (by decide +kernel)
theorem tw_602 : (Jvm.Cond.code ({ cls := "TwinConsole", name := "video", desc := "(II)I" } : Jvm.MethodName) prog_1_method_10_code (3 : Nat) (Option.some Jvm.ClassFile.FieldType.int)) ∈ tc_wA := tc_mem (i := 602) (by decide +kernel) (by decide +kernel)
theorem tw_599 : (Jvm.Cond.methodLink "TwinConsoleLaw" (49 : Nat) ({ cls := "TwinConsole", name := "video", desc := "(II)I" } : Jvm.MethodName)) ∈ tc_wA := tc_mem (i := 599) (by decide +kernel) (by decide +kernel)
theorem tw_600 : (Jvm.Cond.instanceMethod ({ cls := "TwinConsole", name := "video", desc := "(II)I" } : Jvm.MethodName)) ∈ tc_wA := tc_mem (i := 600) (by decide +kernel) (by decide +kernel)
theorem tw_1002 : (Jvm.Cond.selects "TwinConsoleModel" ({ cls := "TwinConsoleModel", name := "video", desc := "(II)I" } : Jvm.MethodName) ({ cls := "TwinConsoleModel", name := "video", desc := "(II)I" } : Jvm.MethodName)) ∈ tc_wA := tc_mem (i := 1002) (by decide +kernel) (by decide +kernel)
theorem tw_1003 : (Jvm.Cond.code ({ cls := "TwinConsoleModel", name := "video", desc := "(II)I" } : Jvm.MethodName) prog_9_method_59_code (3 : Nat) (Option.some Jvm.ClassFile.FieldType.int)) ∈ tc_wA := tc_mem (i := 1003) (by decide +kernel) (by decide +kernel)
theorem tw_1000 : (Jvm.Cond.methodLink "TwinConsoleLaw" (53 : Nat) ({ cls := "TwinConsoleModel", name := "video", desc := "(II)I" } : Jvm.MethodName)) ∈ tc_wA := tc_mem (i := 1000) (by decide +kernel) (by decide +kernel)
theorem tw_1001 : (Jvm.Cond.instanceMethod ({ cls := "TwinConsoleModel", name := "video", desc := "(II)I" } : Jvm.MethodName)) ∈ tc_wA := tc_mem (i := 1001) (by decide +kernel) (by decide +kernel)
theorem tw_613 : (Jvm.Cond.selects "TwinConsole" ({ cls := "TwinConsole", name := "pixel", desc := "(II)I" } : Jvm.MethodName) ({ cls := "TwinConsole", name := "pixel", desc := "(II)I" } : Jvm.MethodName)) ∈ tc_wA := tc_mem (i := 613) (by decide +kernel) (by decide +kernel)
theorem tw_614 : (Jvm.Cond.code ({ cls := "TwinConsole", name := "pixel", desc := "(II)I" } : Jvm.MethodName) prog_1_method_11_code (3 : Nat) (Option.some Jvm.ClassFile.FieldType.int)) ∈ tc_wA := tc_mem (i := 614) (by decide +kernel) (by decide +kernel)
theorem tw_611 : (Jvm.Cond.methodLink "TwinConsoleLaw" (54 : Nat) ({ cls := "TwinConsole", name := "pixel", desc := "(II)I" } : Jvm.MethodName)) ∈ tc_wA := tc_mem (i := 611) (by decide +kernel) (by decide +kernel)
theorem tw_612 : (Jvm.Cond.instanceMethod ({ cls := "TwinConsole", name := "pixel", desc := "(II)I" } : Jvm.MethodName)) ∈ tc_wA := tc_mem (i := 612) (by decide +kernel) (by decide +kernel)
theorem tw_1006 : (Jvm.Cond.selects "TwinConsoleModel" ({ cls := "TwinConsoleModel", name := "pixel", desc := "(II)I" } : Jvm.MethodName) ({ cls := "TwinConsoleModel", name := "pixel", desc := "(II)I" } : Jvm.MethodName)) ∈ tc_wA := tc_mem (i := 1006) (by decide +kernel) (by decide +kernel)
theorem tw_1007 : (Jvm.Cond.code ({ cls := "TwinConsoleModel", name := "pixel", desc := "(II)I" } : Jvm.MethodName) prog_9_method_60_code (3 : Nat) (Option.some Jvm.ClassFile.FieldType.int)) ∈ tc_wA := tc_mem (i := 1007) (by decide +kernel) (by decide +kernel)
theorem tw_1004 : (Jvm.Cond.methodLink "TwinConsoleLaw" (57 : Nat) ({ cls := "TwinConsoleModel", name := "pixel", desc := "(II)I" } : Jvm.MethodName)) ∈ tc_wA := tc_mem (i := 1004) (by decide +kernel) (by decide +kernel)
theorem tw_1005 : (Jvm.Cond.instanceMethod ({ cls := "TwinConsoleModel", name := "pixel", desc := "(II)I" } : Jvm.MethodName)) ∈ tc_wA := tc_mem (i := 1005) (by decide +kernel) (by decide +kernel)
theorem tw_11 : (Jvm.Cond.methodLink "TwinConsoleLaw" (9 : Nat) ({ cls := "TwinConsole", name := "<init>", desc := "()V" } : Jvm.MethodName)) ∈ tc_wA := tc_mem (i := 11) (by decide +kernel) (by decide +kernel)
theorem tw_13 : (Jvm.Cond.code ({ cls := "TwinConsole", name := "<init>", desc := "()V" } : Jvm.MethodName) prog_1_method_1_code (1 : Nat) (Option.none : Option Jvm.ClassFile.FieldType)) ∈ tc_wA := tc_mem (i := 13) (by decide +kernel) (by decide +kernel)
theorem tw_12 : (Jvm.Cond.instanceMethod ({ cls := "TwinConsole", name := "<init>", desc := "()V" } : Jvm.MethodName)) ∈ tc_wA := tc_mem (i := 12) (by decide +kernel) (by decide +kernel)
theorem tw_617 : (Jvm.Cond.methodLink "TwinConsoleLaw" (12 : Nat) ({ cls := "TwinConsoleModel", name := "<init>", desc := "()V" } : Jvm.MethodName)) ∈ tc_wA := tc_mem (i := 617) (by decide +kernel) (by decide +kernel)
theorem tw_619 : (Jvm.Cond.code ({ cls := "TwinConsoleModel", name := "<init>", desc := "()V" } : Jvm.MethodName) prog_9_method_1_code (1 : Nat) (Option.none : Option Jvm.ClassFile.FieldType)) ∈ tc_wA := tc_mem (i := 619) (by decide +kernel) (by decide +kernel)
theorem tw_618 : (Jvm.Cond.instanceMethod ({ cls := "TwinConsoleModel", name := "<init>", desc := "()V" } : Jvm.MethodName)) ∈ tc_wA := tc_mem (i := 618) (by decide +kernel) (by decide +kernel)
theorem tw_9 : (Jvm.Cond.classLink "TwinConsoleLaw" (7 : Nat) "TwinConsole") ∈ tc_wA := tc_mem (i := 9) (by decide +kernel) (by decide +kernel)
theorem tw_10 : (Jvm.Cond.instantiable "TwinConsole" (7 : Nat)) ∈ tc_wA := tc_mem (i := 10) (by decide +kernel) (by decide +kernel)
theorem tw_615 : (Jvm.Cond.classLink "TwinConsoleLaw" (10 : Nat) "TwinConsoleModel") ∈ tc_wA := tc_mem (i := 615) (by decide +kernel) (by decide +kernel)
theorem tw_616 : (Jvm.Cond.instantiable "TwinConsoleModel" (47 : Nat)) ∈ tc_wA := tc_mem (i := 616) (by decide +kernel) (by decide +kernel)
theorem tn_XT_15 : tn_V RXT 15 yXS_init cXS_init 2 1 := ⟨tw_19, tw_20, tw_2, tw_21, rfl, by decide, by decide, by decide +kernel⟩
theorem tn_XT_24 : tn_V RXT 24 yXP_init cXP_init 1 0 := ⟨tw_73, tw_74, tw_3, tw_75, rfl, by decide, by decide, by decide +kernel⟩
theorem tn_XT_31 : tn_V RXT 31 yXD_init cXD_init 2 1 := ⟨tw_121, tw_122, tw_4, tw_123, rfl, by decide, by decide, by decide +kernel⟩
theorem tn_XT_40 : tn_V RXT 40 yXB_init cXB_init 4 3 := ⟨tw_158, tw_159, tw_5, tw_160, rfl, by decide, by decide, by decide +kernel⟩
theorem tn_XT_49 : tn_V RXT 49 yXU_init cXU_init 6 5 := ⟨tw_194, tw_195, tw_6, tw_196, rfl, by decide, by decide, by decide +kernel⟩
theorem tn_XT_58 : tn_V RXT 58 yXM_init cXM_init 2 1 := ⟨tw_226, tw_227, tw_7, tw_228, rfl, by decide, by decide, by decide +kernel⟩
theorem tn_L_9 : tn_V "TwinConsoleLaw" 9 yXT_init cXT_init 1 0 := ⟨tw_11, tw_12, tw_1, tw_13, rfl, by decide, by decide, by decide +kernel⟩
theorem tn_L_12 : tn_V "TwinConsoleLaw" 12 yXR_init cXR_init 1 0 := ⟨tw_617, tw_618, tw_8, tw_619, rfl, by decide, by decide, by decide +kernel⟩
theorem tv_L_13 : tc_V "TwinConsoleLaw" 13 yXT_rom cXT_rom 3 (some .boolean) 2 := ⟨tw_288, tw_289, tw_290, tw_1, tw_291, by decide, by decide, by decide +kernel⟩
theorem tv_L_17 : tc_V "TwinConsoleLaw" 17 yXR_rom cXR_rom 3 (some .boolean) 2 := ⟨tw_763, tw_764, tw_765, tw_8, tw_766, by decide, by decide, by decide +kernel⟩
theorem tv_L_18 : tc_V "TwinConsoleLaw" 18 yXT_reset cXT_reset 1 none 0 := ⟨tw_293, tw_294, tw_295, tw_1, tw_296, by decide, by decide, by decide +kernel⟩
theorem tv_L_21 : tc_V "TwinConsoleLaw" 21 yXR_reset cXR_reset 2 none 0 := ⟨tw_767, tw_768, tw_769, tw_8, tw_770, by decide, by decide, by decide +kernel⟩
theorem tv_L_22 : tc_V "TwinConsoleLaw" 22 yXT_pad cXT_pad 2 none 1 := ⟨tw_313, tw_314, tw_315, tw_1, tw_316, by decide, by decide, by decide +kernel⟩
theorem tv_L_26 : tc_V "TwinConsoleLaw" 26 yXR_pad cXR_pad 2 none 1 := ⟨tw_783, tw_784, tw_785, tw_8, tw_786, by decide, by decide, by decide +kernel⟩
theorem tv_L_27 : tc_V "TwinConsoleLaw" 27 yXT_step cXT_step 1 (some .int) 0 := ⟨tw_317, tw_318, tw_319, tw_1, tw_320, by decide, by decide, by decide +kernel⟩
theorem tv_L_31 : tc_V "TwinConsoleLaw" 31 yXR_step cXR_step 2 (some .int) 0 := ⟨tw_787, tw_788, tw_789, tw_8, tw_790, by decide, by decide, by decide +kernel⟩
theorem tv_L_32 : tc_V "TwinConsoleLaw" 32 yXT_run cXT_run 4 (some .int) 1 := ⟨tw_577, tw_578, tw_579, tw_1, tw_580, by decide, by decide, by decide +kernel⟩
theorem tv_L_36 : tc_V "TwinConsoleLaw" 36 yXR_run cXR_run 3 (some .int) 1 := ⟨tw_983, tw_984, tw_985, tw_8, tw_986, by decide, by decide, by decide +kernel⟩
theorem tv_L_37 : tc_V "TwinConsoleLaw" 37 yXT_memory cXT_memory 2 (some .int) 1 := ⟨tw_581, tw_582, tw_583, tw_1, tw_584, by decide, by decide, by decide +kernel⟩
theorem tv_L_40 : tc_V "TwinConsoleLaw" 40 yXR_memory cXR_memory 2 (some .int) 1 := ⟨tw_988, tw_989, tw_990, tw_8, tw_991, by decide, by decide, by decide +kernel⟩
theorem tv_L_41 : tc_V "TwinConsoleLaw" 41 yXT_register cXT_register 2 (some .int) 1 := ⟨tw_586, tw_587, tw_588, tw_1, tw_589, by decide, by decide, by decide +kernel⟩
theorem tv_L_44 : tc_V "TwinConsoleLaw" 44 yXR_register cXR_register 2 (some .int) 1 := ⟨tw_996, tw_997, tw_998, tw_8, tw_999, by decide, by decide, by decide +kernel⟩
theorem tv_L_45 : tc_V "TwinConsoleLaw" 45 yXT_seed cXT_seed 3 (some .boolean) 2 := ⟨tw_595, tw_596, tw_597, tw_1, tw_598, by decide, by decide, by decide +kernel⟩
theorem tv_L_48 : tc_V "TwinConsoleLaw" 48 yXR_seed cXR_seed 3 (some .boolean) 2 := ⟨tw_992, tw_993, tw_994, tw_8, tw_995, by decide, by decide, by decide +kernel⟩
theorem tv_L_49 : tc_V "TwinConsoleLaw" 49 yXT_video cXT_video 3 (some .int) 2 := ⟨tw_599, tw_600, tw_601, tw_1, tw_602, by decide, by decide, by decide +kernel⟩
theorem tv_L_53 : tc_V "TwinConsoleLaw" 53 yXR_video cXR_video 3 (some .int) 2 := ⟨tw_1000, tw_1001, tw_1002, tw_8, tw_1003, by decide, by decide, by decide +kernel⟩
theorem tv_L_54 : tc_V "TwinConsoleLaw" 54 yXT_pixel cXT_pixel 3 (some .int) 2 := ⟨tw_611, tw_612, tw_613, tw_1, tw_614, by decide, by decide, by decide +kernel⟩
theorem tv_L_57 : tc_V "TwinConsoleLaw" 57 yXR_pixel cXR_pixel 3 (some .int) 2 := ⟨tw_1004, tw_1005, tw_1006, tw_8, tw_1007, by decide, by decide, by decide +kernel⟩
theorem dfXT : ∀ j, j < 7 → defaultValue (tyXT j) = vp_V [.null, .null, .null, .null, .null, .null, .null] j
  | 0, _ => rfl
  | 1, _ => rfl
  | 2, _ => rfl
  | 3, _ => rfl
  | 4, _ => rfl
  | 5, _ => rfl
  | 6, _ => rfl
  | k + 7, h => absurd h (by omega)
theorem dfXM : ∀ j, j < 10 → defaultValue (tyXM j) = vp_V [.null, .null, .int 0, .int 0, .int 0, .int 0, .int 0, .int 0, .int 0, .int 0] j
  | 0, _ => rfl
  | 1, _ => rfl
  | 2, _ => rfl
  | 3, _ => rfl
  | 4, _ => rfl
  | 5, _ => rfl
  | 6, _ => rfl
  | 7, _ => rfl
  | 8, _ => rfl
  | 9, _ => rfl
  | k + 10, h => absurd h (by omega)
theorem dfXS : ∀ j, j < 13 → defaultValue (tyXS j) = vp_V [.null, .null, .int 0, .int 0, .int 0, .int 0, .int 0, .int 0, .int 0, .int 0, .int 0, .int 0, .int 0] j
  | 0, _ => rfl
  | 1, _ => rfl
  | 2, _ => rfl
  | 3, _ => rfl
  | 4, _ => rfl
  | 5, _ => rfl
  | 6, _ => rfl
  | 7, _ => rfl
  | 8, _ => rfl
  | 9, _ => rfl
  | 10, _ => rfl
  | 11, _ => rfl
  | 12, _ => rfl
  | k + 13, h => absurd h (by omega)
theorem dfXP : ∀ j, j < 10 → defaultValue (tyXP j) = vp_V [.null, .null, .null, .null, .int 0, .int 0, .int 0, .int 0, .int 0, .int 0] j
  | 0, _ => rfl
  | 1, _ => rfl
  | 2, _ => rfl
  | 3, _ => rfl
  | 4, _ => rfl
  | 5, _ => rfl
  | 6, _ => rfl
  | 7, _ => rfl
  | 8, _ => rfl
  | 9, _ => rfl
  | k + 10, h => absurd h (by omega)
theorem dfXB : ∀ j, j < 8 → defaultValue (tyXB j) = vp_V [.null, .null, .null, .int 0, .int 0, .int 0, .int 0, .int 0] j
  | 0, _ => rfl
  | 1, _ => rfl
  | 2, _ => rfl
  | 3, _ => rfl
  | 4, _ => rfl
  | 5, _ => rfl
  | 6, _ => rfl
  | 7, _ => rfl
  | k + 8, h => absurd h (by omega)
theorem dfXD : ∀ j, j < 9 → defaultValue (tyXD j) = vp_V [.null, .null, .null, .null, .null, .null, .null, .int 0, .int 0] j
  | 0, _ => rfl
  | 1, _ => rfl
  | 2, _ => rfl
  | 3, _ => rfl
  | 4, _ => rfl
  | 5, _ => rfl
  | 6, _ => rfl
  | 7, _ => rfl
  | 8, _ => rfl
  | k + 9, h => absurd h (by omega)
theorem dfXU : ∀ j, j < 8 → defaultValue (tyXU j) = vp_V [.null, .null, .null, .null, .null, .null, .int 0, .int 0] j
  | 0, _ => rfl
  | 1, _ => rfl
  | 2, _ => rfl
  | 3, _ => rfl
  | 4, _ => rfl
  | 5, _ => rfl
  | 6, _ => rfl
  | 7, _ => rfl
  | k + 8, h => absurd h (by omega)
theorem dfXR : ∀ j, j < 47 → defaultValue (tyXR j) = vp_V [.null, .null, .null, .int 0, .int 0, .int 0, .int 0, .int 0, .int 0, .int 0, .int 0, .int 0, .int 0, .int 0, .int 0, .int 0, .int 0, .null, .int 0, .int 0, .int 0, .int 0, .int 0, .int 0, .int 0, .int 0, .int 0, .int 0, .int 0, .null, .null, .null, .null, .int 0, .int 0, .int 0, .int 0, .int 0, .int 0, .int 0, .int 0, .int 0, .int 0, .int 0, .null, .int 0, .null] j
  | 0, _ => rfl
  | 1, _ => rfl
  | 2, _ => rfl
  | 3, _ => rfl
  | 4, _ => rfl
  | 5, _ => rfl
  | 6, _ => rfl
  | 7, _ => rfl
  | 8, _ => rfl
  | 9, _ => rfl
  | 10, _ => rfl
  | 11, _ => rfl
  | 12, _ => rfl
  | 13, _ => rfl
  | 14, _ => rfl
  | 15, _ => rfl
  | 16, _ => rfl
  | 17, _ => rfl
  | 18, _ => rfl
  | 19, _ => rfl
  | 20, _ => rfl
  | 21, _ => rfl
  | 22, _ => rfl
  | 23, _ => rfl
  | 24, _ => rfl
  | 25, _ => rfl
  | 26, _ => rfl
  | 27, _ => rfl
  | 28, _ => rfl
  | 29, _ => rfl
  | 30, _ => rfl
  | 31, _ => rfl
  | 32, _ => rfl
  | 33, _ => rfl
  | 34, _ => rfl
  | 35, _ => rfl
  | 36, _ => rfl
  | 37, _ => rfl
  | 38, _ => rfl
  | 39, _ => rfl
  | 40, _ => rfl
  | 41, _ => rfl
  | 42, _ => rfl
  | 43, _ => rfl
  | 44, _ => rfl
  | 45, _ => rfl
  | 46, _ => rfl
  | k + 47, h => absurd h (by omega)
