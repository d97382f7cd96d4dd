/-! words of the tables, by their places -/
theorem gw1_0 : Jvm.Cond.initialized "PressureNetLaw" ∈ gTb := gtb1 0 rfl rfl
theorem gw1_25 : Jvm.Cond.classLink "PressureNetLaw" (8 : Nat) "PressureNet" ∈ gTb := gtb1 25 rfl rfl
theorem gw1_26 : Jvm.Cond.instantiable "PressureNet" (8 : Nat) ∈ gTb := gtb1 26 rfl rfl
theorem gw1_27 : Jvm.Cond.methodLink "PressureNetLaw" (141 : Nat) ({ cls := "PressureNet", name := "<init>", desc := "()V" } : Jvm.MethodName) ∈ gTb := gtb1 27 rfl rfl
theorem gw1_28 : Jvm.Cond.instanceMethod ({ cls := "PressureNet", name := "<init>", desc := "()V" } : Jvm.MethodName) ∈ gTb := gtb1 28 rfl rfl
theorem gw1_29 : Jvm.Cond.code ({ cls := "PressureNet", name := "<init>", desc := "()V" } : Jvm.MethodName) prog_1_method_1_code (1 : Nat) (Option.none : Option Jvm.ClassFile.FieldType) ∈ gTb := gtb1 29 rfl rfl
theorem gw2_125 : Jvm.Cond.methodLink "PressureNetLaw" (158 : Nat) ({ cls := "PressureNet", name := "errorPosition", desc := "()I" } : Jvm.MethodName) ∈ gTb := gtb2 125 rfl rfl
theorem gw2_126 : Jvm.Cond.instanceMethod ({ cls := "PressureNet", name := "errorPosition", desc := "()I" } : Jvm.MethodName) ∈ gTb := gtb2 126 rfl rfl
theorem gw2_127 : Jvm.Cond.selects "PressureNet" ({ cls := "PressureNet", name := "errorPosition", desc := "()I" } : Jvm.MethodName) ({ cls := "PressureNet", name := "errorPosition", desc := "()I" } : Jvm.MethodName) ∈ gTb := gtb2 127 rfl rfl
theorem gw2_128 : Jvm.Cond.code ({ cls := "PressureNet", name := "errorPosition", desc := "()I" } : Jvm.MethodName) prog_1_method_5_code (1 : Nat) (Option.some Jvm.ClassFile.FieldType.int) ∈ gTb := gtb2 128 rfl rfl
theorem gw3_28 : Jvm.Cond.methodLink "PressureNetLaw" (197 : Nat) ({ cls := "PressureNet", name := "resetShadows", desc := "()I" } : Jvm.MethodName) ∈ gTb := gtb3 28 rfl rfl
theorem gw3_29 : Jvm.Cond.instanceMethod ({ cls := "PressureNet", name := "resetShadows", desc := "()I" } : Jvm.MethodName) ∈ gTb := gtb3 29 rfl rfl
theorem gw3_30 : Jvm.Cond.selects "PressureNet" ({ cls := "PressureNet", name := "resetShadows", desc := "()I" } : Jvm.MethodName) ({ cls := "PressureNet", name := "resetShadows", desc := "()I" } : Jvm.MethodName) ∈ gTb := gtb3 30 rfl rfl
theorem gw3_31 : Jvm.Cond.code ({ cls := "PressureNet", name := "resetShadows", desc := "()I" } : Jvm.MethodName) prog_1_method_17_code (2 : Nat) (Option.some Jvm.ClassFile.FieldType.int) ∈ gTb := gtb3 31 rfl rfl
theorem gw3_59 : Jvm.Cond.methodLink "PressureNetLaw" (207 : Nat) ({ cls := "PressureNet", name := "undoCount", desc := "()I" } : Jvm.MethodName) ∈ gTb := gtb3 59 rfl rfl
theorem gw3_60 : Jvm.Cond.instanceMethod ({ cls := "PressureNet", name := "undoCount", desc := "()I" } : Jvm.MethodName) ∈ gTb := gtb3 60 rfl rfl
theorem gw3_61 : Jvm.Cond.selects "PressureNet" ({ cls := "PressureNet", name := "undoCount", desc := "()I" } : Jvm.MethodName) ({ cls := "PressureNet", name := "undoCount", desc := "()I" } : Jvm.MethodName) ∈ gTb := gtb3 61 rfl rfl
theorem gw3_62 : Jvm.Cond.code ({ cls := "PressureNet", name := "undoCount", desc := "()I" } : Jvm.MethodName) prog_1_method_20_code (1 : Nat) (Option.some Jvm.ClassFile.FieldType.int) ∈ gTb := gtb3 62 rfl rfl
theorem gw3_63 : Jvm.Cond.methodLink "PressureNetLaw" (211 : Nat) ({ cls := "PressureNet", name := "save", desc := "()I" } : Jvm.MethodName) ∈ gTb := gtb3 63 rfl rfl
theorem gw3_64 : Jvm.Cond.instanceMethod ({ cls := "PressureNet", name := "save", desc := "()I" } : Jvm.MethodName) ∈ gTb := gtb3 64 rfl rfl
theorem gw3_65 : Jvm.Cond.selects "PressureNet" ({ cls := "PressureNet", name := "save", desc := "()I" } : Jvm.MethodName) ({ cls := "PressureNet", name := "save", desc := "()I" } : Jvm.MethodName) ∈ gTb := gtb3 65 rfl rfl
theorem gw3_66 : Jvm.Cond.code ({ cls := "PressureNet", name := "save", desc := "()I" } : Jvm.MethodName) prog_1_method_21_code (1 : Nat) (Option.some Jvm.ClassFile.FieldType.int) ∈ gTb := gtb3 66 rfl rfl
theorem gw3_68 : Jvm.Cond.methodLink "PressureNetLaw" (239 : Nat) ({ cls := "PressureNet", name := "overloaded", desc := "()I" } : Jvm.MethodName) ∈ gTb := gtb3 68 rfl rfl
theorem gw3_69 : Jvm.Cond.instanceMethod ({ cls := "PressureNet", name := "overloaded", desc := "()I" } : Jvm.MethodName) ∈ gTb := gtb3 69 rfl rfl
theorem gw3_70 : Jvm.Cond.selects "PressureNet" ({ cls := "PressureNet", name := "overloaded", desc := "()I" } : Jvm.MethodName) ({ cls := "PressureNet", name := "overloaded", desc := "()I" } : Jvm.MethodName) ∈ gTb := gtb3 70 rfl rfl
theorem gw3_71 : Jvm.Cond.code ({ cls := "PressureNet", name := "overloaded", desc := "()I" } : Jvm.MethodName) prog_1_method_31_code (4 : Nat) (Option.some Jvm.ClassFile.FieldType.int) ∈ gTb := gtb3 71 rfl rfl
theorem gw3_93 : Jvm.Cond.methodLink "PressureNetLaw" (145 : Nat) ({ cls := "PressureNetLaw", name := "append", desc := "(LPressureNet;IIIII[J)I" } : Jvm.MethodName) ∈ gTb := gtb3 93 rfl rfl
theorem gw3_94 : Jvm.Cond.static ({ cls := "PressureNetLaw", name := "append", desc := "(LPressureNet;IIIII[J)I" } : Jvm.MethodName) ∈ gTb := gtb3 94 rfl rfl
theorem gw3_95 : Jvm.Cond.codeWith ({ cls := "PressureNetLaw", name := "append", desc := "(LPressureNet;IIIII[J)I" } : Jvm.MethodName) method_3_code (8 : Nat) (Option.some Jvm.ClassFile.FieldType.int) [((0 : Nat), (16 : Nat), (19 : Nat), (13 : Nat))] ∈ gTb := gtb3 95 rfl rfl
theorem gw3_96 : Jvm.Cond.classLink "PressureNetLaw" (13 : Nat) "java/lang/IllegalStateException" ∈ gTb := gtb3 96 rfl rfl
theorem gw3_97 : Jvm.Cond.methodLink "PressureNetLaw" (7 : Nat) ({ cls := "PressureNet", name := "append", desc := "(IIIII)I" } : Jvm.MethodName) ∈ gTb := gtb3 97 rfl rfl
theorem gw3_98 : Jvm.Cond.instanceMethod ({ cls := "PressureNet", name := "append", desc := "(IIIII)I" } : Jvm.MethodName) ∈ gTb := gtb3 98 rfl rfl
theorem gw3_99 : Jvm.Cond.selects "PressureNet" ({ cls := "PressureNet", name := "append", desc := "(IIIII)I" } : Jvm.MethodName) ({ cls := "PressureNet", name := "append", desc := "(IIIII)I" } : Jvm.MethodName) ∈ gTb := gtb3 99 rfl rfl
theorem gw3_100 : Jvm.Cond.code ({ cls := "PressureNet", name := "append", desc := "(IIIII)I" } : Jvm.MethodName) prog_1_method_2_code (7 : Nat) (Option.some Jvm.ClassFile.FieldType.int) ∈ gTb := gtb3 100 rfl rfl
theorem gw3_106 : Jvm.Cond.castable "java/lang/IllegalStateException" "java/lang/IllegalStateException" ∈ gNw := gnw3 106 rfl rfl
theorem gw3_176 : Jvm.Cond.methodLink "PressureNetLaw" (154 : Nat) ({ cls := "PressureNetLaw", name := "truncate", desc := "(LPressureNet;I[J)I" } : Jvm.MethodName) ∈ gTb := gtb3 176 rfl rfl
theorem gw3_177 : Jvm.Cond.static ({ cls := "PressureNetLaw", name := "truncate", desc := "(LPressureNet;I[J)I" } : Jvm.MethodName) ∈ gTb := gtb3 177 rfl rfl
theorem gw3_178 : Jvm.Cond.codeWith ({ cls := "PressureNetLaw", name := "truncate", desc := "(LPressureNet;I[J)I" } : Jvm.MethodName) method_4_code (4 : Nat) (Option.some Jvm.ClassFile.FieldType.int) [((0 : Nat), (9 : Nat), (12 : Nat), (19 : Nat))] ∈ gTb := gtb3 178 rfl rfl
theorem gw3_179 : Jvm.Cond.classLink "PressureNetLaw" (19 : Nat) "java/lang/IllegalArgumentException" ∈ gTb := gtb3 179 rfl rfl
theorem gw3_180 : Jvm.Cond.methodLink "PressureNetLaw" (15 : Nat) ({ cls := "PressureNet", name := "truncate", desc := "(I)I" } : Jvm.MethodName) ∈ gTb := gtb3 180 rfl rfl
theorem gw3_181 : Jvm.Cond.instanceMethod ({ cls := "PressureNet", name := "truncate", desc := "(I)I" } : Jvm.MethodName) ∈ gTb := gtb3 181 rfl rfl
theorem gw3_182 : Jvm.Cond.selects "PressureNet" ({ cls := "PressureNet", name := "truncate", desc := "(I)I" } : Jvm.MethodName) ({ cls := "PressureNet", name := "truncate", desc := "(I)I" } : Jvm.MethodName) ∈ gTb := gtb3 182 rfl rfl
theorem gw3_183 : Jvm.Cond.code ({ cls := "PressureNet", name := "truncate", desc := "(I)I" } : Jvm.MethodName) prog_1_method_4_code (2 : Nat) (Option.some Jvm.ClassFile.FieldType.int) ∈ gTb := gtb3 183 rfl rfl
theorem gw3_189 : Jvm.Cond.castable "java/lang/IllegalArgumentException" "java/lang/IllegalArgumentException" ∈ gNw := gnw3 189 rfl rfl
theorem gw3_203 : Jvm.Cond.methodLink "PressureNetLaw" (162 : Nat) ({ cls := "PressureNetLaw", name := "load", desc := "(LPressureNet;[J)I" } : Jvm.MethodName) ∈ gTb := gtb3 203 rfl rfl
theorem gw3_204 : Jvm.Cond.static ({ cls := "PressureNetLaw", name := "load", desc := "(LPressureNet;[J)I" } : Jvm.MethodName) ∈ gTb := gtb3 204 rfl rfl
theorem gw3_205 : Jvm.Cond.codeWith ({ cls := "PressureNetLaw", name := "load", desc := "(LPressureNet;[J)I" } : Jvm.MethodName) method_5_code (3 : Nat) (Option.some Jvm.ClassFile.FieldType.int) [((0 : Nat), (8 : Nat), (11 : Nat), (19 : Nat))] ∈ gTb := gtb3 205 rfl rfl
theorem gw3_206 : Jvm.Cond.methodLink "PressureNetLaw" (21 : Nat) ({ cls := "PressureNet", name := "load", desc := "()I" } : Jvm.MethodName) ∈ gTb := gtb3 206 rfl rfl
theorem gw3_207 : Jvm.Cond.instanceMethod ({ cls := "PressureNet", name := "load", desc := "()I" } : Jvm.MethodName) ∈ gTb := gtb3 207 rfl rfl
theorem gw3_208 : Jvm.Cond.selects "PressureNet" ({ cls := "PressureNet", name := "load", desc := "()I" } : Jvm.MethodName) ({ cls := "PressureNet", name := "load", desc := "()I" } : Jvm.MethodName) ∈ gTb := gtb3 208 rfl rfl
theorem gw3_209 : Jvm.Cond.code ({ cls := "PressureNet", name := "load", desc := "()I" } : Jvm.MethodName) prog_1_method_6_code (1 : Nat) (Option.some Jvm.ClassFile.FieldType.int) ∈ gTb := gtb3 209 rfl rfl
theorem gw3_220 : Jvm.Cond.methodLink "PressureNetLaw" (166 : Nat) ({ cls := "PressureNetLaw", name := "addLink", desc := "(LPressureNet;III[J)I" } : Jvm.MethodName) ∈ gTb := gtb3 220 rfl rfl
theorem gw3_221 : Jvm.Cond.static ({ cls := "PressureNetLaw", name := "addLink", desc := "(LPressureNet;III[J)I" } : Jvm.MethodName) ∈ gTb := gtb3 221 rfl rfl
theorem gw3_222 : Jvm.Cond.codeWith ({ cls := "PressureNetLaw", name := "addLink", desc := "(LPressureNet;III[J)I" } : Jvm.MethodName) method_6_code (6 : Nat) (Option.some Jvm.ClassFile.FieldType.int) [((0 : Nat), (12 : Nat), (15 : Nat), (29 : Nat)), ((0 : Nat), (12 : Nat), (19 : Nat), (19 : Nat)), ((0 : Nat), (12 : Nat), (23 : Nat), (13 : Nat))] ∈ gTb := gtb3 222 rfl rfl
theorem gw3_223 : Jvm.Cond.classLink "PressureNetLaw" (29 : Nat) "java/lang/IndexOutOfBoundsException" ∈ gTb := gtb3 223 rfl rfl
theorem gw3_224 : Jvm.Cond.methodLink "PressureNetLaw" (25 : Nat) ({ cls := "PressureNet", name := "addLink", desc := "(III)I" } : Jvm.MethodName) ∈ gTb := gtb3 224 rfl rfl
theorem gw3_225 : Jvm.Cond.instanceMethod ({ cls := "PressureNet", name := "addLink", desc := "(III)I" } : Jvm.MethodName) ∈ gTb := gtb3 225 rfl rfl
theorem gw3_226 : Jvm.Cond.selects "PressureNet" ({ cls := "PressureNet", name := "addLink", desc := "(III)I" } : Jvm.MethodName) ({ cls := "PressureNet", name := "addLink", desc := "(III)I" } : Jvm.MethodName) ∈ gTb := gtb3 226 rfl rfl
theorem gw3_227 : Jvm.Cond.code ({ cls := "PressureNet", name := "addLink", desc := "(III)I" } : Jvm.MethodName) prog_1_method_7_code (4 : Nat) (Option.some Jvm.ClassFile.FieldType.int) ∈ gTb := gtb3 227 rfl rfl
theorem gw3_238 : Jvm.Cond.castable "java/lang/IndexOutOfBoundsException" "java/lang/IndexOutOfBoundsException" ∈ gNw := gnw3 238 rfl rfl
theorem gw4_15 : Jvm.Cond.methodLink "PressureNetLaw" (170 : Nat) ({ cls := "PressureNetLaw", name := "setCapacity", desc := "(LPressureNet;II[J)I" } : Jvm.MethodName) ∈ gTb := gtb4 15 rfl rfl
theorem gw4_16 : Jvm.Cond.static ({ cls := "PressureNetLaw", name := "setCapacity", desc := "(LPressureNet;II[J)I" } : Jvm.MethodName) ∈ gTb := gtb4 16 rfl rfl
theorem gw4_17 : Jvm.Cond.codeWith ({ cls := "PressureNetLaw", name := "setCapacity", desc := "(LPressureNet;II[J)I" } : Jvm.MethodName) method_7_code (5 : Nat) (Option.some Jvm.ClassFile.FieldType.int) [((0 : Nat), (10 : Nat), (13 : Nat), (29 : Nat)), ((0 : Nat), (10 : Nat), (17 : Nat), (19 : Nat))] ∈ gTb := gtb4 17 rfl rfl
theorem gw4_18 : Jvm.Cond.methodLink "PressureNetLaw" (31 : Nat) ({ cls := "PressureNet", name := "setCapacity", desc := "(II)I" } : Jvm.MethodName) ∈ gTb := gtb4 18 rfl rfl
theorem gw4_19 : Jvm.Cond.instanceMethod ({ cls := "PressureNet", name := "setCapacity", desc := "(II)I" } : Jvm.MethodName) ∈ gTb := gtb4 19 rfl rfl
theorem gw4_20 : Jvm.Cond.selects "PressureNet" ({ cls := "PressureNet", name := "setCapacity", desc := "(II)I" } : Jvm.MethodName) ({ cls := "PressureNet", name := "setCapacity", desc := "(II)I" } : Jvm.MethodName) ∈ gTb := gtb4 20 rfl rfl
theorem gw4_21 : Jvm.Cond.code ({ cls := "PressureNet", name := "setCapacity", desc := "(II)I" } : Jvm.MethodName) prog_1_method_8_code (4 : Nat) (Option.some Jvm.ClassFile.FieldType.int) ∈ gTb := gtb4 21 rfl rfl
theorem gw4_27 : Jvm.Cond.methodLink "PressureNetLaw" (174 : Nat) ({ cls := "PressureNetLaw", name := "setConflict", desc := "(LPressureNet;IIZ[J)I" } : Jvm.MethodName) ∈ gTb := gtb4 27 rfl rfl
theorem gw4_28 : Jvm.Cond.static ({ cls := "PressureNetLaw", name := "setConflict", desc := "(LPressureNet;IIZ[J)I" } : Jvm.MethodName) ∈ gTb := gtb4 28 rfl rfl
theorem gw4_29 : Jvm.Cond.codeWith ({ cls := "PressureNetLaw", name := "setConflict", desc := "(LPressureNet;IIZ[J)I" } : Jvm.MethodName) method_8_code (6 : Nat) (Option.some Jvm.ClassFile.FieldType.int) [((0 : Nat), (19 : Nat), (22 : Nat), (29 : Nat)), ((0 : Nat), (19 : Nat), (26 : Nat), (19 : Nat))] ∈ gTb := gtb4 29 rfl rfl
theorem gw4_30 : Jvm.Cond.methodLink "PressureNetLaw" (35 : Nat) ({ cls := "PressureNet", name := "setConflict", desc := "(IIZ)Z" } : Jvm.MethodName) ∈ gTb := gtb4 30 rfl rfl
theorem gw4_31 : Jvm.Cond.instanceMethod ({ cls := "PressureNet", name := "setConflict", desc := "(IIZ)Z" } : Jvm.MethodName) ∈ gTb := gtb4 31 rfl rfl
theorem gw4_32 : Jvm.Cond.selects "PressureNet" ({ cls := "PressureNet", name := "setConflict", desc := "(IIZ)Z" } : Jvm.MethodName) ({ cls := "PressureNet", name := "setConflict", desc := "(IIZ)Z" } : Jvm.MethodName) ∈ gTb := gtb4 32 rfl rfl
theorem gw4_33 : Jvm.Cond.code ({ cls := "PressureNet", name := "setConflict", desc := "(IIZ)Z" } : Jvm.MethodName) prog_1_method_9_code (5 : Nat) (Option.some Jvm.ClassFile.FieldType.boolean) ∈ gTb := gtb4 33 rfl rfl
theorem gw4_37 : Jvm.Cond.methodLink "PressureNetLaw" (178 : Nat) ({ cls := "PressureNetLaw", name := "addFlow", desc := "(LPressureNet;IIII[J)I" } : Jvm.MethodName) ∈ gTb := gtb4 37 rfl rfl
theorem gw4_38 : Jvm.Cond.static ({ cls := "PressureNetLaw", name := "addFlow", desc := "(LPressureNet;IIII[J)I" } : Jvm.MethodName) ∈ gTb := gtb4 38 rfl rfl
theorem gw4_39 : Jvm.Cond.codeWith ({ cls := "PressureNetLaw", name := "addFlow", desc := "(LPressureNet;IIII[J)I" } : Jvm.MethodName) method_9_code (7 : Nat) (Option.some Jvm.ClassFile.FieldType.int) [((0 : Nat), (14 : Nat), (17 : Nat), (29 : Nat)), ((0 : Nat), (14 : Nat), (21 : Nat), (19 : Nat)), ((0 : Nat), (14 : Nat), (25 : Nat), (13 : Nat))] ∈ gTb := gtb4 39 rfl rfl
theorem gw4_40 : Jvm.Cond.methodLink "PressureNetLaw" (39 : Nat) ({ cls := "PressureNet", name := "addFlow", desc := "(IIII)I" } : Jvm.MethodName) ∈ gTb := gtb4 40 rfl rfl
theorem gw4_41 : Jvm.Cond.instanceMethod ({ cls := "PressureNet", name := "addFlow", desc := "(IIII)I" } : Jvm.MethodName) ∈ gTb := gtb4 41 rfl rfl
theorem gw4_42 : Jvm.Cond.selects "PressureNet" ({ cls := "PressureNet", name := "addFlow", desc := "(IIII)I" } : Jvm.MethodName) ({ cls := "PressureNet", name := "addFlow", desc := "(IIII)I" } : Jvm.MethodName) ∈ gTb := gtb4 42 rfl rfl
theorem gw4_43 : Jvm.Cond.code ({ cls := "PressureNet", name := "addFlow", desc := "(IIII)I" } : Jvm.MethodName) prog_1_method_10_code (5 : Nat) (Option.some Jvm.ClassFile.FieldType.int) ∈ gTb := gtb4 43 rfl rfl
theorem gw4_45 : Jvm.Cond.methodLink "PressureNetLaw" (182 : Nat) ({ cls := "PressureNetLaw", name := "setRate", desc := "(LPressureNet;II[J)I" } : Jvm.MethodName) ∈ gTb := gtb4 45 rfl rfl
theorem gw4_46 : Jvm.Cond.static ({ cls := "PressureNetLaw", name := "setRate", desc := "(LPressureNet;II[J)I" } : Jvm.MethodName) ∈ gTb := gtb4 46 rfl rfl
theorem gw4_47 : Jvm.Cond.codeWith ({ cls := "PressureNetLaw", name := "setRate", desc := "(LPressureNet;II[J)I" } : Jvm.MethodName) method_10_code (5 : Nat) (Option.some Jvm.ClassFile.FieldType.int) [((0 : Nat), (10 : Nat), (13 : Nat), (29 : Nat)), ((0 : Nat), (10 : Nat), (17 : Nat), (19 : Nat))] ∈ gTb := gtb4 47 rfl rfl
theorem gw4_48 : Jvm.Cond.methodLink "PressureNetLaw" (43 : Nat) ({ cls := "PressureNet", name := "setRate", desc := "(II)I" } : Jvm.MethodName) ∈ gTb := gtb4 48 rfl rfl
theorem gw4_49 : Jvm.Cond.instanceMethod ({ cls := "PressureNet", name := "setRate", desc := "(II)I" } : Jvm.MethodName) ∈ gTb := gtb4 49 rfl rfl
theorem gw4_50 : Jvm.Cond.selects "PressureNet" ({ cls := "PressureNet", name := "setRate", desc := "(II)I" } : Jvm.MethodName) ({ cls := "PressureNet", name := "setRate", desc := "(II)I" } : Jvm.MethodName) ∈ gTb := gtb4 50 rfl rfl
theorem gw4_51 : Jvm.Cond.code ({ cls := "PressureNet", name := "setRate", desc := "(II)I" } : Jvm.MethodName) prog_1_method_11_code (3 : Nat) (Option.some Jvm.ClassFile.FieldType.int) ∈ gTb := gtb4 51 rfl rfl
theorem gw4_62 : Jvm.Cond.methodLink "PressureNetLaw" (185 : Nat) ({ cls := "PressureNetLaw", name := "setBudget", desc := "(LPressureNet;II[J)I" } : Jvm.MethodName) ∈ gTb := gtb4 62 rfl rfl
theorem gw4_63 : Jvm.Cond.static ({ cls := "PressureNetLaw", name := "setBudget", desc := "(LPressureNet;II[J)I" } : Jvm.MethodName) ∈ gTb := gtb4 63 rfl rfl
theorem gw4_64 : Jvm.Cond.codeWith ({ cls := "PressureNetLaw", name := "setBudget", desc := "(LPressureNet;II[J)I" } : Jvm.MethodName) method_11_code (5 : Nat) (Option.some Jvm.ClassFile.FieldType.int) [((0 : Nat), (10 : Nat), (13 : Nat), (29 : Nat)), ((0 : Nat), (10 : Nat), (17 : Nat), (19 : Nat))] ∈ gTb := gtb4 64 rfl rfl
theorem gw4_65 : Jvm.Cond.methodLink "PressureNetLaw" (46 : Nat) ({ cls := "PressureNet", name := "setBudget", desc := "(II)I" } : Jvm.MethodName) ∈ gTb := gtb4 65 rfl rfl
theorem gw4_66 : Jvm.Cond.instanceMethod ({ cls := "PressureNet", name := "setBudget", desc := "(II)I" } : Jvm.MethodName) ∈ gTb := gtb4 66 rfl rfl
theorem gw4_67 : Jvm.Cond.selects "PressureNet" ({ cls := "PressureNet", name := "setBudget", desc := "(II)I" } : Jvm.MethodName) ({ cls := "PressureNet", name := "setBudget", desc := "(II)I" } : Jvm.MethodName) ∈ gTb := gtb4 67 rfl rfl
theorem gw4_68 : Jvm.Cond.code ({ cls := "PressureNet", name := "setBudget", desc := "(II)I" } : Jvm.MethodName) prog_1_method_12_code (3 : Nat) (Option.some Jvm.ClassFile.FieldType.int) ∈ gTb := gtb4 68 rfl rfl
theorem gw4_69 : Jvm.Cond.methodLink "PressureNetLaw" (188 : Nat) ({ cls := "PressureNetLaw", name := "set", desc := "(LPressureNet;II[J)I" } : Jvm.MethodName) ∈ gTb := gtb4 69 rfl rfl
theorem gw4_70 : Jvm.Cond.static ({ cls := "PressureNetLaw", name := "set", desc := "(LPressureNet;II[J)I" } : Jvm.MethodName) ∈ gTb := gtb4 70 rfl rfl
theorem gw4_71 : Jvm.Cond.codeWith ({ cls := "PressureNetLaw", name := "set", desc := "(LPressureNet;II[J)I" } : Jvm.MethodName) method_12_code (5 : Nat) (Option.some Jvm.ClassFile.FieldType.int) [((0 : Nat), (10 : Nat), (13 : Nat), (19 : Nat))] ∈ gTb := gtb4 71 rfl rfl
theorem gw4_72 : Jvm.Cond.methodLink "PressureNetLaw" (49 : Nat) ({ cls := "PressureNet", name := "set", desc := "(II)I" } : Jvm.MethodName) ∈ gTb := gtb4 72 rfl rfl
theorem gw4_73 : Jvm.Cond.instanceMethod ({ cls := "PressureNet", name := "set", desc := "(II)I" } : Jvm.MethodName) ∈ gTb := gtb4 73 rfl rfl
theorem gw4_74 : Jvm.Cond.selects "PressureNet" ({ cls := "PressureNet", name := "set", desc := "(II)I" } : Jvm.MethodName) ({ cls := "PressureNet", name := "set", desc := "(II)I" } : Jvm.MethodName) ∈ gTb := gtb4 74 rfl rfl
theorem gw4_75 : Jvm.Cond.code ({ cls := "PressureNet", name := "set", desc := "(II)I" } : Jvm.MethodName) prog_1_method_14_code (4 : Nat) (Option.some Jvm.ClassFile.FieldType.int) ∈ gTb := gtb4 75 rfl rfl
theorem gw4_77 : Jvm.Cond.methodLink "PressureNetLaw" (191 : Nat) ({ cls := "PressureNetLaw", name := "inject", desc := "(LPressureNet;II[J)I" } : Jvm.MethodName) ∈ gTb := gtb4 77 rfl rfl
theorem gw4_78 : Jvm.Cond.static ({ cls := "PressureNetLaw", name := "inject", desc := "(LPressureNet;II[J)I" } : Jvm.MethodName) ∈ gTb := gtb4 78 rfl rfl
theorem gw4_79 : Jvm.Cond.codeWith ({ cls := "PressureNetLaw", name := "inject", desc := "(LPressureNet;II[J)I" } : Jvm.MethodName) method_13_code (5 : Nat) (Option.some Jvm.ClassFile.FieldType.int) [((0 : Nat), (10 : Nat), (13 : Nat), (29 : Nat)), ((0 : Nat), (10 : Nat), (17 : Nat), (19 : Nat))] ∈ gTb := gtb4 79 rfl rfl
theorem gw4_80 : Jvm.Cond.methodLink "PressureNetLaw" (52 : Nat) ({ cls := "PressureNet", name := "inject", desc := "(II)I" } : Jvm.MethodName) ∈ gTb := gtb4 80 rfl rfl
theorem gw4_81 : Jvm.Cond.instanceMethod ({ cls := "PressureNet", name := "inject", desc := "(II)I" } : Jvm.MethodName) ∈ gTb := gtb4 81 rfl rfl
theorem gw4_82 : Jvm.Cond.selects "PressureNet" ({ cls := "PressureNet", name := "inject", desc := "(II)I" } : Jvm.MethodName) ({ cls := "PressureNet", name := "inject", desc := "(II)I" } : Jvm.MethodName) ∈ gTb := gtb4 82 rfl rfl
theorem gw4_83 : Jvm.Cond.code ({ cls := "PressureNet", name := "inject", desc := "(II)I" } : Jvm.MethodName) prog_1_method_15_code (3 : Nat) (Option.some Jvm.ClassFile.FieldType.int) ∈ gTb := gtb4 83 rfl rfl
theorem gw4_102 : Jvm.Cond.methodLink "PressureNetLaw" (194 : Nat) ({ cls := "PressureNetLaw", name := "flush", desc := "(LPressureNet;II[J)I" } : Jvm.MethodName) ∈ gTb := gtb4 102 rfl rfl
theorem gw4_103 : Jvm.Cond.static ({ cls := "PressureNetLaw", name := "flush", desc := "(LPressureNet;II[J)I" } : Jvm.MethodName) ∈ gTb := gtb4 103 rfl rfl
theorem gw4_104 : Jvm.Cond.codeWith ({ cls := "PressureNetLaw", name := "flush", desc := "(LPressureNet;II[J)I" } : Jvm.MethodName) method_14_code (5 : Nat) (Option.some Jvm.ClassFile.FieldType.int) [((0 : Nat), (10 : Nat), (13 : Nat), (29 : Nat)), ((0 : Nat), (10 : Nat), (17 : Nat), (19 : Nat))] ∈ gTb := gtb4 104 rfl rfl
theorem gw4_105 : Jvm.Cond.methodLink "PressureNetLaw" (55 : Nat) ({ cls := "PressureNet", name := "flush", desc := "(II)I" } : Jvm.MethodName) ∈ gTb := gtb4 105 rfl rfl
theorem gw4_106 : Jvm.Cond.instanceMethod ({ cls := "PressureNet", name := "flush", desc := "(II)I" } : Jvm.MethodName) ∈ gTb := gtb4 106 rfl rfl
theorem gw4_107 : Jvm.Cond.selects "PressureNet" ({ cls := "PressureNet", name := "flush", desc := "(II)I" } : Jvm.MethodName) ({ cls := "PressureNet", name := "flush", desc := "(II)I" } : Jvm.MethodName) ∈ gTb := gtb4 107 rfl rfl
theorem gw4_108 : Jvm.Cond.code ({ cls := "PressureNet", name := "flush", desc := "(II)I" } : Jvm.MethodName) prog_1_method_16_code (3 : Nat) (Option.some Jvm.ClassFile.FieldType.int) ∈ gTb := gtb4 108 rfl rfl
theorem gw4_122 : Jvm.Cond.methodLink "PressureNetLaw" (201 : Nat) ({ cls := "PressureNetLaw", name := "run", desc := "(LPressureNet;I[J)I" } : Jvm.MethodName) ∈ gTb := gtb4 122 rfl rfl
theorem gw4_123 : Jvm.Cond.static ({ cls := "PressureNetLaw", name := "run", desc := "(LPressureNet;I[J)I" } : Jvm.MethodName) ∈ gTb := gtb4 123 rfl rfl
theorem gw4_124 : Jvm.Cond.codeWith ({ cls := "PressureNetLaw", name := "run", desc := "(LPressureNet;I[J)I" } : Jvm.MethodName) method_15_code (4 : Nat) (Option.some Jvm.ClassFile.FieldType.int) [((0 : Nat), (9 : Nat), (12 : Nat), (19 : Nat))] ∈ gTb := gtb4 124 rfl rfl
theorem gw4_125 : Jvm.Cond.methodLink "PressureNetLaw" (58 : Nat) ({ cls := "PressureNet", name := "run", desc := "(I)I" } : Jvm.MethodName) ∈ gTb := gtb4 125 rfl rfl
theorem gw4_126 : Jvm.Cond.instanceMethod ({ cls := "PressureNet", name := "run", desc := "(I)I" } : Jvm.MethodName) ∈ gTb := gtb4 126 rfl rfl
theorem gw4_127 : Jvm.Cond.selects "PressureNet" ({ cls := "PressureNet", name := "run", desc := "(I)I" } : Jvm.MethodName) ({ cls := "PressureNet", name := "run", desc := "(I)I" } : Jvm.MethodName) ∈ gTb := gtb4 127 rfl rfl
theorem gw4_128 : Jvm.Cond.code ({ cls := "PressureNet", name := "run", desc := "(I)I" } : Jvm.MethodName) prog_1_method_18_code (2 : Nat) (Option.some Jvm.ClassFile.FieldType.int) ∈ gTb := gtb4 128 rfl rfl
theorem gw4_213 : Jvm.Cond.methodLink "PressureNetLaw" (204 : Nat) ({ cls := "PressureNetLaw", name := "undo", desc := "(LPressureNet;[J)I" } : Jvm.MethodName) ∈ gTb := gtb4 213 rfl rfl
theorem gw4_214 : Jvm.Cond.static ({ cls := "PressureNetLaw", name := "undo", desc := "(LPressureNet;[J)I" } : Jvm.MethodName) ∈ gTb := gtb4 214 rfl rfl
theorem gw4_215 : Jvm.Cond.codeWith ({ cls := "PressureNetLaw", name := "undo", desc := "(LPressureNet;[J)I" } : Jvm.MethodName) method_16_code (3 : Nat) (Option.some Jvm.ClassFile.FieldType.int) [((0 : Nat), (8 : Nat), (11 : Nat), (13 : Nat))] ∈ gTb := gtb4 215 rfl rfl
theorem gw4_216 : Jvm.Cond.methodLink "PressureNetLaw" (61 : Nat) ({ cls := "PressureNet", name := "undo", desc := "()I" } : Jvm.MethodName) ∈ gTb := gtb4 216 rfl rfl
theorem gw4_217 : Jvm.Cond.instanceMethod ({ cls := "PressureNet", name := "undo", desc := "()I" } : Jvm.MethodName) ∈ gTb := gtb4 217 rfl rfl
theorem gw4_218 : Jvm.Cond.selects "PressureNet" ({ cls := "PressureNet", name := "undo", desc := "()I" } : Jvm.MethodName) ({ cls := "PressureNet", name := "undo", desc := "()I" } : Jvm.MethodName) ∈ gTb := gtb4 218 rfl rfl
theorem gw4_219 : Jvm.Cond.code ({ cls := "PressureNet", name := "undo", desc := "()I" } : Jvm.MethodName) prog_1_method_19_code (1 : Nat) (Option.some Jvm.ClassFile.FieldType.int) ∈ gTb := gtb4 219 rfl rfl
theorem gw4_225 : Jvm.Cond.methodLink "PressureNetLaw" (215 : Nat) ({ cls := "PressureNetLaw", name := "restore", desc := "(LPressureNet;[J)I" } : Jvm.MethodName) ∈ gTb := gtb4 225 rfl rfl
theorem gw4_226 : Jvm.Cond.static ({ cls := "PressureNetLaw", name := "restore", desc := "(LPressureNet;[J)I" } : Jvm.MethodName) ∈ gTb := gtb4 226 rfl rfl
theorem gw4_227 : Jvm.Cond.codeWith ({ cls := "PressureNetLaw", name := "restore", desc := "(LPressureNet;[J)I" } : Jvm.MethodName) method_17_code (3 : Nat) (Option.some Jvm.ClassFile.FieldType.int) [((0 : Nat), (8 : Nat), (11 : Nat), (13 : Nat))] ∈ gTb := gtb4 227 rfl rfl
theorem gw4_228 : Jvm.Cond.methodLink "PressureNetLaw" (64 : Nat) ({ cls := "PressureNet", name := "restore", desc := "()I" } : Jvm.MethodName) ∈ gTb := gtb4 228 rfl rfl
theorem gw4_229 : Jvm.Cond.instanceMethod ({ cls := "PressureNet", name := "restore", desc := "()I" } : Jvm.MethodName) ∈ gTb := gtb4 229 rfl rfl
theorem gw4_230 : Jvm.Cond.selects "PressureNet" ({ cls := "PressureNet", name := "restore", desc := "()I" } : Jvm.MethodName) ({ cls := "PressureNet", name := "restore", desc := "()I" } : Jvm.MethodName) ∈ gTb := gtb4 230 rfl rfl
theorem gw4_231 : Jvm.Cond.code ({ cls := "PressureNet", name := "restore", desc := "()I" } : Jvm.MethodName) prog_1_method_22_code (1 : Nat) (Option.some Jvm.ClassFile.FieldType.int) ∈ gTb := gtb4 231 rfl rfl
theorem gw4_233 : Jvm.Cond.methodLink "PressureNetLaw" (218 : Nat) ({ cls := "PressureNetLaw", name := "count", desc := "(LPressureNet;I[J)I" } : Jvm.MethodName) ∈ gTb := gtb4 233 rfl rfl
theorem gw4_234 : Jvm.Cond.static ({ cls := "PressureNetLaw", name := "count", desc := "(LPressureNet;I[J)I" } : Jvm.MethodName) ∈ gTb := gtb4 234 rfl rfl
theorem gw4_235 : Jvm.Cond.codeWith ({ cls := "PressureNetLaw", name := "count", desc := "(LPressureNet;I[J)I" } : Jvm.MethodName) method_18_code (4 : Nat) (Option.some Jvm.ClassFile.FieldType.int) [((0 : Nat), (9 : Nat), (12 : Nat), (19 : Nat))] ∈ gTb := gtb4 235 rfl rfl
theorem gw4_236 : Jvm.Cond.methodLink "PressureNetLaw" (67 : Nat) ({ cls := "PressureNet", name := "count", desc := "(I)I" } : Jvm.MethodName) ∈ gTb := gtb4 236 rfl rfl
theorem gw4_237 : Jvm.Cond.instanceMethod ({ cls := "PressureNet", name := "count", desc := "(I)I" } : Jvm.MethodName) ∈ gTb := gtb4 237 rfl rfl
theorem gw4_238 : Jvm.Cond.selects "PressureNet" ({ cls := "PressureNet", name := "count", desc := "(I)I" } : Jvm.MethodName) ({ cls := "PressureNet", name := "count", desc := "(I)I" } : Jvm.MethodName) ∈ gTb := gtb4 238 rfl rfl
theorem gw4_239 : Jvm.Cond.code ({ cls := "PressureNet", name := "count", desc := "(I)I" } : Jvm.MethodName) prog_1_method_23_code (2 : Nat) (Option.some Jvm.ClassFile.FieldType.int) ∈ gTb := gtb4 239 rfl rfl
theorem gw5_0 : Jvm.Cond.methodLink "PressureNetLaw" (221 : Nat) ({ cls := "PressureNetLaw", name := "link", desc := "(LPressureNet;II[J)I" } : Jvm.MethodName) ∈ gTb := gtb5 0 rfl rfl
theorem gw5_1 : Jvm.Cond.static ({ cls := "PressureNetLaw", name := "link", desc := "(LPressureNet;II[J)I" } : Jvm.MethodName) ∈ gTb := gtb5 1 rfl rfl
theorem gw5_2 : Jvm.Cond.codeWith ({ cls := "PressureNetLaw", name := "link", desc := "(LPressureNet;II[J)I" } : Jvm.MethodName) method_19_code (5 : Nat) (Option.some Jvm.ClassFile.FieldType.int) [((0 : Nat), (10 : Nat), (13 : Nat), (29 : Nat)), ((0 : Nat), (10 : Nat), (17 : Nat), (19 : Nat))] ∈ gTb := gtb5 2 rfl rfl
theorem gw5_3 : Jvm.Cond.methodLink "PressureNetLaw" (70 : Nat) ({ cls := "PressureNet", name := "link", desc := "(II)I" } : Jvm.MethodName) ∈ gTb := gtb5 3 rfl rfl
theorem gw5_4 : Jvm.Cond.instanceMethod ({ cls := "PressureNet", name := "link", desc := "(II)I" } : Jvm.MethodName) ∈ gTb := gtb5 4 rfl rfl
theorem gw5_5 : Jvm.Cond.selects "PressureNet" ({ cls := "PressureNet", name := "link", desc := "(II)I" } : Jvm.MethodName) ({ cls := "PressureNet", name := "link", desc := "(II)I" } : Jvm.MethodName) ∈ gTb := gtb5 5 rfl rfl
theorem gw5_6 : Jvm.Cond.code ({ cls := "PressureNet", name := "link", desc := "(II)I" } : Jvm.MethodName) prog_1_method_24_code (3 : Nat) (Option.some Jvm.ClassFile.FieldType.int) ∈ gTb := gtb5 6 rfl rfl
theorem gw5_17 : Jvm.Cond.methodLink "PressureNetLaw" (224 : Nat) ({ cls := "PressureNetLaw", name := "conflicts", desc := "(LPressureNet;I[J)I" } : Jvm.MethodName) ∈ gTb := gtb5 17 rfl rfl
theorem gw5_18 : Jvm.Cond.static ({ cls := "PressureNetLaw", name := "conflicts", desc := "(LPressureNet;I[J)I" } : Jvm.MethodName) ∈ gTb := gtb5 18 rfl rfl
theorem gw5_19 : Jvm.Cond.codeWith ({ cls := "PressureNetLaw", name := "conflicts", desc := "(LPressureNet;I[J)I" } : Jvm.MethodName) method_20_code (4 : Nat) (Option.some Jvm.ClassFile.FieldType.int) [((0 : Nat), (9 : Nat), (12 : Nat), (29 : Nat))] ∈ gTb := gtb5 19 rfl rfl
theorem gw5_20 : Jvm.Cond.methodLink "PressureNetLaw" (73 : Nat) ({ cls := "PressureNet", name := "conflicts", desc := "(I)I" } : Jvm.MethodName) ∈ gTb := gtb5 20 rfl rfl
theorem gw5_21 : Jvm.Cond.instanceMethod ({ cls := "PressureNet", name := "conflicts", desc := "(I)I" } : Jvm.MethodName) ∈ gTb := gtb5 21 rfl rfl
theorem gw5_22 : Jvm.Cond.selects "PressureNet" ({ cls := "PressureNet", name := "conflicts", desc := "(I)I" } : Jvm.MethodName) ({ cls := "PressureNet", name := "conflicts", desc := "(I)I" } : Jvm.MethodName) ∈ gTb := gtb5 22 rfl rfl
theorem gw5_23 : Jvm.Cond.code ({ cls := "PressureNet", name := "conflicts", desc := "(I)I" } : Jvm.MethodName) prog_1_method_26_code (2 : Nat) (Option.some Jvm.ClassFile.FieldType.int) ∈ gTb := gtb5 23 rfl rfl
theorem gw5_24 : Jvm.Cond.methodLink "PressureNetLaw" (227 : Nat) ({ cls := "PressureNetLaw", name := "flow", desc := "(LPressureNet;II[J)I" } : Jvm.MethodName) ∈ gTb := gtb5 24 rfl rfl
theorem gw5_25 : Jvm.Cond.static ({ cls := "PressureNetLaw", name := "flow", desc := "(LPressureNet;II[J)I" } : Jvm.MethodName) ∈ gTb := gtb5 25 rfl rfl
theorem gw5_26 : Jvm.Cond.codeWith ({ cls := "PressureNetLaw", name := "flow", desc := "(LPressureNet;II[J)I" } : Jvm.MethodName) method_21_code (5 : Nat) (Option.some Jvm.ClassFile.FieldType.int) [((0 : Nat), (10 : Nat), (13 : Nat), (29 : Nat)), ((0 : Nat), (10 : Nat), (17 : Nat), (19 : Nat))] ∈ gTb := gtb5 26 rfl rfl
theorem gw5_27 : Jvm.Cond.methodLink "PressureNetLaw" (76 : Nat) ({ cls := "PressureNet", name := "flow", desc := "(II)I" } : Jvm.MethodName) ∈ gTb := gtb5 27 rfl rfl
theorem gw5_28 : Jvm.Cond.instanceMethod ({ cls := "PressureNet", name := "flow", desc := "(II)I" } : Jvm.MethodName) ∈ gTb := gtb5 28 rfl rfl
theorem gw5_29 : Jvm.Cond.selects "PressureNet" ({ cls := "PressureNet", name := "flow", desc := "(II)I" } : Jvm.MethodName) ({ cls := "PressureNet", name := "flow", desc := "(II)I" } : Jvm.MethodName) ∈ gTb := gtb5 29 rfl rfl
theorem gw5_30 : Jvm.Cond.code ({ cls := "PressureNet", name := "flow", desc := "(II)I" } : Jvm.MethodName) prog_1_method_27_code (3 : Nat) (Option.some Jvm.ClassFile.FieldType.int) ∈ gTb := gtb5 30 rfl rfl
theorem gw5_31 : Jvm.Cond.methodLink "PressureNetLaw" (230 : Nat) ({ cls := "PressureNetLaw", name := "hops", desc := "(LPressureNet;II[J)I" } : Jvm.MethodName) ∈ gTb := gtb5 31 rfl rfl
theorem gw5_32 : Jvm.Cond.static ({ cls := "PressureNetLaw", name := "hops", desc := "(LPressureNet;II[J)I" } : Jvm.MethodName) ∈ gTb := gtb5 32 rfl rfl
theorem gw5_33 : Jvm.Cond.codeWith ({ cls := "PressureNetLaw", name := "hops", desc := "(LPressureNet;II[J)I" } : Jvm.MethodName) method_22_code (5 : Nat) (Option.some Jvm.ClassFile.FieldType.int) [((0 : Nat), (10 : Nat), (13 : Nat), (29 : Nat))] ∈ gTb := gtb5 33 rfl rfl
theorem gw5_34 : Jvm.Cond.methodLink "PressureNetLaw" (79 : Nat) ({ cls := "PressureNet", name := "hops", desc := "(II)I" } : Jvm.MethodName) ∈ gTb := gtb5 34 rfl rfl
theorem gw5_35 : Jvm.Cond.instanceMethod ({ cls := "PressureNet", name := "hops", desc := "(II)I" } : Jvm.MethodName) ∈ gTb := gtb5 35 rfl rfl
theorem gw5_36 : Jvm.Cond.selects "PressureNet" ({ cls := "PressureNet", name := "hops", desc := "(II)I" } : Jvm.MethodName) ({ cls := "PressureNet", name := "hops", desc := "(II)I" } : Jvm.MethodName) ∈ gTb := gtb5 36 rfl rfl
theorem gw5_37 : Jvm.Cond.code ({ cls := "PressureNet", name := "hops", desc := "(II)I" } : Jvm.MethodName) prog_1_method_28_code (3 : Nat) (Option.some Jvm.ClassFile.FieldType.int) ∈ gTb := gtb5 37 rfl rfl
theorem gw5_38 : Jvm.Cond.methodLink "PressureNetLaw" (233 : Nat) ({ cls := "PressureNetLaw", name := "maxFlow", desc := "(LPressureNet;II[J)I" } : Jvm.MethodName) ∈ gTb := gtb5 38 rfl rfl
theorem gw5_39 : Jvm.Cond.static ({ cls := "PressureNetLaw", name := "maxFlow", desc := "(LPressureNet;II[J)I" } : Jvm.MethodName) ∈ gTb := gtb5 39 rfl rfl
theorem gw5_40 : Jvm.Cond.codeWith ({ cls := "PressureNetLaw", name := "maxFlow", desc := "(LPressureNet;II[J)I" } : Jvm.MethodName) method_23_code (5 : Nat) (Option.some Jvm.ClassFile.FieldType.int) [((0 : Nat), (10 : Nat), (13 : Nat), (29 : Nat)), ((0 : Nat), (10 : Nat), (17 : Nat), (19 : Nat))] ∈ gTb := gtb5 40 rfl rfl
theorem gw5_41 : Jvm.Cond.methodLink "PressureNetLaw" (82 : Nat) ({ cls := "PressureNet", name := "maxFlow", desc := "(II)I" } : Jvm.MethodName) ∈ gTb := gtb5 41 rfl rfl
theorem gw5_42 : Jvm.Cond.instanceMethod ({ cls := "PressureNet", name := "maxFlow", desc := "(II)I" } : Jvm.MethodName) ∈ gTb := gtb5 42 rfl rfl
theorem gw5_43 : Jvm.Cond.selects "PressureNet" ({ cls := "PressureNet", name := "maxFlow", desc := "(II)I" } : Jvm.MethodName) ({ cls := "PressureNet", name := "maxFlow", desc := "(II)I" } : Jvm.MethodName) ∈ gTb := gtb5 43 rfl rfl
theorem gw5_44 : Jvm.Cond.code ({ cls := "PressureNet", name := "maxFlow", desc := "(II)I" } : Jvm.MethodName) prog_1_method_29_code (3 : Nat) (Option.some Jvm.ClassFile.FieldType.int) ∈ gTb := gtb5 44 rfl rfl
theorem gw5_45 : Jvm.Cond.methodLink "PressureNetLaw" (236 : Nat) ({ cls := "PressureNetLaw", name := "cutSide", desc := "(LPressureNet;II[J)I" } : Jvm.MethodName) ∈ gTb := gtb5 45 rfl rfl
theorem gw5_46 : Jvm.Cond.static ({ cls := "PressureNetLaw", name := "cutSide", desc := "(LPressureNet;II[J)I" } : Jvm.MethodName) ∈ gTb := gtb5 46 rfl rfl
theorem gw5_47 : Jvm.Cond.codeWith ({ cls := "PressureNetLaw", name := "cutSide", desc := "(LPressureNet;II[J)I" } : Jvm.MethodName) method_24_code (5 : Nat) (Option.some Jvm.ClassFile.FieldType.int) [((0 : Nat), (10 : Nat), (13 : Nat), (29 : Nat)), ((0 : Nat), (10 : Nat), (17 : Nat), (19 : Nat))] ∈ gTb := gtb5 47 rfl rfl
theorem gw5_48 : Jvm.Cond.methodLink "PressureNetLaw" (85 : Nat) ({ cls := "PressureNet", name := "cutSide", desc := "(II)I" } : Jvm.MethodName) ∈ gTb := gtb5 48 rfl rfl
theorem gw5_49 : Jvm.Cond.instanceMethod ({ cls := "PressureNet", name := "cutSide", desc := "(II)I" } : Jvm.MethodName) ∈ gTb := gtb5 49 rfl rfl
theorem gw5_50 : Jvm.Cond.selects "PressureNet" ({ cls := "PressureNet", name := "cutSide", desc := "(II)I" } : Jvm.MethodName) ({ cls := "PressureNet", name := "cutSide", desc := "(II)I" } : Jvm.MethodName) ∈ gTb := gtb5 50 rfl rfl
theorem gw5_51 : Jvm.Cond.code ({ cls := "PressureNet", name := "cutSide", desc := "(II)I" } : Jvm.MethodName) prog_1_method_30_code (3 : Nat) (Option.some Jvm.ClassFile.FieldType.int) ∈ gTb := gtb5 51 rfl rfl
theorem gw5_52 : Jvm.Cond.methodLink "PressureNetLaw" (243 : Nat) ({ cls := "PressureNetLaw", name := "queue", desc := "(LPressureNet;II[J)I" } : Jvm.MethodName) ∈ gTb := gtb5 52 rfl rfl
theorem gw5_53 : Jvm.Cond.static ({ cls := "PressureNetLaw", name := "queue", desc := "(LPressureNet;II[J)I" } : Jvm.MethodName) ∈ gTb := gtb5 53 rfl rfl
theorem gw5_54 : Jvm.Cond.codeWith ({ cls := "PressureNetLaw", name := "queue", desc := "(LPressureNet;II[J)I" } : Jvm.MethodName) method_25_code (5 : Nat) (Option.some Jvm.ClassFile.FieldType.int) [((0 : Nat), (10 : Nat), (13 : Nat), (29 : Nat)), ((0 : Nat), (10 : Nat), (17 : Nat), (19 : Nat))] ∈ gTb := gtb5 54 rfl rfl
theorem gw5_55 : Jvm.Cond.methodLink "PressureNetLaw" (88 : Nat) ({ cls := "PressureNet", name := "queue", desc := "(II)I" } : Jvm.MethodName) ∈ gTb := gtb5 55 rfl rfl
theorem gw5_56 : Jvm.Cond.instanceMethod ({ cls := "PressureNet", name := "queue", desc := "(II)I" } : Jvm.MethodName) ∈ gTb := gtb5 56 rfl rfl
theorem gw5_57 : Jvm.Cond.selects "PressureNet" ({ cls := "PressureNet", name := "queue", desc := "(II)I" } : Jvm.MethodName) ({ cls := "PressureNet", name := "queue", desc := "(II)I" } : Jvm.MethodName) ∈ gTb := gtb5 57 rfl rfl
theorem gw5_58 : Jvm.Cond.code ({ cls := "PressureNet", name := "queue", desc := "(II)I" } : Jvm.MethodName) prog_1_method_32_code (3 : Nat) (Option.some Jvm.ClassFile.FieldType.int) ∈ gTb := gtb5 58 rfl rfl
theorem gw5_59 : Jvm.Cond.methodLink "PressureNetLaw" (246 : Nat) ({ cls := "PressureNetLaw", name := "shadow", desc := "(LPressureNet;II[J)I" } : Jvm.MethodName) ∈ gTb := gtb5 59 rfl rfl
theorem gw5_60 : Jvm.Cond.static ({ cls := "PressureNetLaw", name := "shadow", desc := "(LPressureNet;II[J)I" } : Jvm.MethodName) ∈ gTb := gtb5 60 rfl rfl
theorem gw5_61 : Jvm.Cond.codeWith ({ cls := "PressureNetLaw", name := "shadow", desc := "(LPressureNet;II[J)I" } : Jvm.MethodName) method_26_code (5 : Nat) (Option.some Jvm.ClassFile.FieldType.int) [((0 : Nat), (10 : Nat), (13 : Nat), (29 : Nat)), ((0 : Nat), (10 : Nat), (17 : Nat), (19 : Nat))] ∈ gTb := gtb5 61 rfl rfl
theorem gw5_62 : Jvm.Cond.methodLink "PressureNetLaw" (91 : Nat) ({ cls := "PressureNet", name := "shadow", desc := "(II)I" } : Jvm.MethodName) ∈ gTb := gtb5 62 rfl rfl
theorem gw5_63 : Jvm.Cond.instanceMethod ({ cls := "PressureNet", name := "shadow", desc := "(II)I" } : Jvm.MethodName) ∈ gTb := gtb5 63 rfl rfl
theorem gw5_64 : Jvm.Cond.selects "PressureNet" ({ cls := "PressureNet", name := "shadow", desc := "(II)I" } : Jvm.MethodName) ({ cls := "PressureNet", name := "shadow", desc := "(II)I" } : Jvm.MethodName) ∈ gTb := gtb5 64 rfl rfl
theorem gw5_65 : Jvm.Cond.code ({ cls := "PressureNet", name := "shadow", desc := "(II)I" } : Jvm.MethodName) prog_1_method_33_code (3 : Nat) (Option.some Jvm.ClassFile.FieldType.int) ∈ gTb := gtb5 65 rfl rfl
theorem gw5_66 : Jvm.Cond.methodLink "PressureNetLaw" (249 : Nat) ({ cls := "PressureNetLaw", name := "packet", desc := "(LPressureNet;IIII[J)I" } : Jvm.MethodName) ∈ gTb := gtb5 66 rfl rfl
theorem gw5_67 : Jvm.Cond.static ({ cls := "PressureNetLaw", name := "packet", desc := "(LPressureNet;IIII[J)I" } : Jvm.MethodName) ∈ gTb := gtb5 67 rfl rfl
theorem gw5_68 : Jvm.Cond.codeWith ({ cls := "PressureNetLaw", name := "packet", desc := "(LPressureNet;IIII[J)I" } : Jvm.MethodName) method_27_code (7 : Nat) (Option.some Jvm.ClassFile.FieldType.int) [((0 : Nat), (14 : Nat), (17 : Nat), (29 : Nat)), ((0 : Nat), (14 : Nat), (21 : Nat), (19 : Nat)), ((0 : Nat), (14 : Nat), (25 : Nat), (97 : Nat))] ∈ gTb := gtb5 68 rfl rfl
theorem gw5_69 : Jvm.Cond.classLink "PressureNetLaw" (97 : Nat) "java/util/NoSuchElementException" ∈ gTb := gtb5 69 rfl rfl
theorem gw5_70 : Jvm.Cond.methodLink "PressureNetLaw" (94 : Nat) ({ cls := "PressureNet", name := "packet", desc := "(IIII)I" } : Jvm.MethodName) ∈ gTb := gtb5 70 rfl rfl
theorem gw5_71 : Jvm.Cond.instanceMethod ({ cls := "PressureNet", name := "packet", desc := "(IIII)I" } : Jvm.MethodName) ∈ gTb := gtb5 71 rfl rfl
theorem gw5_72 : Jvm.Cond.selects "PressureNet" ({ cls := "PressureNet", name := "packet", desc := "(IIII)I" } : Jvm.MethodName) ({ cls := "PressureNet", name := "packet", desc := "(IIII)I" } : Jvm.MethodName) ∈ gTb := gtb5 72 rfl rfl
theorem gw5_73 : Jvm.Cond.code ({ cls := "PressureNet", name := "packet", desc := "(IIII)I" } : Jvm.MethodName) prog_1_method_34_code (6 : Nat) (Option.some Jvm.ClassFile.FieldType.int) ∈ gTb := gtb5 73 rfl rfl
theorem gw5_80 : Jvm.Cond.castable "java/util/NoSuchElementException" "java/util/NoSuchElementException" ∈ gNw := gnw5 80 rfl rfl
theorem gw5_94 : Jvm.Cond.methodLink "PressureNetLaw" (252 : Nat) ({ cls := "PressureNetLaw", name := "total", desc := "(LPressureNet;I[J)I" } : Jvm.MethodName) ∈ gTb := gtb5 94 rfl rfl
theorem gw5_95 : Jvm.Cond.static ({ cls := "PressureNetLaw", name := "total", desc := "(LPressureNet;I[J)I" } : Jvm.MethodName) ∈ gTb := gtb5 95 rfl rfl
theorem gw5_96 : Jvm.Cond.codeWith ({ cls := "PressureNetLaw", name := "total", desc := "(LPressureNet;I[J)I" } : Jvm.MethodName) method_28_code (4 : Nat) (Option.some Jvm.ClassFile.FieldType.int) [((0 : Nat), (8 : Nat), (11 : Nat), (19 : Nat))] ∈ gTb := gtb5 96 rfl rfl
theorem gw5_97 : Jvm.Cond.methodLink "PressureNetLaw" (99 : Nat) ({ cls := "PressureNet", name := "total", desc := "(I)J" } : Jvm.MethodName) ∈ gTb := gtb5 97 rfl rfl
theorem gw5_98 : Jvm.Cond.instanceMethod ({ cls := "PressureNet", name := "total", desc := "(I)J" } : Jvm.MethodName) ∈ gTb := gtb5 98 rfl rfl
theorem gw5_99 : Jvm.Cond.selects "PressureNet" ({ cls := "PressureNet", name := "total", desc := "(I)J" } : Jvm.MethodName) ({ cls := "PressureNet", name := "total", desc := "(I)J" } : Jvm.MethodName) ∈ gTb := gtb5 99 rfl rfl
theorem gw5_100 : Jvm.Cond.code ({ cls := "PressureNet", name := "total", desc := "(I)J" } : Jvm.MethodName) prog_1_method_35_code (2 : Nat) (Option.some Jvm.ClassFile.FieldType.long) ∈ gTb := gtb5 100 rfl rfl
theorem gw5_107 : Jvm.Cond.methodLink "PressureNetLaw" (255 : Nat) ({ cls := "PressureNetLaw", name := "fullest", desc := "(LPressureNet;[J)I" } : Jvm.MethodName) ∈ gTb := gtb5 107 rfl rfl
theorem gw5_108 : Jvm.Cond.static ({ cls := "PressureNetLaw", name := "fullest", desc := "(LPressureNet;[J)I" } : Jvm.MethodName) ∈ gTb := gtb5 108 rfl rfl
theorem gw5_109 : Jvm.Cond.codeWith ({ cls := "PressureNetLaw", name := "fullest", desc := "(LPressureNet;[J)I" } : Jvm.MethodName) method_29_code (3 : Nat) (Option.some Jvm.ClassFile.FieldType.int) [((0 : Nat), (8 : Nat), (11 : Nat), (97 : Nat))] ∈ gTb := gtb5 109 rfl rfl
theorem gw5_110 : Jvm.Cond.methodLink "PressureNetLaw" (103 : Nat) ({ cls := "PressureNet", name := "fullest", desc := "()I" } : Jvm.MethodName) ∈ gTb := gtb5 110 rfl rfl
theorem gw5_111 : Jvm.Cond.instanceMethod ({ cls := "PressureNet", name := "fullest", desc := "()I" } : Jvm.MethodName) ∈ gTb := gtb5 111 rfl rfl
theorem gw5_112 : Jvm.Cond.selects "PressureNet" ({ cls := "PressureNet", name := "fullest", desc := "()I" } : Jvm.MethodName) ({ cls := "PressureNet", name := "fullest", desc := "()I" } : Jvm.MethodName) ∈ gTb := gtb5 112 rfl rfl
theorem gw5_113 : Jvm.Cond.code ({ cls := "PressureNet", name := "fullest", desc := "()I" } : Jvm.MethodName) prog_1_method_37_code (4 : Nat) (Option.some Jvm.ClassFile.FieldType.int) ∈ gTb := gtb5 113 rfl rfl
theorem gw5_115 : Jvm.Cond.methodLink "PressureNetLaw" (258 : Nat) ({ cls := "PressureNetLaw", name := "urgent", desc := "(LPressureNet;[J)I" } : Jvm.MethodName) ∈ gTb := gtb5 115 rfl rfl
theorem gw5_116 : Jvm.Cond.static ({ cls := "PressureNetLaw", name := "urgent", desc := "(LPressureNet;[J)I" } : Jvm.MethodName) ∈ gTb := gtb5 116 rfl rfl
theorem gw5_117 : Jvm.Cond.codeWith ({ cls := "PressureNetLaw", name := "urgent", desc := "(LPressureNet;[J)I" } : Jvm.MethodName) method_30_code (3 : Nat) (Option.some Jvm.ClassFile.FieldType.int) [((0 : Nat), (8 : Nat), (11 : Nat), (97 : Nat))] ∈ gTb := gtb5 117 rfl rfl
theorem gw5_118 : Jvm.Cond.methodLink "PressureNetLaw" (106 : Nat) ({ cls := "PressureNet", name := "urgent", desc := "()I" } : Jvm.MethodName) ∈ gTb := gtb5 118 rfl rfl
theorem gw5_119 : Jvm.Cond.instanceMethod ({ cls := "PressureNet", name := "urgent", desc := "()I" } : Jvm.MethodName) ∈ gTb := gtb5 119 rfl rfl
theorem gw5_120 : Jvm.Cond.selects "PressureNet" ({ cls := "PressureNet", name := "urgent", desc := "()I" } : Jvm.MethodName) ({ cls := "PressureNet", name := "urgent", desc := "()I" } : Jvm.MethodName) ∈ gTb := gtb5 120 rfl rfl
theorem gw5_121 : Jvm.Cond.code ({ cls := "PressureNet", name := "urgent", desc := "()I" } : Jvm.MethodName) prog_1_method_38_code (2 : Nat) (Option.some Jvm.ClassFile.FieldType.int) ∈ gTb := gtb5 121 rfl rfl
theorem gw5_128 : Jvm.Cond.methodLink "PressureNetLaw" (261 : Nat) ({ cls := "PressureNetLaw", name := "meanDelay", desc := "(LPressureNet;IZ[J)I" } : Jvm.MethodName) ∈ gTb := gtb5 128 rfl rfl
theorem gw5_129 : Jvm.Cond.static ({ cls := "PressureNetLaw", name := "meanDelay", desc := "(LPressureNet;IZ[J)I" } : Jvm.MethodName) ∈ gTb := gtb5 129 rfl rfl
theorem gw5_130 : Jvm.Cond.codeWith ({ cls := "PressureNetLaw", name := "meanDelay", desc := "(LPressureNet;IZ[J)I" } : Jvm.MethodName) method_31_code (5 : Nat) (Option.some Jvm.ClassFile.FieldType.int) [((0 : Nat), (10 : Nat), (13 : Nat), (29 : Nat)), ((0 : Nat), (10 : Nat), (17 : Nat), (97 : Nat))] ∈ gTb := gtb5 130 rfl rfl
theorem gw5_131 : Jvm.Cond.methodLink "PressureNetLaw" (109 : Nat) ({ cls := "PressureNet", name := "meanDelay", desc := "(IZ)I" } : Jvm.MethodName) ∈ gTb := gtb5 131 rfl rfl
theorem gw5_132 : Jvm.Cond.instanceMethod ({ cls := "PressureNet", name := "meanDelay", desc := "(IZ)I" } : Jvm.MethodName) ∈ gTb := gtb5 132 rfl rfl
theorem gw5_133 : Jvm.Cond.selects "PressureNet" ({ cls := "PressureNet", name := "meanDelay", desc := "(IZ)I" } : Jvm.MethodName) ({ cls := "PressureNet", name := "meanDelay", desc := "(IZ)I" } : Jvm.MethodName) ∈ gTb := gtb5 133 rfl rfl
theorem gw5_134 : Jvm.Cond.code ({ cls := "PressureNet", name := "meanDelay", desc := "(IZ)I" } : Jvm.MethodName) prog_1_method_39_code (6 : Nat) (Option.some Jvm.ClassFile.FieldType.int) ∈ gTb := gtb5 134 rfl rfl
theorem gw5_139 : Jvm.Cond.methodLink "PressureNetLaw" (265 : Nat) ({ cls := "PressureNetLaw", name := "schedule", desc := "(LPressureNet;I[J)I" } : Jvm.MethodName) ∈ gTb := gtb5 139 rfl rfl
theorem gw5_140 : Jvm.Cond.static ({ cls := "PressureNetLaw", name := "schedule", desc := "(LPressureNet;I[J)I" } : Jvm.MethodName) ∈ gTb := gtb5 140 rfl rfl
theorem gw5_141 : Jvm.Cond.codeWith ({ cls := "PressureNetLaw", name := "schedule", desc := "(LPressureNet;I[J)I" } : Jvm.MethodName) method_32_code (4 : Nat) (Option.some Jvm.ClassFile.FieldType.int) [((0 : Nat), (9 : Nat), (12 : Nat), (19 : Nat))] ∈ gTb := gtb5 141 rfl rfl
theorem gw5_142 : Jvm.Cond.methodLink "PressureNetLaw" (113 : Nat) ({ cls := "PressureNet", name := "schedule", desc := "(I)I" } : Jvm.MethodName) ∈ gTb := gtb5 142 rfl rfl
theorem gw5_143 : Jvm.Cond.instanceMethod ({ cls := "PressureNet", name := "schedule", desc := "(I)I" } : Jvm.MethodName) ∈ gTb := gtb5 143 rfl rfl
theorem gw5_144 : Jvm.Cond.selects "PressureNet" ({ cls := "PressureNet", name := "schedule", desc := "(I)I" } : Jvm.MethodName) ({ cls := "PressureNet", name := "schedule", desc := "(I)I" } : Jvm.MethodName) ∈ gTb := gtb5 144 rfl rfl
theorem gw5_145 : Jvm.Cond.code ({ cls := "PressureNet", name := "schedule", desc := "(I)I" } : Jvm.MethodName) prog_1_method_41_code (2 : Nat) (Option.some Jvm.ClassFile.FieldType.int) ∈ gTb := gtb5 145 rfl rfl
theorem gw5_146 : Jvm.Cond.methodLink "PressureNetLaw" (268 : Nat) ({ cls := "PressureNetLaw", name := "scheduleWeight", desc := "(LPressureNet;I[J)I" } : Jvm.MethodName) ∈ gTb := gtb5 146 rfl rfl
theorem gw5_147 : Jvm.Cond.static ({ cls := "PressureNetLaw", name := "scheduleWeight", desc := "(LPressureNet;I[J)I" } : Jvm.MethodName) ∈ gTb := gtb5 147 rfl rfl
theorem gw5_148 : Jvm.Cond.codeWith ({ cls := "PressureNetLaw", name := "scheduleWeight", desc := "(LPressureNet;I[J)I" } : Jvm.MethodName) method_33_code (4 : Nat) (Option.some Jvm.ClassFile.FieldType.int) [((0 : Nat), (9 : Nat), (12 : Nat), (19 : Nat))] ∈ gTb := gtb5 148 rfl rfl
theorem gw5_149 : Jvm.Cond.methodLink "PressureNetLaw" (116 : Nat) ({ cls := "PressureNet", name := "scheduleWeight", desc := "(I)I" } : Jvm.MethodName) ∈ gTb := gtb5 149 rfl rfl
theorem gw5_150 : Jvm.Cond.instanceMethod ({ cls := "PressureNet", name := "scheduleWeight", desc := "(I)I" } : Jvm.MethodName) ∈ gTb := gtb5 150 rfl rfl
theorem gw5_151 : Jvm.Cond.selects "PressureNet" ({ cls := "PressureNet", name := "scheduleWeight", desc := "(I)I" } : Jvm.MethodName) ({ cls := "PressureNet", name := "scheduleWeight", desc := "(I)I" } : Jvm.MethodName) ∈ gTb := gtb5 151 rfl rfl
theorem gw5_152 : Jvm.Cond.code ({ cls := "PressureNet", name := "scheduleWeight", desc := "(I)I" } : Jvm.MethodName) prog_1_method_42_code (2 : Nat) (Option.some Jvm.ClassFile.FieldType.int) ∈ gTb := gtb5 152 rfl rfl
theorem gw5_154 : Jvm.Cond.methodLink "PressureNetLaw" (271 : Nat) ({ cls := "PressureNetLaw", name := "forecast", desc := "(LPressureNet;II[J)I" } : Jvm.MethodName) ∈ gTb := gtb5 154 rfl rfl
theorem gw5_155 : Jvm.Cond.static ({ cls := "PressureNetLaw", name := "forecast", desc := "(LPressureNet;II[J)I" } : Jvm.MethodName) ∈ gTb := gtb5 155 rfl rfl
theorem gw5_156 : Jvm.Cond.codeWith ({ cls := "PressureNetLaw", name := "forecast", desc := "(LPressureNet;II[J)I" } : Jvm.MethodName) method_34_code (5 : Nat) (Option.some Jvm.ClassFile.FieldType.int) [((0 : Nat), (9 : Nat), (12 : Nat), (19 : Nat))] ∈ gTb := gtb5 156 rfl rfl
theorem gw5_157 : Jvm.Cond.methodLink "PressureNetLaw" (119 : Nat) ({ cls := "PressureNet", name := "forecast", desc := "(II)J" } : Jvm.MethodName) ∈ gTb := gtb5 157 rfl rfl
theorem gw5_158 : Jvm.Cond.instanceMethod ({ cls := "PressureNet", name := "forecast", desc := "(II)J" } : Jvm.MethodName) ∈ gTb := gtb5 158 rfl rfl
theorem gw5_159 : Jvm.Cond.selects "PressureNet" ({ cls := "PressureNet", name := "forecast", desc := "(II)J" } : Jvm.MethodName) ({ cls := "PressureNet", name := "forecast", desc := "(II)J" } : Jvm.MethodName) ∈ gTb := gtb5 159 rfl rfl
theorem gw5_160 : Jvm.Cond.code ({ cls := "PressureNet", name := "forecast", desc := "(II)J" } : Jvm.MethodName) prog_1_method_43_code (3 : Nat) (Option.some Jvm.ClassFile.FieldType.long) ∈ gTb := gtb5 160 rfl rfl
theorem gw5_161 : Jvm.Cond.methodLink "PressureNetLaw" (274 : Nat) ({ cls := "PressureNetLaw", name := "forecastFlow", desc := "(LPressureNet;III[J)I" } : Jvm.MethodName) ∈ gTb := gtb5 161 rfl rfl
theorem gw5_162 : Jvm.Cond.static ({ cls := "PressureNetLaw", name := "forecastFlow", desc := "(LPressureNet;III[J)I" } : Jvm.MethodName) ∈ gTb := gtb5 162 rfl rfl
theorem gw5_163 : Jvm.Cond.codeWith ({ cls := "PressureNetLaw", name := "forecastFlow", desc := "(LPressureNet;III[J)I" } : Jvm.MethodName) method_35_code (6 : Nat) (Option.some Jvm.ClassFile.FieldType.int) [((0 : Nat), (12 : Nat), (15 : Nat), (29 : Nat)), ((0 : Nat), (12 : Nat), (19 : Nat), (19 : Nat))] ∈ gTb := gtb5 163 rfl rfl
theorem gw5_164 : Jvm.Cond.methodLink "PressureNetLaw" (123 : Nat) ({ cls := "PressureNet", name := "forecastFlow", desc := "(III)I" } : Jvm.MethodName) ∈ gTb := gtb5 164 rfl rfl
theorem gw5_165 : Jvm.Cond.instanceMethod ({ cls := "PressureNet", name := "forecastFlow", desc := "(III)I" } : Jvm.MethodName) ∈ gTb := gtb5 165 rfl rfl
theorem gw5_166 : Jvm.Cond.selects "PressureNet" ({ cls := "PressureNet", name := "forecastFlow", desc := "(III)I" } : Jvm.MethodName) ({ cls := "PressureNet", name := "forecastFlow", desc := "(III)I" } : Jvm.MethodName) ∈ gTb := gtb5 166 rfl rfl
theorem gw5_167 : Jvm.Cond.code ({ cls := "PressureNet", name := "forecastFlow", desc := "(III)I" } : Jvm.MethodName) prog_1_method_44_code (4 : Nat) (Option.some Jvm.ClassFile.FieldType.int) ∈ gTb := gtb5 167 rfl rfl
theorem gw5_168 : Jvm.Cond.methodLink "PressureNetLaw" (277 : Nat) ({ cls := "PressureNetLaw", name := "slotsToFull", desc := "(LPressureNet;II[J)I" } : Jvm.MethodName) ∈ gTb := gtb5 168 rfl rfl
theorem gw5_169 : Jvm.Cond.static ({ cls := "PressureNetLaw", name := "slotsToFull", desc := "(LPressureNet;II[J)I" } : Jvm.MethodName) ∈ gTb := gtb5 169 rfl rfl
theorem gw5_170 : Jvm.Cond.codeWith ({ cls := "PressureNetLaw", name := "slotsToFull", desc := "(LPressureNet;II[J)I" } : Jvm.MethodName) method_36_code (5 : Nat) (Option.some Jvm.ClassFile.FieldType.int) [((0 : Nat), (10 : Nat), (13 : Nat), (19 : Nat)), ((0 : Nat), (10 : Nat), (17 : Nat), (97 : Nat))] ∈ gTb := gtb5 170 rfl rfl
theorem gw5_171 : Jvm.Cond.methodLink "PressureNetLaw" (126 : Nat) ({ cls := "PressureNet", name := "slotsToFull", desc := "(II)I" } : Jvm.MethodName) ∈ gTb := gtb5 171 rfl rfl
theorem gw5_172 : Jvm.Cond.instanceMethod ({ cls := "PressureNet", name := "slotsToFull", desc := "(II)I" } : Jvm.MethodName) ∈ gTb := gtb5 172 rfl rfl
theorem gw5_173 : Jvm.Cond.selects "PressureNet" ({ cls := "PressureNet", name := "slotsToFull", desc := "(II)I" } : Jvm.MethodName) ({ cls := "PressureNet", name := "slotsToFull", desc := "(II)I" } : Jvm.MethodName) ∈ gTb := gtb5 173 rfl rfl
theorem gw5_174 : Jvm.Cond.code ({ cls := "PressureNet", name := "slotsToFull", desc := "(II)I" } : Jvm.MethodName) prog_1_method_45_code (4 : Nat) (Option.some Jvm.ClassFile.FieldType.int) ∈ gTb := gtb5 174 rfl rfl
theorem gw5_177 : Jvm.Cond.methodLink "PressureNetLaw" (280 : Nat) ({ cls := "PressureNetLaw", name := "bestBias", desc := "(LPressureNet;I[J)I" } : Jvm.MethodName) ∈ gTb := gtb5 177 rfl rfl
theorem gw5_178 : Jvm.Cond.static ({ cls := "PressureNetLaw", name := "bestBias", desc := "(LPressureNet;I[J)I" } : Jvm.MethodName) ∈ gTb := gtb5 178 rfl rfl
theorem gw5_179 : Jvm.Cond.codeWith ({ cls := "PressureNetLaw", name := "bestBias", desc := "(LPressureNet;I[J)I" } : Jvm.MethodName) method_37_code (4 : Nat) (Option.some Jvm.ClassFile.FieldType.int) [((0 : Nat), (9 : Nat), (12 : Nat), (19 : Nat))] ∈ gTb := gtb5 179 rfl rfl
theorem gw5_180 : Jvm.Cond.methodLink "PressureNetLaw" (129 : Nat) ({ cls := "PressureNet", name := "bestBias", desc := "(I)I" } : Jvm.MethodName) ∈ gTb := gtb5 180 rfl rfl
theorem gw5_181 : Jvm.Cond.instanceMethod ({ cls := "PressureNet", name := "bestBias", desc := "(I)I" } : Jvm.MethodName) ∈ gTb := gtb5 181 rfl rfl
theorem gw5_182 : Jvm.Cond.selects "PressureNet" ({ cls := "PressureNet", name := "bestBias", desc := "(I)I" } : Jvm.MethodName) ({ cls := "PressureNet", name := "bestBias", desc := "(I)I" } : Jvm.MethodName) ∈ gTb := gtb5 182 rfl rfl
theorem gw5_183 : Jvm.Cond.code ({ cls := "PressureNet", name := "bestBias", desc := "(I)I" } : Jvm.MethodName) prog_1_method_46_code (8 : Nat) (Option.some Jvm.ClassFile.FieldType.int) ∈ gTb := gtb5 183 rfl rfl
theorem gw5_188 : Jvm.Cond.methodLink "PressureNetLaw" (283 : Nat) ({ cls := "PressureNetLaw", name := "bestExcess", desc := "(LPressureNet;I[J)I" } : Jvm.MethodName) ∈ gTb := gtb5 188 rfl rfl
theorem gw5_189 : Jvm.Cond.static ({ cls := "PressureNetLaw", name := "bestExcess", desc := "(LPressureNet;I[J)I" } : Jvm.MethodName) ∈ gTb := gtb5 189 rfl rfl
theorem gw5_190 : Jvm.Cond.codeWith ({ cls := "PressureNetLaw", name := "bestExcess", desc := "(LPressureNet;I[J)I" } : Jvm.MethodName) method_38_code (4 : Nat) (Option.some Jvm.ClassFile.FieldType.int) [((0 : Nat), (9 : Nat), (12 : Nat), (19 : Nat))] ∈ gTb := gtb5 190 rfl rfl
theorem gw5_191 : Jvm.Cond.methodLink "PressureNetLaw" (132 : Nat) ({ cls := "PressureNet", name := "bestExcess", desc := "(I)I" } : Jvm.MethodName) ∈ gTb := gtb5 191 rfl rfl
theorem gw5_192 : Jvm.Cond.instanceMethod ({ cls := "PressureNet", name := "bestExcess", desc := "(I)I" } : Jvm.MethodName) ∈ gTb := gtb5 192 rfl rfl
theorem gw5_193 : Jvm.Cond.selects "PressureNet" ({ cls := "PressureNet", name := "bestExcess", desc := "(I)I" } : Jvm.MethodName) ({ cls := "PressureNet", name := "bestExcess", desc := "(I)I" } : Jvm.MethodName) ∈ gTb := gtb5 193 rfl rfl
theorem gw5_194 : Jvm.Cond.code ({ cls := "PressureNet", name := "bestExcess", desc := "(I)I" } : Jvm.MethodName) prog_1_method_47_code (6 : Nat) (Option.some Jvm.ClassFile.FieldType.int) ∈ gTb := gtb5 194 rfl rfl
theorem gw5_195 : Jvm.Cond.methodLink "PressureNetLaw" (286 : Nat) ({ cls := "PressureNetLaw", name := "bestSettings", desc := "(LPressureNet;I[J)I" } : Jvm.MethodName) ∈ gTb := gtb5 195 rfl rfl
theorem gw5_196 : Jvm.Cond.static ({ cls := "PressureNetLaw", name := "bestSettings", desc := "(LPressureNet;I[J)I" } : Jvm.MethodName) ∈ gTb := gtb5 196 rfl rfl
theorem gw5_197 : Jvm.Cond.codeWith ({ cls := "PressureNetLaw", name := "bestSettings", desc := "(LPressureNet;I[J)I" } : Jvm.MethodName) method_39_code (4 : Nat) (Option.some Jvm.ClassFile.FieldType.int) [((0 : Nat), (9 : Nat), (12 : Nat), (19 : Nat))] ∈ gTb := gtb5 197 rfl rfl
theorem gw5_198 : Jvm.Cond.methodLink "PressureNetLaw" (135 : Nat) ({ cls := "PressureNet", name := "bestSettings", desc := "(I)I" } : Jvm.MethodName) ∈ gTb := gtb5 198 rfl rfl
theorem gw5_199 : Jvm.Cond.instanceMethod ({ cls := "PressureNet", name := "bestSettings", desc := "(I)I" } : Jvm.MethodName) ∈ gTb := gtb5 199 rfl rfl
theorem gw5_200 : Jvm.Cond.selects "PressureNet" ({ cls := "PressureNet", name := "bestSettings", desc := "(I)I" } : Jvm.MethodName) ({ cls := "PressureNet", name := "bestSettings", desc := "(I)I" } : Jvm.MethodName) ∈ gTb := gtb5 200 rfl rfl
theorem gw5_201 : Jvm.Cond.code ({ cls := "PressureNet", name := "bestSettings", desc := "(I)I" } : Jvm.MethodName) prog_1_method_48_code (9 : Nat) (Option.some Jvm.ClassFile.FieldType.int) ∈ gTb := gtb5 201 rfl rfl
theorem gw5_202 : Jvm.Cond.methodLink "PressureNetLaw" (289 : Nat) ({ cls := "PressureNetLaw", name := "sustainable", desc := "(LPressureNet;II[J)I" } : Jvm.MethodName) ∈ gTb := gtb5 202 rfl rfl
theorem gw5_203 : Jvm.Cond.static ({ cls := "PressureNetLaw", name := "sustainable", desc := "(LPressureNet;II[J)I" } : Jvm.MethodName) ∈ gTb := gtb5 203 rfl rfl
theorem gw5_204 : Jvm.Cond.codeWith ({ cls := "PressureNetLaw", name := "sustainable", desc := "(LPressureNet;II[J)I" } : Jvm.MethodName) method_40_code (5 : Nat) (Option.some Jvm.ClassFile.FieldType.int) [((0 : Nat), (10 : Nat), (13 : Nat), (29 : Nat)), ((0 : Nat), (10 : Nat), (17 : Nat), (19 : Nat))] ∈ gTb := gtb5 204 rfl rfl
theorem gw5_205 : Jvm.Cond.methodLink "PressureNetLaw" (138 : Nat) ({ cls := "PressureNet", name := "sustainable", desc := "(II)I" } : Jvm.MethodName) ∈ gTb := gtb5 205 rfl rfl
theorem gw5_206 : Jvm.Cond.instanceMethod ({ cls := "PressureNet", name := "sustainable", desc := "(II)I" } : Jvm.MethodName) ∈ gTb := gtb5 206 rfl rfl
theorem gw5_207 : Jvm.Cond.selects "PressureNet" ({ cls := "PressureNet", name := "sustainable", desc := "(II)I" } : Jvm.MethodName) ({ cls := "PressureNet", name := "sustainable", desc := "(II)I" } : Jvm.MethodName) ∈ gTb := gtb5 207 rfl rfl
theorem gw5_208 : Jvm.Cond.code ({ cls := "PressureNet", name := "sustainable", desc := "(II)I" } : Jvm.MethodName) prog_1_method_49_code (5 : Nat) (Option.some Jvm.ClassFile.FieldType.int) ∈ gTb := gtb5 208 rfl rfl
theorem gw5_213 : Jvm.Cond.classLink "PressureNetLaw" (142 : Nat) "PressureNetModel" ∈ gTb := gtb5 213 rfl rfl
theorem gw5_214 : Jvm.Cond.instantiable "PressureNetModel" (32 : Nat) ∈ gTb := gtb5 214 rfl rfl
theorem gw5_215 : Jvm.Cond.methodLink "PressureNetLaw" (144 : Nat) ({ cls := "PressureNetModel", name := "<init>", desc := "()V" } : Jvm.MethodName) ∈ gTb := gtb5 215 rfl rfl
theorem gw5_216 : Jvm.Cond.instanceMethod ({ cls := "PressureNetModel", name := "<init>", desc := "()V" } : Jvm.MethodName) ∈ gTb := gtb5 216 rfl rfl
theorem gw5_217 : Jvm.Cond.code ({ cls := "PressureNetModel", name := "<init>", desc := "()V" } : Jvm.MethodName) prog_11_method_1_code (1 : Nat) (Option.none : Option Jvm.ClassFile.FieldType) ∈ gTb := gtb5 217 rfl rfl
theorem gw6_94 : Jvm.Cond.methodLink "PressureNetLaw" (151 : Nat) ({ cls := "PressureNetModel", name := "thrown", desc := "()I" } : Jvm.MethodName) ∈ gTb := gtb6 94 rfl rfl
theorem gw6_95 : Jvm.Cond.instanceMethod ({ cls := "PressureNetModel", name := "thrown", desc := "()I" } : Jvm.MethodName) ∈ gTb := gtb6 95 rfl rfl
theorem gw6_96 : Jvm.Cond.selects "PressureNetModel" ({ cls := "PressureNetModel", name := "thrown", desc := "()I" } : Jvm.MethodName) ({ cls := "PressureNetModel", name := "thrown", desc := "()I" } : Jvm.MethodName) ∈ gTb := gtb6 96 rfl rfl
theorem gw6_97 : Jvm.Cond.code ({ cls := "PressureNetModel", name := "thrown", desc := "()I" } : Jvm.MethodName) prog_11_method_2_code (1 : Nat) (Option.some Jvm.ClassFile.FieldType.int) ∈ gTb := gtb6 97 rfl rfl
theorem gw6_98 : Jvm.Cond.methodLink "PressureNetLaw" (150 : Nat) ({ cls := "PressureNetModel", name := "append", desc := "(IIIII)I" } : Jvm.MethodName) ∈ gTb := gtb6 98 rfl rfl
theorem gw6_99 : Jvm.Cond.instanceMethod ({ cls := "PressureNetModel", name := "append", desc := "(IIIII)I" } : Jvm.MethodName) ∈ gTb := gtb6 99 rfl rfl
theorem gw6_100 : Jvm.Cond.selects "PressureNetModel" ({ cls := "PressureNetModel", name := "append", desc := "(IIIII)I" } : Jvm.MethodName) ({ cls := "PressureNetModel", name := "append", desc := "(IIIII)I" } : Jvm.MethodName) ∈ gTb := gtb6 100 rfl rfl
theorem gw6_101 : Jvm.Cond.code ({ cls := "PressureNetModel", name := "append", desc := "(IIIII)I" } : Jvm.MethodName) prog_11_method_7_code (9 : Nat) (Option.some Jvm.ClassFile.FieldType.int) ∈ gTb := gtb6 101 rfl rfl
theorem gw6_109 : Jvm.Cond.methodLink "PressureNetLaw" (157 : Nat) ({ cls := "PressureNetModel", name := "truncate", desc := "(I)I" } : Jvm.MethodName) ∈ gTb := gtb6 109 rfl rfl
theorem gw6_110 : Jvm.Cond.instanceMethod ({ cls := "PressureNetModel", name := "truncate", desc := "(I)I" } : Jvm.MethodName) ∈ gTb := gtb6 110 rfl rfl
theorem gw6_111 : Jvm.Cond.selects "PressureNetModel" ({ cls := "PressureNetModel", name := "truncate", desc := "(I)I" } : Jvm.MethodName) ({ cls := "PressureNetModel", name := "truncate", desc := "(I)I" } : Jvm.MethodName) ∈ gTb := gtb6 111 rfl rfl
theorem gw6_112 : Jvm.Cond.code ({ cls := "PressureNetModel", name := "truncate", desc := "(I)I" } : Jvm.MethodName) prog_11_method_8_code (2 : Nat) (Option.some Jvm.ClassFile.FieldType.int) ∈ gTb := gtb6 112 rfl rfl
theorem gw6_116 : Jvm.Cond.methodLink "PressureNetLaw" (161 : Nat) ({ cls := "PressureNetModel", name := "errorPosition", desc := "()I" } : Jvm.MethodName) ∈ gTb := gtb6 116 rfl rfl
theorem gw6_117 : Jvm.Cond.instanceMethod ({ cls := "PressureNetModel", name := "errorPosition", desc := "()I" } : Jvm.MethodName) ∈ gTb := gtb6 117 rfl rfl
theorem gw6_118 : Jvm.Cond.selects "PressureNetModel" ({ cls := "PressureNetModel", name := "errorPosition", desc := "()I" } : Jvm.MethodName) ({ cls := "PressureNetModel", name := "errorPosition", desc := "()I" } : Jvm.MethodName) ∈ gTb := gtb6 118 rfl rfl
theorem gw6_119 : Jvm.Cond.code ({ cls := "PressureNetModel", name := "errorPosition", desc := "()I" } : Jvm.MethodName) prog_11_method_31_code (1 : Nat) (Option.some Jvm.ClassFile.FieldType.int) ∈ gTb := gtb6 119 rfl rfl
theorem gw6_212 : Jvm.Cond.methodLink "PressureNetLaw" (165 : Nat) ({ cls := "PressureNetModel", name := "load", desc := "()I" } : Jvm.MethodName) ∈ gTb := gtb6 212 rfl rfl
theorem gw6_213 : Jvm.Cond.instanceMethod ({ cls := "PressureNetModel", name := "load", desc := "()I" } : Jvm.MethodName) ∈ gTb := gtb6 213 rfl rfl
theorem gw6_214 : Jvm.Cond.selects "PressureNetModel" ({ cls := "PressureNetModel", name := "load", desc := "()I" } : Jvm.MethodName) ({ cls := "PressureNetModel", name := "load", desc := "()I" } : Jvm.MethodName) ∈ gTb := gtb6 214 rfl rfl
theorem gw6_215 : Jvm.Cond.code ({ cls := "PressureNetModel", name := "load", desc := "()I" } : Jvm.MethodName) prog_11_method_34_code (1 : Nat) (Option.some Jvm.ClassFile.FieldType.int) ∈ gTb := gtb6 215 rfl rfl
theorem gw6_216 : Jvm.Cond.methodLink "PressureNetLaw" (206 : Nat) ({ cls := "PressureNetModel", name := "undo", desc := "()I" } : Jvm.MethodName) ∈ gTb := gtb6 216 rfl rfl
theorem gw6_217 : Jvm.Cond.instanceMethod ({ cls := "PressureNetModel", name := "undo", desc := "()I" } : Jvm.MethodName) ∈ gTb := gtb6 217 rfl rfl
theorem gw6_218 : Jvm.Cond.selects "PressureNetModel" ({ cls := "PressureNetModel", name := "undo", desc := "()I" } : Jvm.MethodName) ({ cls := "PressureNetModel", name := "undo", desc := "()I" } : Jvm.MethodName) ∈ gTb := gtb6 218 rfl rfl
theorem gw6_219 : Jvm.Cond.code ({ cls := "PressureNetModel", name := "undo", desc := "()I" } : Jvm.MethodName) prog_11_method_36_code (1 : Nat) (Option.some Jvm.ClassFile.FieldType.int) ∈ gTb := gtb6 219 rfl rfl
theorem gw6_220 : Jvm.Cond.methodLink "PressureNetLaw" (210 : Nat) ({ cls := "PressureNetModel", name := "undoCount", desc := "()I" } : Jvm.MethodName) ∈ gTb := gtb6 220 rfl rfl
theorem gw6_221 : Jvm.Cond.instanceMethod ({ cls := "PressureNetModel", name := "undoCount", desc := "()I" } : Jvm.MethodName) ∈ gTb := gtb6 221 rfl rfl
theorem gw6_222 : Jvm.Cond.selects "PressureNetModel" ({ cls := "PressureNetModel", name := "undoCount", desc := "()I" } : Jvm.MethodName) ({ cls := "PressureNetModel", name := "undoCount", desc := "()I" } : Jvm.MethodName) ∈ gTb := gtb6 222 rfl rfl
theorem gw6_223 : Jvm.Cond.code ({ cls := "PressureNetModel", name := "undoCount", desc := "()I" } : Jvm.MethodName) prog_11_method_37_code (1 : Nat) (Option.some Jvm.ClassFile.FieldType.int) ∈ gTb := gtb6 223 rfl rfl
theorem gw6_224 : Jvm.Cond.methodLink "PressureNetLaw" (214 : Nat) ({ cls := "PressureNetModel", name := "save", desc := "()I" } : Jvm.MethodName) ∈ gTb := gtb6 224 rfl rfl
theorem gw6_225 : Jvm.Cond.instanceMethod ({ cls := "PressureNetModel", name := "save", desc := "()I" } : Jvm.MethodName) ∈ gTb := gtb6 225 rfl rfl
theorem gw6_226 : Jvm.Cond.selects "PressureNetModel" ({ cls := "PressureNetModel", name := "save", desc := "()I" } : Jvm.MethodName) ({ cls := "PressureNetModel", name := "save", desc := "()I" } : Jvm.MethodName) ∈ gTb := gtb6 226 rfl rfl
theorem gw6_227 : Jvm.Cond.code ({ cls := "PressureNetModel", name := "save", desc := "()I" } : Jvm.MethodName) prog_11_method_38_code (1 : Nat) (Option.some Jvm.ClassFile.FieldType.int) ∈ gTb := gtb6 227 rfl rfl
theorem gw6_228 : Jvm.Cond.methodLink "PressureNetLaw" (217 : Nat) ({ cls := "PressureNetModel", name := "restore", desc := "()I" } : Jvm.MethodName) ∈ gTb := gtb6 228 rfl rfl
theorem gw6_229 : Jvm.Cond.instanceMethod ({ cls := "PressureNetModel", name := "restore", desc := "()I" } : Jvm.MethodName) ∈ gTb := gtb6 229 rfl rfl
theorem gw6_230 : Jvm.Cond.selects "PressureNetModel" ({ cls := "PressureNetModel", name := "restore", desc := "()I" } : Jvm.MethodName) ({ cls := "PressureNetModel", name := "restore", desc := "()I" } : Jvm.MethodName) ∈ gTb := gtb6 230 rfl rfl
theorem gw6_231 : Jvm.Cond.code ({ cls := "PressureNetModel", name := "restore", desc := "()I" } : Jvm.MethodName) prog_11_method_39_code (1 : Nat) (Option.some Jvm.ClassFile.FieldType.int) ∈ gTb := gtb6 231 rfl rfl
theorem gw6_232 : Jvm.Cond.methodLink "PressureNetLaw" (169 : Nat) ({ cls := "PressureNetModel", name := "addLink", desc := "(III)I" } : Jvm.MethodName) ∈ gTb := gtb6 232 rfl rfl
theorem gw6_233 : Jvm.Cond.instanceMethod ({ cls := "PressureNetModel", name := "addLink", desc := "(III)I" } : Jvm.MethodName) ∈ gTb := gtb6 233 rfl rfl
theorem gw6_234 : Jvm.Cond.selects "PressureNetModel" ({ cls := "PressureNetModel", name := "addLink", desc := "(III)I" } : Jvm.MethodName) ({ cls := "PressureNetModel", name := "addLink", desc := "(III)I" } : Jvm.MethodName) ∈ gTb := gtb6 234 rfl rfl
theorem gw6_235 : Jvm.Cond.code ({ cls := "PressureNetModel", name := "addLink", desc := "(III)I" } : Jvm.MethodName) prog_11_method_75_code (4 : Nat) (Option.some Jvm.ClassFile.FieldType.int) ∈ gTb := gtb6 235 rfl rfl
theorem gw7_9 : Jvm.Cond.methodLink "PressureNetLaw" (173 : Nat) ({ cls := "PressureNetModel", name := "setCapacity", desc := "(II)I" } : Jvm.MethodName) ∈ gTb := gtb7 9 rfl rfl
theorem gw7_10 : Jvm.Cond.instanceMethod ({ cls := "PressureNetModel", name := "setCapacity", desc := "(II)I" } : Jvm.MethodName) ∈ gTb := gtb7 10 rfl rfl
theorem gw7_11 : Jvm.Cond.selects "PressureNetModel" ({ cls := "PressureNetModel", name := "setCapacity", desc := "(II)I" } : Jvm.MethodName) ({ cls := "PressureNetModel", name := "setCapacity", desc := "(II)I" } : Jvm.MethodName) ∈ gTb := gtb7 11 rfl rfl
theorem gw7_12 : Jvm.Cond.code ({ cls := "PressureNetModel", name := "setCapacity", desc := "(II)I" } : Jvm.MethodName) prog_11_method_77_code (3 : Nat) (Option.some Jvm.ClassFile.FieldType.int) ∈ gTb := gtb7 12 rfl rfl
theorem gw7_21 : Jvm.Cond.methodLink "PressureNetLaw" (177 : Nat) ({ cls := "PressureNetModel", name := "setConflict", desc := "(IIZ)Z" } : Jvm.MethodName) ∈ gTb := gtb7 21 rfl rfl
theorem gw7_22 : Jvm.Cond.instanceMethod ({ cls := "PressureNetModel", name := "setConflict", desc := "(IIZ)Z" } : Jvm.MethodName) ∈ gTb := gtb7 22 rfl rfl
theorem gw7_23 : Jvm.Cond.selects "PressureNetModel" ({ cls := "PressureNetModel", name := "setConflict", desc := "(IIZ)Z" } : Jvm.MethodName) ({ cls := "PressureNetModel", name := "setConflict", desc := "(IIZ)Z" } : Jvm.MethodName) ∈ gTb := gtb7 23 rfl rfl
theorem gw7_24 : Jvm.Cond.code ({ cls := "PressureNetModel", name := "setConflict", desc := "(IIZ)Z" } : Jvm.MethodName) prog_11_method_78_code (6 : Nat) (Option.some Jvm.ClassFile.FieldType.boolean) ∈ gTb := gtb7 24 rfl rfl
theorem gw7_25 : Jvm.Cond.methodLink "PressureNetLaw" (181 : Nat) ({ cls := "PressureNetModel", name := "addFlow", desc := "(IIII)I" } : Jvm.MethodName) ∈ gTb := gtb7 25 rfl rfl
theorem gw7_26 : Jvm.Cond.instanceMethod ({ cls := "PressureNetModel", name := "addFlow", desc := "(IIII)I" } : Jvm.MethodName) ∈ gTb := gtb7 26 rfl rfl
theorem gw7_27 : Jvm.Cond.selects "PressureNetModel" ({ cls := "PressureNetModel", name := "addFlow", desc := "(IIII)I" } : Jvm.MethodName) ({ cls := "PressureNetModel", name := "addFlow", desc := "(IIII)I" } : Jvm.MethodName) ∈ gTb := gtb7 27 rfl rfl
theorem gw7_28 : Jvm.Cond.code ({ cls := "PressureNetModel", name := "addFlow", desc := "(IIII)I" } : Jvm.MethodName) prog_11_method_79_code (5 : Nat) (Option.some Jvm.ClassFile.FieldType.int) ∈ gTb := gtb7 28 rfl rfl
theorem gw7_31 : Jvm.Cond.methodLink "PressureNetLaw" (184 : Nat) ({ cls := "PressureNetModel", name := "setRate", desc := "(II)I" } : Jvm.MethodName) ∈ gTb := gtb7 31 rfl rfl
theorem gw7_32 : Jvm.Cond.instanceMethod ({ cls := "PressureNetModel", name := "setRate", desc := "(II)I" } : Jvm.MethodName) ∈ gTb := gtb7 32 rfl rfl
theorem gw7_33 : Jvm.Cond.selects "PressureNetModel" ({ cls := "PressureNetModel", name := "setRate", desc := "(II)I" } : Jvm.MethodName) ({ cls := "PressureNetModel", name := "setRate", desc := "(II)I" } : Jvm.MethodName) ∈ gTb := gtb7 33 rfl rfl
theorem gw7_34 : Jvm.Cond.code ({ cls := "PressureNetModel", name := "setRate", desc := "(II)I" } : Jvm.MethodName) prog_11_method_80_code (3 : Nat) (Option.some Jvm.ClassFile.FieldType.int) ∈ gTb := gtb7 34 rfl rfl
theorem gw7_39 : Jvm.Cond.methodLink "PressureNetLaw" (187 : Nat) ({ cls := "PressureNetModel", name := "setBudget", desc := "(II)I" } : Jvm.MethodName) ∈ gTb := gtb7 39 rfl rfl
theorem gw7_40 : Jvm.Cond.instanceMethod ({ cls := "PressureNetModel", name := "setBudget", desc := "(II)I" } : Jvm.MethodName) ∈ gTb := gtb7 40 rfl rfl
theorem gw7_41 : Jvm.Cond.selects "PressureNetModel" ({ cls := "PressureNetModel", name := "setBudget", desc := "(II)I" } : Jvm.MethodName) ({ cls := "PressureNetModel", name := "setBudget", desc := "(II)I" } : Jvm.MethodName) ∈ gTb := gtb7 41 rfl rfl
theorem gw7_42 : Jvm.Cond.code ({ cls := "PressureNetModel", name := "setBudget", desc := "(II)I" } : Jvm.MethodName) prog_11_method_81_code (3 : Nat) (Option.some Jvm.ClassFile.FieldType.int) ∈ gTb := gtb7 42 rfl rfl
theorem gw7_43 : Jvm.Cond.methodLink "PressureNetLaw" (190 : Nat) ({ cls := "PressureNetModel", name := "set", desc := "(II)I" } : Jvm.MethodName) ∈ gTb := gtb7 43 rfl rfl
theorem gw7_44 : Jvm.Cond.instanceMethod ({ cls := "PressureNetModel", name := "set", desc := "(II)I" } : Jvm.MethodName) ∈ gTb := gtb7 44 rfl rfl
theorem gw7_45 : Jvm.Cond.selects "PressureNetModel" ({ cls := "PressureNetModel", name := "set", desc := "(II)I" } : Jvm.MethodName) ({ cls := "PressureNetModel", name := "set", desc := "(II)I" } : Jvm.MethodName) ∈ gTb := gtb7 45 rfl rfl
theorem gw7_46 : Jvm.Cond.code ({ cls := "PressureNetModel", name := "set", desc := "(II)I" } : Jvm.MethodName) prog_11_method_83_code (3 : Nat) (Option.some Jvm.ClassFile.FieldType.int) ∈ gTb := gtb7 46 rfl rfl
theorem gw7_51 : Jvm.Cond.methodLink "PressureNetLaw" (193 : Nat) ({ cls := "PressureNetModel", name := "inject", desc := "(II)I" } : Jvm.MethodName) ∈ gTb := gtb7 51 rfl rfl
theorem gw7_52 : Jvm.Cond.instanceMethod ({ cls := "PressureNetModel", name := "inject", desc := "(II)I" } : Jvm.MethodName) ∈ gTb := gtb7 52 rfl rfl
theorem gw7_53 : Jvm.Cond.selects "PressureNetModel" ({ cls := "PressureNetModel", name := "inject", desc := "(II)I" } : Jvm.MethodName) ({ cls := "PressureNetModel", name := "inject", desc := "(II)I" } : Jvm.MethodName) ∈ gTb := gtb7 53 rfl rfl
theorem gw7_54 : Jvm.Cond.code ({ cls := "PressureNetModel", name := "inject", desc := "(II)I" } : Jvm.MethodName) prog_11_method_84_code (3 : Nat) (Option.some Jvm.ClassFile.FieldType.int) ∈ gTb := gtb7 54 rfl rfl
theorem gw7_72 : Jvm.Cond.methodLink "PressureNetLaw" (196 : Nat) ({ cls := "PressureNetModel", name := "flush", desc := "(II)I" } : Jvm.MethodName) ∈ gTb := gtb7 72 rfl rfl
theorem gw7_73 : Jvm.Cond.instanceMethod ({ cls := "PressureNetModel", name := "flush", desc := "(II)I" } : Jvm.MethodName) ∈ gTb := gtb7 73 rfl rfl
theorem gw7_74 : Jvm.Cond.selects "PressureNetModel" ({ cls := "PressureNetModel", name := "flush", desc := "(II)I" } : Jvm.MethodName) ({ cls := "PressureNetModel", name := "flush", desc := "(II)I" } : Jvm.MethodName) ∈ gTb := gtb7 74 rfl rfl
theorem gw7_75 : Jvm.Cond.code ({ cls := "PressureNetModel", name := "flush", desc := "(II)I" } : Jvm.MethodName) prog_11_method_85_code (4 : Nat) (Option.some Jvm.ClassFile.FieldType.int) ∈ gTb := gtb7 75 rfl rfl
theorem gw7_96 : Jvm.Cond.methodLink "PressureNetLaw" (200 : Nat) ({ cls := "PressureNetModel", name := "resetShadows", desc := "()I" } : Jvm.MethodName) ∈ gTb := gtb7 96 rfl rfl
theorem gw7_97 : Jvm.Cond.instanceMethod ({ cls := "PressureNetModel", name := "resetShadows", desc := "()I" } : Jvm.MethodName) ∈ gTb := gtb7 97 rfl rfl
theorem gw7_98 : Jvm.Cond.selects "PressureNetModel" ({ cls := "PressureNetModel", name := "resetShadows", desc := "()I" } : Jvm.MethodName) ({ cls := "PressureNetModel", name := "resetShadows", desc := "()I" } : Jvm.MethodName) ∈ gTb := gtb7 98 rfl rfl
theorem gw7_99 : Jvm.Cond.code ({ cls := "PressureNetModel", name := "resetShadows", desc := "()I" } : Jvm.MethodName) prog_11_method_87_code (3 : Nat) (Option.some Jvm.ClassFile.FieldType.int) ∈ gTb := gtb7 99 rfl rfl
theorem gw7_104 : Jvm.Cond.methodLink "PressureNetLaw" (203 : Nat) ({ cls := "PressureNetModel", name := "run", desc := "(I)I" } : Jvm.MethodName) ∈ gTb := gtb7 104 rfl rfl
theorem gw7_105 : Jvm.Cond.instanceMethod ({ cls := "PressureNetModel", name := "run", desc := "(I)I" } : Jvm.MethodName) ∈ gTb := gtb7 105 rfl rfl
theorem gw7_106 : Jvm.Cond.selects "PressureNetModel" ({ cls := "PressureNetModel", name := "run", desc := "(I)I" } : Jvm.MethodName) ({ cls := "PressureNetModel", name := "run", desc := "(I)I" } : Jvm.MethodName) ∈ gTb := gtb7 106 rfl rfl
theorem gw7_107 : Jvm.Cond.code ({ cls := "PressureNetModel", name := "run", desc := "(I)I" } : Jvm.MethodName) prog_11_method_89_code (2 : Nat) (Option.some Jvm.ClassFile.FieldType.int) ∈ gTb := gtb7 107 rfl rfl
theorem gw7_192 : Jvm.Cond.methodLink "PressureNetLaw" (220 : Nat) ({ cls := "PressureNetModel", name := "count", desc := "(I)I" } : Jvm.MethodName) ∈ gTb := gtb7 192 rfl rfl
theorem gw7_193 : Jvm.Cond.instanceMethod ({ cls := "PressureNetModel", name := "count", desc := "(I)I" } : Jvm.MethodName) ∈ gTb := gtb7 193 rfl rfl
theorem gw7_194 : Jvm.Cond.selects "PressureNetModel" ({ cls := "PressureNetModel", name := "count", desc := "(I)I" } : Jvm.MethodName) ({ cls := "PressureNetModel", name := "count", desc := "(I)I" } : Jvm.MethodName) ∈ gTb := gtb7 194 rfl rfl
theorem gw7_195 : Jvm.Cond.code ({ cls := "PressureNetModel", name := "count", desc := "(I)I" } : Jvm.MethodName) prog_11_method_90_code (2 : Nat) (Option.some Jvm.ClassFile.FieldType.int) ∈ gTb := gtb7 195 rfl rfl
theorem gw7_197 : Jvm.Cond.methodLink "PressureNetLaw" (223 : Nat) ({ cls := "PressureNetModel", name := "link", desc := "(II)I" } : Jvm.MethodName) ∈ gTb := gtb7 197 rfl rfl
theorem gw7_198 : Jvm.Cond.instanceMethod ({ cls := "PressureNetModel", name := "link", desc := "(II)I" } : Jvm.MethodName) ∈ gTb := gtb7 198 rfl rfl
theorem gw7_199 : Jvm.Cond.selects "PressureNetModel" ({ cls := "PressureNetModel", name := "link", desc := "(II)I" } : Jvm.MethodName) ({ cls := "PressureNetModel", name := "link", desc := "(II)I" } : Jvm.MethodName) ∈ gTb := gtb7 199 rfl rfl
theorem gw7_200 : Jvm.Cond.code ({ cls := "PressureNetModel", name := "link", desc := "(II)I" } : Jvm.MethodName) prog_11_method_91_code (5 : Nat) (Option.some Jvm.ClassFile.FieldType.int) ∈ gTb := gtb7 200 rfl rfl
theorem gw7_206 : Jvm.Cond.methodLink "PressureNetLaw" (226 : Nat) ({ cls := "PressureNetModel", name := "conflicts", desc := "(I)I" } : Jvm.MethodName) ∈ gTb := gtb7 206 rfl rfl
theorem gw7_207 : Jvm.Cond.instanceMethod ({ cls := "PressureNetModel", name := "conflicts", desc := "(I)I" } : Jvm.MethodName) ∈ gTb := gtb7 207 rfl rfl
theorem gw7_208 : Jvm.Cond.selects "PressureNetModel" ({ cls := "PressureNetModel", name := "conflicts", desc := "(I)I" } : Jvm.MethodName) ({ cls := "PressureNetModel", name := "conflicts", desc := "(I)I" } : Jvm.MethodName) ∈ gTb := gtb7 208 rfl rfl
theorem gw7_209 : Jvm.Cond.code ({ cls := "PressureNetModel", name := "conflicts", desc := "(I)I" } : Jvm.MethodName) prog_11_method_93_code (2 : Nat) (Option.some Jvm.ClassFile.FieldType.int) ∈ gTb := gtb7 209 rfl rfl
theorem gw7_210 : Jvm.Cond.methodLink "PressureNetLaw" (229 : Nat) ({ cls := "PressureNetModel", name := "flow", desc := "(II)I" } : Jvm.MethodName) ∈ gTb := gtb7 210 rfl rfl
theorem gw7_211 : Jvm.Cond.instanceMethod ({ cls := "PressureNetModel", name := "flow", desc := "(II)I" } : Jvm.MethodName) ∈ gTb := gtb7 211 rfl rfl
theorem gw7_212 : Jvm.Cond.selects "PressureNetModel" ({ cls := "PressureNetModel", name := "flow", desc := "(II)I" } : Jvm.MethodName) ({ cls := "PressureNetModel", name := "flow", desc := "(II)I" } : Jvm.MethodName) ∈ gTb := gtb7 212 rfl rfl
theorem gw7_213 : Jvm.Cond.code ({ cls := "PressureNetModel", name := "flow", desc := "(II)I" } : Jvm.MethodName) prog_11_method_94_code (3 : Nat) (Option.some Jvm.ClassFile.FieldType.int) ∈ gTb := gtb7 213 rfl rfl
theorem gw7_215 : Jvm.Cond.methodLink "PressureNetLaw" (232 : Nat) ({ cls := "PressureNetModel", name := "hops", desc := "(II)I" } : Jvm.MethodName) ∈ gTb := gtb7 215 rfl rfl
theorem gw7_216 : Jvm.Cond.instanceMethod ({ cls := "PressureNetModel", name := "hops", desc := "(II)I" } : Jvm.MethodName) ∈ gTb := gtb7 216 rfl rfl
theorem gw7_217 : Jvm.Cond.selects "PressureNetModel" ({ cls := "PressureNetModel", name := "hops", desc := "(II)I" } : Jvm.MethodName) ({ cls := "PressureNetModel", name := "hops", desc := "(II)I" } : Jvm.MethodName) ∈ gTb := gtb7 217 rfl rfl
theorem gw7_218 : Jvm.Cond.code ({ cls := "PressureNetModel", name := "hops", desc := "(II)I" } : Jvm.MethodName) prog_11_method_95_code (3 : Nat) (Option.some Jvm.ClassFile.FieldType.int) ∈ gTb := gtb7 218 rfl rfl
theorem gw7_219 : Jvm.Cond.methodLink "PressureNetLaw" (235 : Nat) ({ cls := "PressureNetModel", name := "maxFlow", desc := "(II)I" } : Jvm.MethodName) ∈ gTb := gtb7 219 rfl rfl
theorem gw7_220 : Jvm.Cond.instanceMethod ({ cls := "PressureNetModel", name := "maxFlow", desc := "(II)I" } : Jvm.MethodName) ∈ gTb := gtb7 220 rfl rfl
theorem gw7_221 : Jvm.Cond.selects "PressureNetModel" ({ cls := "PressureNetModel", name := "maxFlow", desc := "(II)I" } : Jvm.MethodName) ({ cls := "PressureNetModel", name := "maxFlow", desc := "(II)I" } : Jvm.MethodName) ∈ gTb := gtb7 221 rfl rfl
theorem gw7_222 : Jvm.Cond.code ({ cls := "PressureNetModel", name := "maxFlow", desc := "(II)I" } : Jvm.MethodName) prog_11_method_98_code (3 : Nat) (Option.some Jvm.ClassFile.FieldType.int) ∈ gTb := gtb7 222 rfl rfl
theorem gw7_231 : Jvm.Cond.methodLink "PressureNetLaw" (238 : Nat) ({ cls := "PressureNetModel", name := "cutSide", desc := "(II)I" } : Jvm.MethodName) ∈ gTb := gtb7 231 rfl rfl
theorem gw7_232 : Jvm.Cond.instanceMethod ({ cls := "PressureNetModel", name := "cutSide", desc := "(II)I" } : Jvm.MethodName) ∈ gTb := gtb7 232 rfl rfl
theorem gw7_233 : Jvm.Cond.selects "PressureNetModel" ({ cls := "PressureNetModel", name := "cutSide", desc := "(II)I" } : Jvm.MethodName) ({ cls := "PressureNetModel", name := "cutSide", desc := "(II)I" } : Jvm.MethodName) ∈ gTb := gtb7 233 rfl rfl
theorem gw7_234 : Jvm.Cond.code ({ cls := "PressureNetModel", name := "cutSide", desc := "(II)I" } : Jvm.MethodName) prog_11_method_99_code (4 : Nat) (Option.some Jvm.ClassFile.FieldType.int) ∈ gTb := gtb7 234 rfl rfl
theorem gw7_235 : Jvm.Cond.methodLink "PressureNetLaw" (242 : Nat) ({ cls := "PressureNetModel", name := "overloaded", desc := "()I" } : Jvm.MethodName) ∈ gTb := gtb7 235 rfl rfl
theorem gw7_236 : Jvm.Cond.instanceMethod ({ cls := "PressureNetModel", name := "overloaded", desc := "()I" } : Jvm.MethodName) ∈ gTb := gtb7 236 rfl rfl
theorem gw7_237 : Jvm.Cond.selects "PressureNetModel" ({ cls := "PressureNetModel", name := "overloaded", desc := "()I" } : Jvm.MethodName) ({ cls := "PressureNetModel", name := "overloaded", desc := "()I" } : Jvm.MethodName) ∈ gTb := gtb7 237 rfl rfl
theorem gw7_238 : Jvm.Cond.code ({ cls := "PressureNetModel", name := "overloaded", desc := "()I" } : Jvm.MethodName) prog_11_method_100_code (3 : Nat) (Option.some Jvm.ClassFile.FieldType.int) ∈ gTb := gtb7 238 rfl rfl
theorem gw7_239 : Jvm.Cond.methodLink "PressureNetLaw" (245 : Nat) ({ cls := "PressureNetModel", name := "queue", desc := "(II)I" } : Jvm.MethodName) ∈ gTb := gtb7 239 rfl rfl
theorem gw8_0 : Jvm.Cond.instanceMethod ({ cls := "PressureNetModel", name := "queue", desc := "(II)I" } : Jvm.MethodName) ∈ gTb := gtb8 0 rfl rfl
theorem gw8_1 : Jvm.Cond.selects "PressureNetModel" ({ cls := "PressureNetModel", name := "queue", desc := "(II)I" } : Jvm.MethodName) ({ cls := "PressureNetModel", name := "queue", desc := "(II)I" } : Jvm.MethodName) ∈ gTb := gtb8 1 rfl rfl
theorem gw8_2 : Jvm.Cond.code ({ cls := "PressureNetModel", name := "queue", desc := "(II)I" } : Jvm.MethodName) prog_11_method_101_code (3 : Nat) (Option.some Jvm.ClassFile.FieldType.int) ∈ gTb := gtb8 2 rfl rfl
theorem gw8_7 : Jvm.Cond.methodLink "PressureNetLaw" (248 : Nat) ({ cls := "PressureNetModel", name := "shadow", desc := "(II)I" } : Jvm.MethodName) ∈ gTb := gtb8 7 rfl rfl
theorem gw8_8 : Jvm.Cond.instanceMethod ({ cls := "PressureNetModel", name := "shadow", desc := "(II)I" } : Jvm.MethodName) ∈ gTb := gtb8 8 rfl rfl
theorem gw8_9 : Jvm.Cond.selects "PressureNetModel" ({ cls := "PressureNetModel", name := "shadow", desc := "(II)I" } : Jvm.MethodName) ({ cls := "PressureNetModel", name := "shadow", desc := "(II)I" } : Jvm.MethodName) ∈ gTb := gtb8 9 rfl rfl
theorem gw8_10 : Jvm.Cond.code ({ cls := "PressureNetModel", name := "shadow", desc := "(II)I" } : Jvm.MethodName) prog_11_method_102_code (3 : Nat) (Option.some Jvm.ClassFile.FieldType.int) ∈ gTb := gtb8 10 rfl rfl
theorem gw8_15 : Jvm.Cond.methodLink "PressureNetLaw" (251 : Nat) ({ cls := "PressureNetModel", name := "packet", desc := "(IIII)I" } : Jvm.MethodName) ∈ gTb := gtb8 15 rfl rfl
theorem gw8_16 : Jvm.Cond.instanceMethod ({ cls := "PressureNetModel", name := "packet", desc := "(IIII)I" } : Jvm.MethodName) ∈ gTb := gtb8 16 rfl rfl
theorem gw8_17 : Jvm.Cond.selects "PressureNetModel" ({ cls := "PressureNetModel", name := "packet", desc := "(IIII)I" } : Jvm.MethodName) ({ cls := "PressureNetModel", name := "packet", desc := "(IIII)I" } : Jvm.MethodName) ∈ gTb := gtb8 17 rfl rfl
theorem gw8_18 : Jvm.Cond.code ({ cls := "PressureNetModel", name := "packet", desc := "(IIII)I" } : Jvm.MethodName) prog_11_method_103_code (7 : Nat) (Option.some Jvm.ClassFile.FieldType.int) ∈ gTb := gtb8 18 rfl rfl
theorem gw8_19 : Jvm.Cond.methodLink "PressureNetLaw" (254 : Nat) ({ cls := "PressureNetModel", name := "total", desc := "(I)J" } : Jvm.MethodName) ∈ gTb := gtb8 19 rfl rfl
theorem gw8_20 : Jvm.Cond.instanceMethod ({ cls := "PressureNetModel", name := "total", desc := "(I)J" } : Jvm.MethodName) ∈ gTb := gtb8 20 rfl rfl
theorem gw8_21 : Jvm.Cond.selects "PressureNetModel" ({ cls := "PressureNetModel", name := "total", desc := "(I)J" } : Jvm.MethodName) ({ cls := "PressureNetModel", name := "total", desc := "(I)J" } : Jvm.MethodName) ∈ gTb := gtb8 21 rfl rfl
theorem gw8_22 : Jvm.Cond.code ({ cls := "PressureNetModel", name := "total", desc := "(I)J" } : Jvm.MethodName) prog_11_method_106_code (2 : Nat) (Option.some Jvm.ClassFile.FieldType.long) ∈ gTb := gtb8 22 rfl rfl
theorem gw8_31 : Jvm.Cond.methodLink "PressureNetLaw" (257 : Nat) ({ cls := "PressureNetModel", name := "fullest", desc := "()I" } : Jvm.MethodName) ∈ gTb := gtb8 31 rfl rfl
theorem gw8_32 : Jvm.Cond.instanceMethod ({ cls := "PressureNetModel", name := "fullest", desc := "()I" } : Jvm.MethodName) ∈ gTb := gtb8 32 rfl rfl
theorem gw8_33 : Jvm.Cond.selects "PressureNetModel" ({ cls := "PressureNetModel", name := "fullest", desc := "()I" } : Jvm.MethodName) ({ cls := "PressureNetModel", name := "fullest", desc := "()I" } : Jvm.MethodName) ∈ gTb := gtb8 33 rfl rfl
theorem gw8_34 : Jvm.Cond.code ({ cls := "PressureNetModel", name := "fullest", desc := "()I" } : Jvm.MethodName) prog_11_method_107_code (6 : Nat) (Option.some Jvm.ClassFile.FieldType.int) ∈ gTb := gtb8 34 rfl rfl
theorem gw8_35 : Jvm.Cond.methodLink "PressureNetLaw" (260 : Nat) ({ cls := "PressureNetModel", name := "urgent", desc := "()I" } : Jvm.MethodName) ∈ gTb := gtb8 35 rfl rfl
theorem gw8_36 : Jvm.Cond.instanceMethod ({ cls := "PressureNetModel", name := "urgent", desc := "()I" } : Jvm.MethodName) ∈ gTb := gtb8 36 rfl rfl
theorem gw8_37 : Jvm.Cond.selects "PressureNetModel" ({ cls := "PressureNetModel", name := "urgent", desc := "()I" } : Jvm.MethodName) ({ cls := "PressureNetModel", name := "urgent", desc := "()I" } : Jvm.MethodName) ∈ gTb := gtb8 37 rfl rfl
theorem gw8_38 : Jvm.Cond.code ({ cls := "PressureNetModel", name := "urgent", desc := "()I" } : Jvm.MethodName) prog_11_method_108_code (5 : Nat) (Option.some Jvm.ClassFile.FieldType.int) ∈ gTb := gtb8 38 rfl rfl
theorem gw8_39 : Jvm.Cond.methodLink "PressureNetLaw" (264 : Nat) ({ cls := "PressureNetModel", name := "meanDelay", desc := "(IZ)I" } : Jvm.MethodName) ∈ gTb := gtb8 39 rfl rfl
theorem gw8_40 : Jvm.Cond.instanceMethod ({ cls := "PressureNetModel", name := "meanDelay", desc := "(IZ)I" } : Jvm.MethodName) ∈ gTb := gtb8 40 rfl rfl
theorem gw8_41 : Jvm.Cond.selects "PressureNetModel" ({ cls := "PressureNetModel", name := "meanDelay", desc := "(IZ)I" } : Jvm.MethodName) ({ cls := "PressureNetModel", name := "meanDelay", desc := "(IZ)I" } : Jvm.MethodName) ∈ gTb := gtb8 41 rfl rfl
theorem gw8_42 : Jvm.Cond.code ({ cls := "PressureNetModel", name := "meanDelay", desc := "(IZ)I" } : Jvm.MethodName) prog_11_method_110_code (4 : Nat) (Option.some Jvm.ClassFile.FieldType.int) ∈ gTb := gtb8 42 rfl rfl
theorem gw8_46 : Jvm.Cond.methodLink "PressureNetLaw" (267 : Nat) ({ cls := "PressureNetModel", name := "schedule", desc := "(I)I" } : Jvm.MethodName) ∈ gTb := gtb8 46 rfl rfl
theorem gw8_47 : Jvm.Cond.instanceMethod ({ cls := "PressureNetModel", name := "schedule", desc := "(I)I" } : Jvm.MethodName) ∈ gTb := gtb8 47 rfl rfl
theorem gw8_48 : Jvm.Cond.selects "PressureNetModel" ({ cls := "PressureNetModel", name := "schedule", desc := "(I)I" } : Jvm.MethodName) ({ cls := "PressureNetModel", name := "schedule", desc := "(I)I" } : Jvm.MethodName) ∈ gTb := gtb8 48 rfl rfl
theorem gw8_49 : Jvm.Cond.code ({ cls := "PressureNetModel", name := "schedule", desc := "(I)I" } : Jvm.MethodName) prog_11_method_111_code (2 : Nat) (Option.some Jvm.ClassFile.FieldType.int) ∈ gTb := gtb8 49 rfl rfl
theorem gw8_50 : Jvm.Cond.methodLink "PressureNetLaw" (270 : Nat) ({ cls := "PressureNetModel", name := "scheduleWeight", desc := "(I)I" } : Jvm.MethodName) ∈ gTb := gtb8 50 rfl rfl
theorem gw8_51 : Jvm.Cond.instanceMethod ({ cls := "PressureNetModel", name := "scheduleWeight", desc := "(I)I" } : Jvm.MethodName) ∈ gTb := gtb8 51 rfl rfl
theorem gw8_52 : Jvm.Cond.selects "PressureNetModel" ({ cls := "PressureNetModel", name := "scheduleWeight", desc := "(I)I" } : Jvm.MethodName) ({ cls := "PressureNetModel", name := "scheduleWeight", desc := "(I)I" } : Jvm.MethodName) ∈ gTb := gtb8 52 rfl rfl
theorem gw8_53 : Jvm.Cond.code ({ cls := "PressureNetModel", name := "scheduleWeight", desc := "(I)I" } : Jvm.MethodName) prog_11_method_112_code (5 : Nat) (Option.some Jvm.ClassFile.FieldType.int) ∈ gTb := gtb8 53 rfl rfl
theorem gw8_54 : Jvm.Cond.methodLink "PressureNetLaw" (273 : Nat) ({ cls := "PressureNetModel", name := "forecast", desc := "(II)J" } : Jvm.MethodName) ∈ gTb := gtb8 54 rfl rfl
theorem gw8_55 : Jvm.Cond.instanceMethod ({ cls := "PressureNetModel", name := "forecast", desc := "(II)J" } : Jvm.MethodName) ∈ gTb := gtb8 55 rfl rfl
theorem gw8_56 : Jvm.Cond.selects "PressureNetModel" ({ cls := "PressureNetModel", name := "forecast", desc := "(II)J" } : Jvm.MethodName) ({ cls := "PressureNetModel", name := "forecast", desc := "(II)J" } : Jvm.MethodName) ∈ gTb := gtb8 56 rfl rfl
theorem gw8_57 : Jvm.Cond.code ({ cls := "PressureNetModel", name := "forecast", desc := "(II)J" } : Jvm.MethodName) prog_11_method_113_code (5 : Nat) (Option.some Jvm.ClassFile.FieldType.long) ∈ gTb := gtb8 57 rfl rfl
theorem gw8_58 : Jvm.Cond.methodLink "PressureNetLaw" (276 : Nat) ({ cls := "PressureNetModel", name := "forecastFlow", desc := "(III)I" } : Jvm.MethodName) ∈ gTb := gtb8 58 rfl rfl
theorem gw8_59 : Jvm.Cond.instanceMethod ({ cls := "PressureNetModel", name := "forecastFlow", desc := "(III)I" } : Jvm.MethodName) ∈ gTb := gtb8 59 rfl rfl
theorem gw8_60 : Jvm.Cond.selects "PressureNetModel" ({ cls := "PressureNetModel", name := "forecastFlow", desc := "(III)I" } : Jvm.MethodName) ({ cls := "PressureNetModel", name := "forecastFlow", desc := "(III)I" } : Jvm.MethodName) ∈ gTb := gtb8 60 rfl rfl
theorem gw8_61 : Jvm.Cond.code ({ cls := "PressureNetModel", name := "forecastFlow", desc := "(III)I" } : Jvm.MethodName) prog_11_method_114_code (5 : Nat) (Option.some Jvm.ClassFile.FieldType.int) ∈ gTb := gtb8 61 rfl rfl
theorem gw8_62 : Jvm.Cond.methodLink "PressureNetLaw" (279 : Nat) ({ cls := "PressureNetModel", name := "slotsToFull", desc := "(II)I" } : Jvm.MethodName) ∈ gTb := gtb8 62 rfl rfl
theorem gw8_63 : Jvm.Cond.instanceMethod ({ cls := "PressureNetModel", name := "slotsToFull", desc := "(II)I" } : Jvm.MethodName) ∈ gTb := gtb8 63 rfl rfl
theorem gw8_64 : Jvm.Cond.selects "PressureNetModel" ({ cls := "PressureNetModel", name := "slotsToFull", desc := "(II)I" } : Jvm.MethodName) ({ cls := "PressureNetModel", name := "slotsToFull", desc := "(II)I" } : Jvm.MethodName) ∈ gTb := gtb8 64 rfl rfl
theorem gw8_65 : Jvm.Cond.code ({ cls := "PressureNetModel", name := "slotsToFull", desc := "(II)I" } : Jvm.MethodName) prog_11_method_115_code (5 : Nat) (Option.some Jvm.ClassFile.FieldType.int) ∈ gTb := gtb8 65 rfl rfl
theorem gw8_67 : Jvm.Cond.methodLink "PressureNetLaw" (282 : Nat) ({ cls := "PressureNetModel", name := "bestBias", desc := "(I)I" } : Jvm.MethodName) ∈ gTb := gtb8 67 rfl rfl
theorem gw8_68 : Jvm.Cond.instanceMethod ({ cls := "PressureNetModel", name := "bestBias", desc := "(I)I" } : Jvm.MethodName) ∈ gTb := gtb8 68 rfl rfl
theorem gw8_69 : Jvm.Cond.selects "PressureNetModel" ({ cls := "PressureNetModel", name := "bestBias", desc := "(I)I" } : Jvm.MethodName) ({ cls := "PressureNetModel", name := "bestBias", desc := "(I)I" } : Jvm.MethodName) ∈ gTb := gtb8 69 rfl rfl
theorem gw8_70 : Jvm.Cond.code ({ cls := "PressureNetModel", name := "bestBias", desc := "(I)I" } : Jvm.MethodName) prog_11_method_117_code (8 : Nat) (Option.some Jvm.ClassFile.FieldType.int) ∈ gTb := gtb8 70 rfl rfl
theorem gw8_75 : Jvm.Cond.methodLink "PressureNetLaw" (285 : Nat) ({ cls := "PressureNetModel", name := "bestExcess", desc := "(I)I" } : Jvm.MethodName) ∈ gTb := gtb8 75 rfl rfl
theorem gw8_76 : Jvm.Cond.instanceMethod ({ cls := "PressureNetModel", name := "bestExcess", desc := "(I)I" } : Jvm.MethodName) ∈ gTb := gtb8 76 rfl rfl
theorem gw8_77 : Jvm.Cond.selects "PressureNetModel" ({ cls := "PressureNetModel", name := "bestExcess", desc := "(I)I" } : Jvm.MethodName) ({ cls := "PressureNetModel", name := "bestExcess", desc := "(I)I" } : Jvm.MethodName) ∈ gTb := gtb8 77 rfl rfl
theorem gw8_78 : Jvm.Cond.code ({ cls := "PressureNetModel", name := "bestExcess", desc := "(I)I" } : Jvm.MethodName) prog_11_method_118_code (6 : Nat) (Option.some Jvm.ClassFile.FieldType.int) ∈ gTb := gtb8 78 rfl rfl
theorem gw8_79 : Jvm.Cond.methodLink "PressureNetLaw" (288 : Nat) ({ cls := "PressureNetModel", name := "bestSettings", desc := "(I)I" } : Jvm.MethodName) ∈ gTb := gtb8 79 rfl rfl
theorem gw8_80 : Jvm.Cond.instanceMethod ({ cls := "PressureNetModel", name := "bestSettings", desc := "(I)I" } : Jvm.MethodName) ∈ gTb := gtb8 80 rfl rfl
theorem gw8_81 : Jvm.Cond.selects "PressureNetModel" ({ cls := "PressureNetModel", name := "bestSettings", desc := "(I)I" } : Jvm.MethodName) ({ cls := "PressureNetModel", name := "bestSettings", desc := "(I)I" } : Jvm.MethodName) ∈ gTb := gtb8 81 rfl rfl
theorem gw8_82 : Jvm.Cond.code ({ cls := "PressureNetModel", name := "bestSettings", desc := "(I)I" } : Jvm.MethodName) prog_11_method_119_code (8 : Nat) (Option.some Jvm.ClassFile.FieldType.int) ∈ gTb := gtb8 82 rfl rfl
theorem gw8_83 : Jvm.Cond.methodLink "PressureNetLaw" (291 : Nat) ({ cls := "PressureNetModel", name := "sustainable", desc := "(II)I" } : Jvm.MethodName) ∈ gTb := gtb8 83 rfl rfl
theorem gw8_84 : Jvm.Cond.instanceMethod ({ cls := "PressureNetModel", name := "sustainable", desc := "(II)I" } : Jvm.MethodName) ∈ gTb := gtb8 84 rfl rfl
theorem gw8_85 : Jvm.Cond.selects "PressureNetModel" ({ cls := "PressureNetModel", name := "sustainable", desc := "(II)I" } : Jvm.MethodName) ({ cls := "PressureNetModel", name := "sustainable", desc := "(II)I" } : Jvm.MethodName) ∈ gTb := gtb8 85 rfl rfl
theorem gw8_86 : Jvm.Cond.code ({ cls := "PressureNetModel", name := "sustainable", desc := "(II)I" } : Jvm.MethodName) prog_11_method_121_code (5 : Nat) (Option.some Jvm.ClassFile.FieldType.int) ∈ gTb := gtb8 86 rfl rfl
theorem gw8_92 : Jvm.Cond.arrayClass Jvm.ClassFile.FieldType.long ∈ gTb := gtb8 92 rfl rfl
