theorem gnw_of {w : Cond} (h : w ∈ tables_1) (hg : gIsNw w = true) : w ∈ gNw := List.mem_filter.mpr ⟨h, hg⟩
theorem gnw1 {w : Cond} (i : Nat) (h : tables_1_1[i]? = some w) (hg : gIsNw w = true) : w ∈ gNw := gnw_of (List.mem_append_left _ (List.mem_of_getElem? h)) hg
theorem gnw2 {w : Cond} (i : Nat) (h : tables_1_2[i]? = some w) (hg : gIsNw w = true) : w ∈ gNw := gnw_of (List.mem_append_right _ (List.mem_append_left _ (List.mem_of_getElem? h))) hg
theorem gnw3 {w : Cond} (i : Nat) (h : tables_1_3[i]? = some w) (hg : gIsNw w = true) : w ∈ gNw := gnw_of (List.mem_append_right _ (List.mem_append_right _ (List.mem_append_left _ (List.mem_of_getElem? h)))) hg
theorem gnw4 {w : Cond} (i : Nat) (h : tables_1_4[i]? = some w) (hg : gIsNw w = true) : w ∈ gNw := gnw_of (List.mem_append_right _ (List.mem_append_right _ (List.mem_append_right _ (List.mem_append_left _ (List.mem_of_getElem? h))))) hg
theorem gnw5 {w : Cond} (i : Nat) (h : tables_1_5[i]? = some w) (hg : gIsNw w = true) : w ∈ gNw := gnw_of (List.mem_append_right _ (List.mem_append_right _ (List.mem_append_right _ (List.mem_append_right _ (List.mem_append_left _ (List.mem_of_getElem? h)))))) hg
theorem gnw6 {w : Cond} (i : Nat) (h : tables_1_6[i]? = some w) (hg : gIsNw w = true) : w ∈ gNw := gnw_of (List.mem_append_right _ (List.mem_append_right _ (List.mem_append_right _ (List.mem_append_right _ (List.mem_append_right _ (List.mem_append_left _ (List.mem_of_getElem? h))))))) hg
theorem gnw7 {w : Cond} (i : Nat) (h : tables_1_7[i]? = some w) (hg : gIsNw w = true) : w ∈ gNw := gnw_of (List.mem_append_right _ (List.mem_append_right _ (List.mem_append_right _ (List.mem_append_right _ (List.mem_append_right _ (List.mem_append_right _ (List.mem_append_left _ (List.mem_of_getElem? h)))))))) hg
theorem gnw8 {w : Cond} (i : Nat) (h : tables_1_8[i]? = some w) (hg : gIsNw w = true) : w ∈ gNw := gnw_of (List.mem_append_right _ (List.mem_append_right _ (List.mem_append_right _ (List.mem_append_right _ (List.mem_append_right _ (List.mem_append_right _ (List.mem_append_right _ (List.mem_of_getElem? h)))))))) hg
/-! words of the tables, by their places -/
theorem gw0_0 : Cond.selects "PressureNet$Net" ⟨"PressureNet$Net", "shortenDistances", "(II)V"⟩ ⟨"PressureNet$Net", "shortenDistances", "(II)V"⟩ ∈ gTb := gtb0 0 rfl rfl
theorem gw0_14 : Cond.selects "PressureNet$Cut" ⟨"PressureNet$Cut", "reach", "(LPressureNet$Net;I)I"⟩ ⟨"PressureNet$Cut", "reach", "(LPressureNet$Net;I)I"⟩ ∈ gTb := gtb0 14 rfl rfl
theorem gw0_15 : Cond.selects "PressureNet$Cut" ⟨"PressureNet$Cut", "reachOver", "(LPressureNet$Net;II)I"⟩ ⟨"PressureNet$Cut", "reachOver", "(LPressureNet$Net;II)I"⟩ ∈ gTb := gtb0 15 rfl rfl
theorem gw0_16 : Cond.selects "PressureNet$Cut" ⟨"PressureNet$Cut", "sendOne", "(LPressureNet$Net;II)V"⟩ ⟨"PressureNet$Cut", "sendOne", "(LPressureNet$Net;II)V"⟩ ∈ gTb := gtb0 16 rfl rfl
theorem gw0_26 : Cond.selects "PressureNet$SlotRunner" ⟨"PressureNet$SlotRunner", "takeFor", "(LPressureNet$State;I)V"⟩ ⟨"PressureNet$SlotRunner", "takeFor", "(LPressureNet$State;I)V"⟩ ∈ gTb := gtb0 26 rfl rfl
theorem gw0_27 : Cond.selects "PressureNet$SlotRunner" ⟨"PressureNet$SlotRunner", "bringOver", "(LPressureNet$State;I)V"⟩ ⟨"PressureNet$SlotRunner", "bringOver", "(LPressureNet$State;I)V"⟩ ∈ gTb := gtb0 27 rfl rfl
theorem gw0_28 : Cond.selects "PressureNet$State" ⟨"PressureNet$State", "expireIn", "(I)V"⟩ ⟨"PressureNet$State", "expireIn", "(I)V"⟩ ∈ gTb := gtb0 28 rfl rfl
theorem gw0_29 : Cond.selects "PressureNet$State" ⟨"PressureNet$State", "deadline", "(I)I"⟩ ⟨"PressureNet$State", "deadline", "(I)I"⟩ ∈ gTb := gtb0 29 rfl rfl
theorem gw1_1 : Jvm.Cond.initialized "PressureNet" ∈ gTb := gtb1 1 rfl rfl
theorem gw1_2 : Jvm.Cond.initialized "PressureNet$State" ∈ gTb := gtb1 2 rfl rfl
theorem gw1_3 : Jvm.Cond.initialized "PressureNet$Net" ∈ gTb := gtb1 3 rfl rfl
theorem gw1_4 : Jvm.Cond.initialized "PressureNet$Queues" ∈ gTb := gtb1 4 rfl rfl
theorem gw1_7 : Jvm.Cond.initialized "PressureNet$SlotRunner" ∈ gTb := gtb1 7 rfl rfl
theorem gw1_9 : Jvm.Cond.initialized "PressureNet$Cut" ∈ gTb := gtb1 9 rfl rfl
theorem gw1_10 : Jvm.Cond.initialized "java/util/Arrays" ∈ gTb := gtb1 10 rfl rfl
theorem gw1_21 : Jvm.Cond.initialized "java/lang/Math" ∈ gTb := gtb1 21 rfl rfl
theorem gw1_22 : Jvm.Cond.initialized "java/lang/System" ∈ gTb := gtb1 22 rfl rfl
theorem gw1_45 : Jvm.Cond.fieldLink "PressureNet$Net" (36 : Nat) "PressureNet$Net" "nodes" "I" ∈ gTb := gtb1 45 rfl rfl
theorem gw1_46 : Jvm.Cond.fieldLink "PressureNet$Cut" (39 : Nat) "PressureNet$Net" "nodes" "I" ∈ gTb := gtb1 46 rfl rfl
theorem gw1_47 : Jvm.Cond.fieldLink "PressureNet$Plan" (60 : Nat) "PressureNet$Net" "nodes" "I" ∈ gTb := gtb1 47 rfl rfl
theorem gw1_50 : Jvm.Cond.fieldLink "PressureNet$Net" (40 : Nat) "PressureNet$Net" "links" "I" ∈ gTb := gtb1 50 rfl rfl
theorem gw1_51 : Jvm.Cond.fieldLink "PressureNet$Plan" (24 : Nat) "PressureNet$Net" "links" "I" ∈ gTb := gtb1 51 rfl rfl
theorem gw1_52 : Jvm.Cond.fieldLink "PressureNet$Cut" (44 : Nat) "PressureNet$Net" "links" "I" ∈ gTb := gtb1 52 rfl rfl
theorem gw1_53 : Jvm.Cond.fieldLink "PressureNet$SlotRunner" (97 : Nat) "PressureNet$Net" "links" "I" ∈ gTb := gtb1 53 rfl rfl
theorem gw1_56 : Jvm.Cond.fieldLink "PressureNet$Net" (43 : Nat) "PressureNet$Net" "flows" "I" ∈ gTb := gtb1 56 rfl rfl
theorem gw1_60 : Jvm.Cond.fieldLink "PressureNet$Net" (9 : Nat) "PressureNet$Net" "from" "[I" ∈ gTb := gtb1 60 rfl rfl
theorem gw1_61 : Jvm.Cond.fieldLink "PressureNet$Plan" (63 : Nat) "PressureNet$Net" "from" "[I" ∈ gTb := gtb1 61 rfl rfl
theorem gw1_62 : Jvm.Cond.fieldLink "PressureNet$Cut" (51 : Nat) "PressureNet$Net" "from" "[I" ∈ gTb := gtb1 62 rfl rfl
theorem gw1_63 : Jvm.Cond.fieldLink "PressureNet$SlotRunner" (109 : Nat) "PressureNet$Net" "from" "[I" ∈ gTb := gtb1 63 rfl rfl
theorem gw1_65 : Jvm.Cond.fieldLink "PressureNet$Net" (15 : Nat) "PressureNet$Net" "to" "[I" ∈ gTb := gtb1 65 rfl rfl
theorem gw1_66 : Jvm.Cond.fieldLink "PressureNet$Plan" (70 : Nat) "PressureNet$Net" "to" "[I" ∈ gTb := gtb1 66 rfl rfl
theorem gw1_67 : Jvm.Cond.fieldLink "PressureNet$Cut" (54 : Nat) "PressureNet$Net" "to" "[I" ∈ gTb := gtb1 67 rfl rfl
theorem gw1_68 : Jvm.Cond.fieldLink "PressureNet$SlotRunner" (127 : Nat) "PressureNet$Net" "to" "[I" ∈ gTb := gtb1 68 rfl rfl
theorem gw1_70 : Jvm.Cond.fieldLink "PressureNet$Net" (18 : Nat) "PressureNet$Net" "capacity" "[I" ∈ gTb := gtb1 70 rfl rfl
theorem gw1_71 : Jvm.Cond.fieldLink "PressureNet$Plan" (76 : Nat) "PressureNet$Net" "capacity" "[I" ∈ gTb := gtb1 71 rfl rfl
theorem gw1_72 : Jvm.Cond.fieldLink "PressureNet$Cut" (57 : Nat) "PressureNet$Net" "capacity" "[I" ∈ gTb := gtb1 72 rfl rfl
theorem gw1_73 : Jvm.Cond.fieldLink "PressureNet$SlotRunner" (106 : Nat) "PressureNet$Net" "capacity" "[I" ∈ gTb := gtb1 73 rfl rfl
theorem gw1_75 : Jvm.Cond.fieldLink "PressureNet$Net" (21 : Nat) "PressureNet$Net" "carried" "[I" ∈ gTb := gtb1 75 rfl rfl
theorem gw1_76 : Jvm.Cond.fieldLink "PressureNet$SlotRunner" (124 : Nat) "PressureNet$Net" "carried" "[I" ∈ gTb := gtb1 76 rfl rfl
theorem gw1_78 : Jvm.Cond.fieldLink "PressureNet$Net" (24 : Nat) "PressureNet$Net" "conflicts" "[I" ∈ gTb := gtb1 78 rfl rfl
theorem gw1_79 : Jvm.Cond.fieldLink "PressureNet$Plan" (38 : Nat) "PressureNet$Net" "conflicts" "[I" ∈ gTb := gtb1 79 rfl rfl
theorem gw1_81 : Jvm.Cond.fieldLink "PressureNet$Net" (27 : Nat) "PressureNet$Net" "settings" "[I" ∈ gTb := gtb1 81 rfl rfl
theorem gw1_82 : Jvm.Cond.fieldLink "PressureNet$Plan" (45 : Nat) "PressureNet$Net" "settings" "[I" ∈ gTb := gtb1 82 rfl rfl
theorem gw1_83 : Jvm.Cond.fieldLink "PressureNet$SlotRunner" (48 : Nat) "PressureNet$Net" "settings" "[I" ∈ gTb := gtb1 83 rfl rfl
theorem gw1_86 : Jvm.Cond.fieldLink "PressureNet$Net" (30 : Nat) "PressureNet$Net" "numbers" "[I" ∈ gTb := gtb1 86 rfl rfl
theorem gw1_87 : Jvm.Cond.fieldLink "PressureNet$Net" (33 : Nat) "PressureNet$Net" "distance" "[I" ∈ gTb := gtb1 87 rfl rfl
theorem gw1_88 : Jvm.Cond.fieldLink "PressureNet$Plan" (73 : Nat) "PressureNet$Net" "distance" "[I" ∈ gTb := gtb1 88 rfl rfl
theorem gw1_120 : Jvm.Cond.fieldLink "PressureNet$Queues" (9 : Nat) "PressureNet$Queues" "first" "[I" ∈ gTb := gtb1 120 rfl rfl
theorem gw1_121 : Jvm.Cond.fieldLink "PressureNet$State" (74 : Nat) "PressureNet$Queues" "first" "[I" ∈ gTb := gtb1 121 rfl rfl
theorem gw1_122 : Jvm.Cond.fieldLink "PressureNet$Queues" (15 : Nat) "PressureNet$Queues" "last" "[I" ∈ gTb := gtb1 122 rfl rfl
theorem gw1_123 : Jvm.Cond.fieldLink "PressureNet$Queues" (18 : Nat) "PressureNet$Queues" "length" "[I" ∈ gTb := gtb1 123 rfl rfl
theorem gw1_124 : Jvm.Cond.fieldLink "PressureNet$Plan" (52 : Nat) "PressureNet$Queues" "length" "[I" ∈ gTb := gtb1 124 rfl rfl
theorem gw1_125 : Jvm.Cond.fieldLink "PressureNet$State" (57 : Nat) "PressureNet$Queues" "length" "[I" ∈ gTb := gtb1 125 rfl rfl
theorem gw1_126 : Jvm.Cond.fieldLink "PressureNet$SlotRunner" (115 : Nat) "PressureNet$Queues" "length" "[I" ∈ gTb := gtb1 126 rfl rfl
theorem gw1_128 : Jvm.Cond.fieldLink "PressureNet$Queues" (21 : Nat) "PressureNet$Queues" "shadow" "[I" ∈ gTb := gtb1 128 rfl rfl
theorem gw1_129 : Jvm.Cond.fieldLink "PressureNet$Plan" (57 : Nat) "PressureNet$Queues" "shadow" "[I" ∈ gTb := gtb1 129 rfl rfl
theorem gw1_130 : Jvm.Cond.fieldLink "PressureNet$SlotRunner" (94 : Nat) "PressureNet$Queues" "shadow" "[I" ∈ gTb := gtb1 130 rfl rfl
theorem gw1_132 : Jvm.Cond.fieldLink "PressureNet$Queues" (24 : Nat) "PressureNet$Queues" "next" "[I" ∈ gTb := gtb1 132 rfl rfl
theorem gw1_133 : Jvm.Cond.fieldLink "PressureNet$State" (81 : Nat) "PressureNet$Queues" "next" "[I" ∈ gTb := gtb1 133 rfl rfl
theorem gw1_134 : Jvm.Cond.fieldLink "PressureNet$Queues" (27 : Nat) "PressureNet$Queues" "flow" "[I" ∈ gTb := gtb1 134 rfl rfl
theorem gw1_135 : Jvm.Cond.fieldLink "PressureNet$State" (64 : Nat) "PressureNet$Queues" "flow" "[I" ∈ gTb := gtb1 135 rfl rfl
theorem gw1_136 : Jvm.Cond.fieldLink "PressureNet$SlotRunner" (137 : Nat) "PressureNet$Queues" "flow" "[I" ∈ gTb := gtb1 136 rfl rfl
theorem gw1_138 : Jvm.Cond.fieldLink "PressureNet$Queues" (30 : Nat) "PressureNet$Queues" "arrival" "[I" ∈ gTb := gtb1 138 rfl rfl
theorem gw1_139 : Jvm.Cond.fieldLink "PressureNet$State" (71 : Nat) "PressureNet$Queues" "arrival" "[I" ∈ gTb := gtb1 139 rfl rfl
theorem gw1_140 : Jvm.Cond.fieldLink "PressureNet$SlotRunner" (140 : Nat) "PressureNet$Queues" "arrival" "[I" ∈ gTb := gtb1 140 rfl rfl
theorem gw1_142 : Jvm.Cond.fieldLink "PressureNet$Queues" (33 : Nat) "PressureNet$Queues" "carriers" "[I" ∈ gTb := gtb1 142 rfl rfl
theorem gw1_143 : Jvm.Cond.fieldLink "PressureNet$SlotRunner" (154 : Nat) "PressureNet$Queues" "carriers" "[I" ∈ gTb := gtb1 143 rfl rfl
theorem gw1_145 : Jvm.Cond.fieldLink "PressureNet$Queues" (36 : Nat) "PressureNet$Queues" "visited" "[I" ∈ gTb := gtb1 145 rfl rfl
theorem gw1_146 : Jvm.Cond.fieldLink "PressureNet$SlotRunner" (157 : Nat) "PressureNet$Queues" "visited" "[I" ∈ gTb := gtb1 146 rfl rfl
theorem gw1_148 : Jvm.Cond.fieldLink "PressureNet$Queues" (49 : Nat) "PressureNet$Queues" "used" "I" ∈ gTb := gtb1 148 rfl rfl
theorem gw1_149 : Jvm.Cond.fieldLink "PressureNet$Queues" (39 : Nat) "PressureNet$Queues" "free" "I" ∈ gTb := gtb1 149 rfl rfl
theorem gw1_150 : Jvm.Cond.fieldLink "PressureNet$Queues" (52 : Nat) "PressureNet$Queues" "packets" "I" ∈ gTb := gtb1 150 rfl rfl
theorem gw1_152 : Jvm.Cond.fieldLink "PressureNet$State" (84 : Nat) "PressureNet$Queues" "packets" "I" ∈ gTb := gtb1 152 rfl rfl
theorem gw1_179 : Jvm.Cond.fieldLink "PressureNet$State" (12 : Nat) "PressureNet$State" "net" "LPressureNet$Net;" ∈ gTb := gtb1 179 rfl rfl
theorem gw1_181 : Jvm.Cond.fieldLink "PressureNet$Plan" (18 : Nat) "PressureNet$State" "net" "LPressureNet$Net;" ∈ gTb := gtb1 181 rfl rfl
theorem gw1_182 : Jvm.Cond.fieldLink "PressureNet$SlotRunner" (32 : Nat) "PressureNet$State" "net" "LPressureNet$Net;" ∈ gTb := gtb1 182 rfl rfl
theorem gw1_183 : Jvm.Cond.fieldLink "PressureNet$State" (21 : Nat) "PressureNet$State" "queues" "LPressureNet$Queues;" ∈ gTb := gtb1 183 rfl rfl
theorem gw1_184 : Jvm.Cond.fieldLink "PressureNet$Plan" (48 : Nat) "PressureNet$State" "queues" "LPressureNet$Queues;" ∈ gTb := gtb1 184 rfl rfl
theorem gw1_185 : Jvm.Cond.fieldLink "PressureNet$SlotRunner" (67 : Nat) "PressureNet$State" "queues" "LPressureNet$Queues;" ∈ gTb := gtb1 185 rfl rfl
theorem gw1_187 : Jvm.Cond.fieldLink "PressureNet$State" (32 : Nat) "PressureNet$State" "slot" "I" ∈ gTb := gtb1 187 rfl rfl
theorem gw1_188 : Jvm.Cond.fieldLink "PressureNet$SlotRunner" (61 : Nat) "PressureNet$State" "slot" "I" ∈ gTb := gtb1 188 rfl rfl
theorem gw1_190 : Jvm.Cond.fieldLink "PressureNet$State" (36 : Nat) "PressureNet$State" "peak" "I" ∈ gTb := gtb1 190 rfl rfl
theorem gw2_29 : Jvm.Cond.fieldLink "PressureNet$Plan" (9 : Nat) "PressureNet$Plan" "commodity" "[I" ∈ gTb := gtb2 29 rfl rfl
theorem gw2_30 : Jvm.Cond.fieldLink "PressureNet$SlotRunner" (112 : Nat) "PressureNet$Plan" "commodity" "[I" ∈ gTb := gtb2 30 rfl rfl
theorem gw2_32 : Jvm.Cond.fieldLink "PressureNet$Plan" (15 : Nat) "PressureNet$Plan" "weight" "[I" ∈ gTb := gtb2 32 rfl rfl
theorem gw2_39 : Jvm.Cond.fieldLink "PressureNet$SlotRunner" (12 : Nat) "PressureNet$SlotRunner" "plan" "LPressureNet$Plan;" ∈ gTb := gtb2 39 rfl rfl
theorem gw2_41 : Jvm.Cond.fieldLink "PressureNet$SlotRunner" (18 : Nat) "PressureNet$SlotRunner" "taken" "[I" ∈ gTb := gtb2 41 rfl rfl
theorem gw2_42 : Jvm.Cond.fieldLink "PressureNet$SlotRunner" (22 : Nat) "PressureNet$SlotRunner" "takenPackets" "[I" ∈ gTb := gtb2 42 rfl rfl
theorem gw2_43 : Jvm.Cond.fieldLink "PressureNet$SlotRunner" (25 : Nat) "PressureNet$SlotRunner" "takenShadow" "[I" ∈ gTb := gtb2 43 rfl rfl
theorem gw2_59 : Jvm.Cond.fieldLink "PressureNet$Cut" (9 : Nat) "PressureNet$Cut" "sent" "[I" ∈ gTb := gtb2 59 rfl rfl
theorem gw2_60 : Jvm.Cond.fieldLink "PressureNet$Cut" (15 : Nat) "PressureNet$Cut" "via" "[I" ∈ gTb := gtb2 60 rfl rfl
theorem gw2_61 : Jvm.Cond.fieldLink "PressureNet$Cut" (24 : Nat) "PressureNet$Cut" "packets" "I" ∈ gTb := gtb2 61 rfl rfl
theorem gw2_63 : Jvm.Cond.fieldLink "PressureNet$Cut" (32 : Nat) "PressureNet$Cut" "side" "I" ∈ gTb := gtb2 63 rfl rfl
theorem gw2_78 : Jvm.Cond.methodLink "PressureNet$Net" (46 : Nat) ({ cls := "java/util/Arrays", name := "fill", desc := "([II)V" } : Jvm.MethodName) ∈ gTb := gtb2 78 rfl rfl
theorem gw2_79 : Jvm.Cond.static ({ cls := "java/util/Arrays", name := "fill", desc := "([II)V" } : Jvm.MethodName) ∈ gTb := gtb2 79 rfl rfl
theorem gw2_80 : Jvm.Cond.code ({ cls := "java/util/Arrays", name := "fill", desc := "([II)V" } : Jvm.MethodName) prog_28_method_103_code (4 : Nat) (Option.none : Option Jvm.ClassFile.FieldType) ∈ gTb := gtb2 80 rfl rfl
theorem gw2_81 : Jvm.Cond.methodLinkNest "PressureNet$Net" (52 : Nat) ({ cls := "PressureNet", name := "pair", desc := "(II)I" } : Jvm.MethodName) "PressureNet" ∈ gNw := gnw2 81 rfl rfl
theorem gw2_82 : Jvm.Cond.static ({ cls := "PressureNet", name := "pair", desc := "(II)I" } : Jvm.MethodName) ∈ gTb := gtb2 82 rfl rfl
theorem gw2_83 : Jvm.Cond.code ({ cls := "PressureNet", name := "pair", desc := "(II)I" } : Jvm.MethodName) prog_1_method_56_code (2 : Nat) (Option.some Jvm.ClassFile.FieldType.int) ∈ gTb := gtb2 83 rfl rfl
theorem gw2_88 : Jvm.Cond.methodLink "PressureNet$Net" (60 : Nat) ({ cls := "PressureNet$Net", name := "shortenDistances", desc := "(II)V" } : Jvm.MethodName) ∈ gTb := gtb2 88 rfl rfl
theorem gw2_90 : Jvm.Cond.instanceMethod ({ cls := "PressureNet$Net", name := "shortenDistances", desc := "(II)V" } : Jvm.MethodName) ∈ gTb := gtb2 90 rfl rfl
theorem gw2_91 : Jvm.Cond.code ({ cls := "PressureNet$Net", name := "shortenDistances", desc := "(II)V" } : Jvm.MethodName) prog_4_method_6_code (7 : Nat) (Option.none : Option Jvm.ClassFile.FieldType) ∈ gTb := gtb2 91 rfl rfl
theorem gw2_96 : Jvm.Cond.methodLink "PressureNet$Net" (64 : Nat) ({ cls := "PressureNet$Net", name := "putNumber", desc := "(III)V" } : Jvm.MethodName) ∈ gTb := gtb2 96 rfl rfl
theorem gw2_97 : Jvm.Cond.instanceMethod ({ cls := "PressureNet$Net", name := "putNumber", desc := "(III)V" } : Jvm.MethodName) ∈ gTb := gtb2 97 rfl rfl
theorem gw2_98 : Jvm.Cond.selects "PressureNet$Net" ({ cls := "PressureNet$Net", name := "putNumber", desc := "(III)V" } : Jvm.MethodName) ({ cls := "PressureNet$Net", name := "putNumber", desc := "(III)V" } : Jvm.MethodName) ∈ gTb := gtb2 98 rfl rfl
theorem gw2_99 : Jvm.Cond.code ({ cls := "PressureNet$Net", name := "putNumber", desc := "(III)V" } : Jvm.MethodName) prog_4_method_11_code (4 : Nat) (Option.none : Option Jvm.ClassFile.FieldType) ∈ gTb := gtb2 99 rfl rfl
theorem gw3_40 : Jvm.Cond.methodLink "PressureNet$State" (25 : Nat) ({ cls := "PressureNet$Net", name := "copyFrom", desc := "(LPressureNet$Net;)V" } : Jvm.MethodName) ∈ gTb := gtb3 40 rfl rfl
theorem gw3_41 : Jvm.Cond.instanceMethod ({ cls := "PressureNet$Net", name := "copyFrom", desc := "(LPressureNet$Net;)V" } : Jvm.MethodName) ∈ gTb := gtb3 41 rfl rfl
theorem gw3_42 : Jvm.Cond.selects "PressureNet$Net" ({ cls := "PressureNet$Net", name := "copyFrom", desc := "(LPressureNet$Net;)V" } : Jvm.MethodName) ({ cls := "PressureNet$Net", name := "copyFrom", desc := "(LPressureNet$Net;)V" } : Jvm.MethodName) ∈ gTb := gtb3 42 rfl rfl
theorem gw3_43 : Jvm.Cond.code ({ cls := "PressureNet$Net", name := "copyFrom", desc := "(LPressureNet$Net;)V" } : Jvm.MethodName) prog_4_method_3_code (2 : Nat) (Option.none : Option Jvm.ClassFile.FieldType) ∈ gTb := gtb3 43 rfl rfl
theorem gw3_44 : Jvm.Cond.methodLinkNest "PressureNet$Net" (56 : Nat) ({ cls := "PressureNet", name := "copyRow", desc := "([I[II)V" } : Jvm.MethodName) "PressureNet" ∈ gNw := gnw3 44 rfl rfl
theorem gw3_45 : Jvm.Cond.static ({ cls := "PressureNet", name := "copyRow", desc := "([I[II)V" } : Jvm.MethodName) ∈ gTb := gtb3 45 rfl rfl
theorem gw3_46 : Jvm.Cond.code ({ cls := "PressureNet", name := "copyRow", desc := "([I[II)V" } : Jvm.MethodName) prog_1_method_59_code (3 : Nat) (Option.none : Option Jvm.ClassFile.FieldType) ∈ gTb := gtb3 46 rfl rfl
theorem gw3_47 : Jvm.Cond.methodLink "PressureNet" (347 : Nat) ({ cls := "java/lang/System", name := "arraycopy", desc := "(Ljava/lang/Object;ILjava/lang/Object;II)V" } : Jvm.MethodName) ∈ gTb := gtb3 47 rfl rfl
theorem gw3_48 : Jvm.Cond.static ({ cls := "java/lang/System", name := "arraycopy", desc := "(Ljava/lang/Object;ILjava/lang/Object;II)V" } : Jvm.MethodName) ∈ gTb := gtb3 48 rfl rfl
theorem gw3_49 : Jvm.Cond.native ({ cls := "java/lang/System", name := "arraycopy", desc := "(Ljava/lang/Object;ILjava/lang/Object;II)V" } : Jvm.MethodName) ∈ gTb := gtb3 49 rfl rfl
theorem gw3_50 : Jvm.Cond.methodLink "PressureNet$State" (39 : Nat) ({ cls := "PressureNet$Queues", name := "copyFrom", desc := "(LPressureNet$Queues;)V" } : Jvm.MethodName) ∈ gTb := gtb3 50 rfl rfl
theorem gw3_51 : Jvm.Cond.instanceMethod ({ cls := "PressureNet$Queues", name := "copyFrom", desc := "(LPressureNet$Queues;)V" } : Jvm.MethodName) ∈ gTb := gtb3 51 rfl rfl
theorem gw3_52 : Jvm.Cond.selects "PressureNet$Queues" ({ cls := "PressureNet$Queues", name := "copyFrom", desc := "(LPressureNet$Queues;)V" } : Jvm.MethodName) ({ cls := "PressureNet$Queues", name := "copyFrom", desc := "(LPressureNet$Queues;)V" } : Jvm.MethodName) ∈ gTb := gtb3 52 rfl rfl
theorem gw3_53 : Jvm.Cond.code ({ cls := "PressureNet$Queues", name := "copyFrom", desc := "(LPressureNet$Queues;)V" } : Jvm.MethodName) prog_6_method_3_code (2 : Nat) (Option.none : Option Jvm.ClassFile.FieldType) ∈ gTb := gtb3 53 rfl rfl
theorem gw3_54 : Jvm.Cond.methodLinkNest "PressureNet$Queues" (55 : Nat) ({ cls := "PressureNet", name := "copyRow", desc := "([I[II)V" } : Jvm.MethodName) "PressureNet" ∈ gNw := gnw3 54 rfl rfl
theorem gw3_73 : Jvm.Cond.instanceMethod ({ cls := "PressureNet$Net", name := "getNumber", desc := "(II)I" } : Jvm.MethodName) ∈ gTb := gtb3 73 rfl rfl
theorem gw3_74 : Jvm.Cond.selects "PressureNet$Net" ({ cls := "PressureNet$Net", name := "getNumber", desc := "(II)I" } : Jvm.MethodName) ({ cls := "PressureNet$Net", name := "getNumber", desc := "(II)I" } : Jvm.MethodName) ∈ gTb := gtb3 74 rfl rfl
theorem gw3_75 : Jvm.Cond.code ({ cls := "PressureNet$Net", name := "getNumber", desc := "(II)I" } : Jvm.MethodName) prog_4_method_10_code (3 : Nat) (Option.some Jvm.ClassFile.FieldType.int) ∈ gTb := gtb3 75 rfl rfl
theorem gw3_80 : Jvm.Cond.methodLink "PressureNet$Cut" (18 : Nat) ({ cls := "java/util/Arrays", name := "fill", desc := "([II)V" } : Jvm.MethodName) ∈ gTb := gtb3 80 rfl rfl
theorem gw3_81 : Jvm.Cond.methodLink "PressureNet$Cut" (28 : Nat) ({ cls := "PressureNet$Cut", name := "reach", desc := "(LPressureNet$Net;I)I" } : Jvm.MethodName) ∈ gTb := gtb3 81 rfl rfl
theorem gw3_83 : Jvm.Cond.instanceMethod ({ cls := "PressureNet$Cut", name := "reach", desc := "(LPressureNet$Net;I)I" } : Jvm.MethodName) ∈ gTb := gtb3 83 rfl rfl
theorem gw3_84 : Jvm.Cond.code ({ cls := "PressureNet$Cut", name := "reach", desc := "(LPressureNet$Net;I)I" } : Jvm.MethodName) prog_2_method_3_code (6 : Nat) (Option.some Jvm.ClassFile.FieldType.int) ∈ gTb := gtb3 84 rfl rfl
theorem gw3_85 : Jvm.Cond.methodLink "PressureNet$Cut" (47 : Nat) ({ cls := "PressureNet$Cut", name := "reachOver", desc := "(LPressureNet$Net;II)I" } : Jvm.MethodName) ∈ gTb := gtb3 85 rfl rfl
theorem gw3_87 : Jvm.Cond.instanceMethod ({ cls := "PressureNet$Cut", name := "reachOver", desc := "(LPressureNet$Net;II)I" } : Jvm.MethodName) ∈ gTb := gtb3 87 rfl rfl
theorem gw3_88 : Jvm.Cond.code ({ cls := "PressureNet$Cut", name := "reachOver", desc := "(LPressureNet$Net;II)I" } : Jvm.MethodName) prog_2_method_4_code (8 : Nat) (Option.some Jvm.ClassFile.FieldType.int) ∈ gTb := gtb3 88 rfl rfl
theorem gw3_89 : Jvm.Cond.methodLink "PressureNet$Cut" (35 : Nat) ({ cls := "PressureNet$Cut", name := "sendOne", desc := "(LPressureNet$Net;II)V" } : Jvm.MethodName) ∈ gTb := gtb3 89 rfl rfl
theorem gw3_91 : Jvm.Cond.instanceMethod ({ cls := "PressureNet$Cut", name := "sendOne", desc := "(LPressureNet$Net;II)V" } : Jvm.MethodName) ∈ gTb := gtb3 91 rfl rfl
theorem gw3_92 : Jvm.Cond.code ({ cls := "PressureNet$Cut", name := "sendOne", desc := "(LPressureNet$Net;II)V" } : Jvm.MethodName) prog_2_method_5_code (7 : Nat) (Option.none : Option Jvm.ClassFile.FieldType) ∈ gTb := gtb3 92 rfl rfl
theorem gw3_215 : Jvm.Cond.methodLink "PressureNet$State" (29 : Nat) ({ cls := "PressureNet$Queues", name := "clear", desc := "()V" } : Jvm.MethodName) ∈ gTb := gtb3 215 rfl rfl
theorem gw3_216 : Jvm.Cond.instanceMethod ({ cls := "PressureNet$Queues", name := "clear", desc := "()V" } : Jvm.MethodName) ∈ gTb := gtb3 216 rfl rfl
theorem gw3_217 : Jvm.Cond.selects "PressureNet$Queues" ({ cls := "PressureNet$Queues", name := "clear", desc := "()V" } : Jvm.MethodName) ({ cls := "PressureNet$Queues", name := "clear", desc := "()V" } : Jvm.MethodName) ∈ gTb := gtb3 217 rfl rfl
theorem gw3_218 : Jvm.Cond.code ({ cls := "PressureNet$Queues", name := "clear", desc := "()V" } : Jvm.MethodName) prog_6_method_2_code (1 : Nat) (Option.none : Option Jvm.ClassFile.FieldType) ∈ gTb := gtb3 218 rfl rfl
theorem gw3_219 : Jvm.Cond.methodLink "PressureNet$Queues" (43 : Nat) ({ cls := "java/util/Arrays", name := "fill", desc := "([II)V" } : Jvm.MethodName) ∈ gTb := gtb3 219 rfl rfl
theorem gw4_85 : Jvm.Cond.instanceMethod ({ cls := "PressureNet$State", name := "arrive", desc := "(II)I" } : Jvm.MethodName) ∈ gTb := gtb4 85 rfl rfl
theorem gw4_86 : Jvm.Cond.selects "PressureNet$State" ({ cls := "PressureNet$State", name := "arrive", desc := "(II)I" } : Jvm.MethodName) ({ cls := "PressureNet$State", name := "arrive", desc := "(II)I" } : Jvm.MethodName) ∈ gTb := gtb4 86 rfl rfl
theorem gw4_87 : Jvm.Cond.code ({ cls := "PressureNet$State", name := "arrive", desc := "(II)I" } : Jvm.MethodName) prog_9_method_4_code (7 : Nat) (Option.some Jvm.ClassFile.FieldType.int) ∈ gTb := gtb4 87 rfl rfl
theorem gw4_88 : Jvm.Cond.methodLink "PressureNet$State" (42 : Nat) ({ cls := "PressureNet$Net", name := "getNumber", desc := "(II)I" } : Jvm.MethodName) ∈ gTb := gtb4 88 rfl rfl
theorem gw4_89 : Jvm.Cond.methodLinkNest "PressureNet$State" (46 : Nat) ({ cls := "PressureNet", name := "pair", desc := "(II)I" } : Jvm.MethodName) "PressureNet" ∈ gNw := gnw4 89 rfl rfl
theorem gw4_90 : Jvm.Cond.methodLink "PressureNet$State" (49 : Nat) ({ cls := "PressureNet$Queues", name := "enter", desc := "(IIII)Z" } : Jvm.MethodName) ∈ gTb := gtb4 90 rfl rfl
theorem gw4_91 : Jvm.Cond.instanceMethod ({ cls := "PressureNet$Queues", name := "enter", desc := "(IIII)Z" } : Jvm.MethodName) ∈ gTb := gtb4 91 rfl rfl
theorem gw4_92 : Jvm.Cond.selects "PressureNet$Queues" ({ cls := "PressureNet$Queues", name := "enter", desc := "(IIII)Z" } : Jvm.MethodName) ({ cls := "PressureNet$Queues", name := "enter", desc := "(IIII)Z" } : Jvm.MethodName) ∈ gTb := gtb4 92 rfl rfl
theorem gw4_93 : Jvm.Cond.code ({ cls := "PressureNet$Queues", name := "enter", desc := "(IIII)Z" } : Jvm.MethodName) prog_6_method_4_code (6 : Nat) (Option.some Jvm.ClassFile.FieldType.boolean) ∈ gTb := gtb4 93 rfl rfl
theorem gw4_94 : Jvm.Cond.methodLink "PressureNet$Queues" (59 : Nat) ({ cls := "PressureNet$Queues", name := "putLast", desc := "(II)V" } : Jvm.MethodName) ∈ gTb := gtb4 94 rfl rfl
theorem gw4_95 : Jvm.Cond.instanceMethod ({ cls := "PressureNet$Queues", name := "putLast", desc := "(II)V" } : Jvm.MethodName) ∈ gTb := gtb4 95 rfl rfl
theorem gw4_96 : Jvm.Cond.selects "PressureNet$Queues" ({ cls := "PressureNet$Queues", name := "putLast", desc := "(II)V" } : Jvm.MethodName) ({ cls := "PressureNet$Queues", name := "putLast", desc := "(II)V" } : Jvm.MethodName) ∈ gTb := gtb4 96 rfl rfl
theorem gw4_97 : Jvm.Cond.code ({ cls := "PressureNet$Queues", name := "putLast", desc := "(II)V" } : Jvm.MethodName) prog_6_method_5_code (3 : Nat) (Option.none : Option Jvm.ClassFile.FieldType) ∈ gTb := gtb4 97 rfl rfl
theorem gw4_98 : Jvm.Cond.methodLink "PressureNet$State" (53 : Nat) ({ cls := "PressureNet$Net", name := "addNumber", desc := "(III)V" } : Jvm.MethodName) ∈ gTb := gtb4 98 rfl rfl
theorem gw4_99 : Jvm.Cond.instanceMethod ({ cls := "PressureNet$Net", name := "addNumber", desc := "(III)V" } : Jvm.MethodName) ∈ gTb := gtb4 99 rfl rfl
theorem gw4_100 : Jvm.Cond.selects "PressureNet$Net" ({ cls := "PressureNet$Net", name := "addNumber", desc := "(III)V" } : Jvm.MethodName) ({ cls := "PressureNet$Net", name := "addNumber", desc := "(III)V" } : Jvm.MethodName) ∈ gTb := gtb4 100 rfl rfl
theorem gw4_101 : Jvm.Cond.code ({ cls := "PressureNet$Net", name := "addNumber", desc := "(III)V" } : Jvm.MethodName) prog_4_method_12_code (4 : Nat) (Option.none : Option Jvm.ClassFile.FieldType) ∈ gTb := gtb4 101 rfl rfl
theorem gw4_114 : Jvm.Cond.methodLink "PressureNet$State" (61 : Nat) ({ cls := "PressureNet$Queues", name := "takeBehind", desc := "(II)I" } : Jvm.MethodName) ∈ gTb := gtb4 114 rfl rfl
theorem gw4_115 : Jvm.Cond.instanceMethod ({ cls := "PressureNet$Queues", name := "takeBehind", desc := "(II)I" } : Jvm.MethodName) ∈ gTb := gtb4 115 rfl rfl
theorem gw4_116 : Jvm.Cond.selects "PressureNet$Queues" ({ cls := "PressureNet$Queues", name := "takeBehind", desc := "(II)I" } : Jvm.MethodName) ({ cls := "PressureNet$Queues", name := "takeBehind", desc := "(II)I" } : Jvm.MethodName) ∈ gTb := gtb4 116 rfl rfl
theorem gw4_117 : Jvm.Cond.code ({ cls := "PressureNet$Queues", name := "takeBehind", desc := "(II)I" } : Jvm.MethodName) prog_6_method_6_code (4 : Nat) (Option.some Jvm.ClassFile.FieldType.int) ∈ gTb := gtb4 117 rfl rfl
theorem gw4_118 : Jvm.Cond.methodLink "PressureNet$State" (67 : Nat) ({ cls := "PressureNet$Queues", name := "release", desc := "(I)V" } : Jvm.MethodName) ∈ gTb := gtb4 118 rfl rfl
theorem gw4_119 : Jvm.Cond.instanceMethod ({ cls := "PressureNet$Queues", name := "release", desc := "(I)V" } : Jvm.MethodName) ∈ gTb := gtb4 119 rfl rfl
theorem gw4_120 : Jvm.Cond.selects "PressureNet$Queues" ({ cls := "PressureNet$Queues", name := "release", desc := "(I)V" } : Jvm.MethodName) ({ cls := "PressureNet$Queues", name := "release", desc := "(I)V" } : Jvm.MethodName) ∈ gTb := gtb4 120 rfl rfl
theorem gw4_121 : Jvm.Cond.code ({ cls := "PressureNet$Queues", name := "release", desc := "(I)V" } : Jvm.MethodName) prog_6_method_7_code (2 : Nat) (Option.none : Option Jvm.ClassFile.FieldType) ∈ gTb := gtb4 121 rfl rfl
theorem gw4_141 : Jvm.Cond.methodLink "PressureNet$SlotRunner" (82 : Nat) ({ cls := "PressureNet$Net", name := "getNumber", desc := "(II)I" } : Jvm.MethodName) ∈ gTb := gtb4 141 rfl rfl
theorem gw4_142 : Jvm.Cond.methodLink "PressureNet$SlotRunner" (85 : Nat) ({ cls := "PressureNet$SlotRunner", name := "growth", desc := "(II)I" } : Jvm.MethodName) ∈ gTb := gtb4 142 rfl rfl
theorem gw4_143 : Jvm.Cond.static ({ cls := "PressureNet$SlotRunner", name := "growth", desc := "(II)I" } : Jvm.MethodName) ∈ gTb := gtb4 143 rfl rfl
theorem gw4_144 : Jvm.Cond.code ({ cls := "PressureNet$SlotRunner", name := "growth", desc := "(II)I" } : Jvm.MethodName) prog_8_method_5_code (2 : Nat) (Option.some Jvm.ClassFile.FieldType.int) ∈ gTb := gtb4 144 rfl rfl
theorem gw4_145 : Jvm.Cond.methodLink "PressureNet$SlotRunner" (88 : Nat) ({ cls := "PressureNet$State", name := "arrive", desc := "(II)I" } : Jvm.MethodName) ∈ gTb := gtb4 145 rfl rfl
theorem gw4_146 : Jvm.Cond.methodLinkNest "PressureNet$SlotRunner" (91 : Nat) ({ cls := "PressureNet", name := "pair", desc := "(II)I" } : Jvm.MethodName) "PressureNet" ∈ gNw := gnw4 146 rfl rfl
theorem gw4_155 : Jvm.Cond.methodLinkNest "PressureNet$Plan" (66 : Nat) ({ cls := "PressureNet", name := "pair", desc := "(II)I" } : Jvm.MethodName) "PressureNet" ∈ gNw := gnw4 155 rfl rfl
theorem gw4_156 : Jvm.Cond.methodLink "PressureNet$Plan" (79 : Nat) ({ cls := "java/lang/Math", name := "max", desc := "(II)I" } : Jvm.MethodName) ∈ gTb := gtb4 156 rfl rfl
theorem gw4_157 : Jvm.Cond.static ({ cls := "java/lang/Math", name := "max", desc := "(II)I" } : Jvm.MethodName) ∈ gTb := gtb4 157 rfl rfl
theorem gw4_158 : Jvm.Cond.code ({ cls := "java/lang/Math", name := "max", desc := "(II)I" } : Jvm.MethodName) prog_19_method_65_code (2 : Nat) (Option.some Jvm.ClassFile.FieldType.int) ∈ gTb := gtb4 158 rfl rfl
theorem gw4_173 : Jvm.Cond.methodLink "PressureNet$SlotRunner" (100 : Nat) ({ cls := "PressureNet$SlotRunner", name := "takeFor", desc := "(LPressureNet$State;I)V" } : Jvm.MethodName) ∈ gTb := gtb4 173 rfl rfl
theorem gw4_175 : Jvm.Cond.instanceMethod ({ cls := "PressureNet$SlotRunner", name := "takeFor", desc := "(LPressureNet$State;I)V" } : Jvm.MethodName) ∈ gTb := gtb4 175 rfl rfl
theorem gw4_176 : Jvm.Cond.code ({ cls := "PressureNet$SlotRunner", name := "takeFor", desc := "(LPressureNet$State;I)V" } : Jvm.MethodName) prog_8_method_7_code (7 : Nat) (Option.none : Option Jvm.ClassFile.FieldType) ∈ gTb := gtb4 176 rfl rfl
theorem gw4_177 : Jvm.Cond.methodLink "PressureNet$SlotRunner" (118 : Nat) ({ cls := "java/lang/Math", name := "min", desc := "(II)I" } : Jvm.MethodName) ∈ gTb := gtb4 177 rfl rfl
theorem gw4_178 : Jvm.Cond.static ({ cls := "java/lang/Math", name := "min", desc := "(II)I" } : Jvm.MethodName) ∈ gTb := gtb4 178 rfl rfl
theorem gw4_179 : Jvm.Cond.code ({ cls := "java/lang/Math", name := "min", desc := "(II)I" } : Jvm.MethodName) prog_19_method_69_code (2 : Nat) (Option.some Jvm.ClassFile.FieldType.int) ∈ gTb := gtb4 179 rfl rfl
theorem gw4_180 : Jvm.Cond.methodLink "PressureNet$SlotRunner" (121 : Nat) ({ cls := "PressureNet$Queues", name := "takeBehind", desc := "(II)I" } : Jvm.MethodName) ∈ gTb := gtb4 180 rfl rfl
theorem gw4_181 : Jvm.Cond.methodLink "PressureNet$SlotRunner" (103 : Nat) ({ cls := "PressureNet$SlotRunner", name := "bringOver", desc := "(LPressureNet$State;I)V" } : Jvm.MethodName) ∈ gTb := gtb4 181 rfl rfl
theorem gw4_183 : Jvm.Cond.instanceMethod ({ cls := "PressureNet$SlotRunner", name := "bringOver", desc := "(LPressureNet$State;I)V" } : Jvm.MethodName) ∈ gTb := gtb4 183 rfl rfl
theorem gw4_184 : Jvm.Cond.code ({ cls := "PressureNet$SlotRunner", name := "bringOver", desc := "(LPressureNet$State;I)V" } : Jvm.MethodName) prog_8_method_8_code (8 : Nat) (Option.none : Option Jvm.ClassFile.FieldType) ∈ gTb := gtb4 184 rfl rfl
theorem gw4_185 : Jvm.Cond.methodLink "PressureNet$SlotRunner" (130 : Nat) ({ cls := "PressureNet$SlotRunner", name := "deliver", desc := "(LPressureNet$State;I)V" } : Jvm.MethodName) ∈ gTb := gtb4 185 rfl rfl
theorem gw4_186 : Jvm.Cond.static ({ cls := "PressureNet$SlotRunner", name := "deliver", desc := "(LPressureNet$State;I)V" } : Jvm.MethodName) ∈ gTb := gtb4 186 rfl rfl
theorem gw4_187 : Jvm.Cond.code ({ cls := "PressureNet$SlotRunner", name := "deliver", desc := "(LPressureNet$State;I)V" } : Jvm.MethodName) prog_8_method_9_code (5 : Nat) (Option.none : Option Jvm.ClassFile.FieldType) ∈ gTb := gtb4 187 rfl rfl
theorem gw4_188 : Jvm.Cond.methodLink "PressureNet$SlotRunner" (143 : Nat) ({ cls := "PressureNet$Net", name := "addNumber", desc := "(III)V" } : Jvm.MethodName) ∈ gTb := gtb4 188 rfl rfl
theorem gw4_189 : Jvm.Cond.methodLink "PressureNet$SlotRunner" (76 : Nat) ({ cls := "java/lang/Math", name := "max", desc := "(II)I" } : Jvm.MethodName) ∈ gTb := gtb4 189 rfl rfl
theorem gw4_190 : Jvm.Cond.methodLink "PressureNet$SlotRunner" (147 : Nat) ({ cls := "PressureNet$Net", name := "putNumber", desc := "(III)V" } : Jvm.MethodName) ∈ gTb := gtb4 190 rfl rfl
theorem gw4_191 : Jvm.Cond.methodLink "PressureNet$SlotRunner" (150 : Nat) ({ cls := "PressureNet$Queues", name := "release", desc := "(I)V" } : Jvm.MethodName) ∈ gTb := gtb4 191 rfl rfl
theorem gw4_192 : Jvm.Cond.methodLink "PressureNet$SlotRunner" (133 : Nat) ({ cls := "PressureNet$SlotRunner", name := "pass", desc := "(LPressureNet$State;III)V" } : Jvm.MethodName) ∈ gTb := gtb4 192 rfl rfl
theorem gw4_193 : Jvm.Cond.static ({ cls := "PressureNet$SlotRunner", name := "pass", desc := "(LPressureNet$State;III)V" } : Jvm.MethodName) ∈ gTb := gtb4 193 rfl rfl
theorem gw4_194 : Jvm.Cond.code ({ cls := "PressureNet$SlotRunner", name := "pass", desc := "(LPressureNet$State;III)V" } : Jvm.MethodName) prog_8_method_10_code (5 : Nat) (Option.none : Option Jvm.ClassFile.FieldType) ∈ gTb := gtb4 194 rfl rfl
theorem gw4_195 : Jvm.Cond.methodLink "PressureNet$SlotRunner" (160 : Nat) ({ cls := "PressureNet$Queues", name := "putLast", desc := "(II)V" } : Jvm.MethodName) ∈ gTb := gtb4 195 rfl rfl
theorem gw4_200 : Jvm.Cond.methodLink "PressureNet$State" (87 : Nat) ({ cls := "PressureNet$Net", name := "hasBudget", desc := "()Z" } : Jvm.MethodName) ∈ gTb := gtb4 200 rfl rfl
theorem gw4_201 : Jvm.Cond.instanceMethod ({ cls := "PressureNet$Net", name := "hasBudget", desc := "()Z" } : Jvm.MethodName) ∈ gTb := gtb4 201 rfl rfl
theorem gw4_202 : Jvm.Cond.selects "PressureNet$Net" ({ cls := "PressureNet$Net", name := "hasBudget", desc := "()Z" } : Jvm.MethodName) ({ cls := "PressureNet$Net", name := "hasBudget", desc := "()Z" } : Jvm.MethodName) ∈ gTb := gtb4 202 rfl rfl
theorem gw4_203 : Jvm.Cond.code ({ cls := "PressureNet$Net", name := "hasBudget", desc := "()Z" } : Jvm.MethodName) prog_4_method_14_code (2 : Nat) (Option.some Jvm.ClassFile.FieldType.boolean) ∈ gTb := gtb4 203 rfl rfl
theorem gw4_204 : Jvm.Cond.methodLink "PressureNet$Net" (68 : Nat) ({ cls := "PressureNet$Net", name := "getNumber", desc := "(II)I" } : Jvm.MethodName) ∈ gTb := gtb4 204 rfl rfl
theorem gw4_205 : Jvm.Cond.methodLink "PressureNet$State" (91 : Nat) ({ cls := "PressureNet$State", name := "expireIn", desc := "(I)V" } : Jvm.MethodName) ∈ gTb := gtb4 205 rfl rfl
theorem gw4_207 : Jvm.Cond.instanceMethod ({ cls := "PressureNet$State", name := "expireIn", desc := "(I)V" } : Jvm.MethodName) ∈ gTb := gtb4 207 rfl rfl
theorem gw4_208 : Jvm.Cond.code ({ cls := "PressureNet$State", name := "expireIn", desc := "(I)V" } : Jvm.MethodName) prog_9_method_9_code (8 : Nat) (Option.none : Option Jvm.ClassFile.FieldType) ∈ gTb := gtb4 208 rfl rfl
theorem gw4_209 : Jvm.Cond.methodLink "PressureNet$State" (77 : Nat) ({ cls := "PressureNet$State", name := "deadline", desc := "(I)I" } : Jvm.MethodName) ∈ gTb := gtb4 209 rfl rfl
theorem gw4_211 : Jvm.Cond.instanceMethod ({ cls := "PressureNet$State", name := "deadline", desc := "(I)I" } : Jvm.MethodName) ∈ gTb := gtb4 211 rfl rfl
theorem gw4_212 : Jvm.Cond.code ({ cls := "PressureNet$State", name := "deadline", desc := "(I)I" } : Jvm.MethodName) prog_9_method_6_code (3 : Nat) (Option.some Jvm.ClassFile.FieldType.int) ∈ gTb := gtb4 212 rfl rfl
theorem gw5_16 : Jvm.Cond.methodLink "PressureNet$Plan" (88 : Nat) ({ cls := "java/lang/Math", name := "min", desc := "(II)I" } : Jvm.MethodName) ∈ gTb := gtb5 16 rfl rfl
/-! the fields of the classes lie as the tables say -/
theorem gin_0 : ∀ w ∈ u_ws RX0 TX0 4, w ∈ gTb := fun w h => gTb_of (List.mem_append_right _ (of_decide_eq_true (Bool.and_eq_true_iff.mp (List.all_eq_true.mp (show (u_ws RX0 TX0 4).all (fun w => decide (w ∈ tables_1) && goodWord w) = true by decide +kernel) w h)).1)) (Bool.and_eq_true_iff.mp (List.all_eq_true.mp (show (u_ws RX0 TX0 4).all (fun w => decide (w ∈ tables_1) && goodWord w) = true by decide +kernel) w h)).2
theorem gin_1 : ∀ w ∈ u_ws RX1 TX1 2, w ∈ gTb := fun w h => gTb_of (List.mem_append_right _ (of_decide_eq_true (Bool.and_eq_true_iff.mp (List.all_eq_true.mp (show (u_ws RX1 TX1 2).all (fun w => decide (w ∈ tables_1) && goodWord w) = true by decide +kernel) w h)).1)) (Bool.and_eq_true_iff.mp (List.all_eq_true.mp (show (u_ws RX1 TX1 2).all (fun w => decide (w ∈ tables_1) && goodWord w) = true by decide +kernel) w h)).2
theorem gin_2 : ∀ w ∈ u_ws RX2 TX2 11, w ∈ gTb := fun w h => gTb_of (List.mem_append_right _ (of_decide_eq_true (Bool.and_eq_true_iff.mp (List.all_eq_true.mp (show (u_ws RX2 TX2 11).all (fun w => decide (w ∈ tables_1) && goodWord w) = true by decide +kernel) w h)).1)) (Bool.and_eq_true_iff.mp (List.all_eq_true.mp (show (u_ws RX2 TX2 11).all (fun w => decide (w ∈ tables_1) && goodWord w) = true by decide +kernel) w h)).2
theorem gin_3 : ∀ w ∈ u_ws RX3 TX3 2, w ∈ gTb := fun w h => gTb_of (List.mem_append_right _ (of_decide_eq_true (Bool.and_eq_true_iff.mp (List.all_eq_true.mp (show (u_ws RX3 TX3 2).all (fun w => decide (w ∈ tables_1) && goodWord w) = true by decide +kernel) w h)).1)) (Bool.and_eq_true_iff.mp (List.all_eq_true.mp (show (u_ws RX3 TX3 2).all (fun w => decide (w ∈ tables_1) && goodWord w) = true by decide +kernel) w h)).2
theorem gin_4 : ∀ w ∈ u_ws RX4 TX4 12, w ∈ gTb := fun w h => gTb_of (List.mem_append_right _ (of_decide_eq_true (Bool.and_eq_true_iff.mp (List.all_eq_true.mp (show (u_ws RX4 TX4 12).all (fun w => decide (w ∈ tables_1) && goodWord w) = true by decide +kernel) w h)).1)) (Bool.and_eq_true_iff.mp (List.all_eq_true.mp (show (u_ws RX4 TX4 12).all (fun w => decide (w ∈ tables_1) && goodWord w) = true by decide +kernel) w h)).2
theorem gin_5 : ∀ w ∈ u_ws RX5 TX5 9, w ∈ gTb := fun w h => gTb_of (List.mem_append_right _ (of_decide_eq_true (Bool.and_eq_true_iff.mp (List.all_eq_true.mp (show (u_ws RX5 TX5 9).all (fun w => decide (w ∈ tables_1) && goodWord w) = true by decide +kernel) w h)).1)) (Bool.and_eq_true_iff.mp (List.all_eq_true.mp (show (u_ws RX5 TX5 9).all (fun w => decide (w ∈ tables_1) && goodWord w) = true by decide +kernel) w h)).2
theorem gin_6 : ∀ w ∈ u_ws RX6 TX6 4, w ∈ gTb := fun w h => gTb_of (List.mem_append_right _ (of_decide_eq_true (Bool.and_eq_true_iff.mp (List.all_eq_true.mp (show (u_ws RX6 TX6 4).all (fun w => decide (w ∈ tables_1) && goodWord w) = true by decide +kernel) w h)).1)) (Bool.and_eq_true_iff.mp (List.all_eq_true.mp (show (u_ws RX6 TX6 4).all (fun w => decide (w ∈ tables_1) && goodWord w) = true by decide +kernel) w h)).2
theorem gin_7 : ∀ w ∈ u_ws RX7 TX7 4, w ∈ gTb := fun w h => gTb_of (List.mem_append_right _ (of_decide_eq_true (Bool.and_eq_true_iff.mp (List.all_eq_true.mp (show (u_ws RX7 TX7 4).all (fun w => decide (w ∈ tables_1) && goodWord w) = true by decide +kernel) w h)).1)) (Bool.and_eq_true_iff.mp (List.all_eq_true.mp (show (u_ws RX7 TX7 4).all (fun w => decide (w ∈ tables_1) && goodWord w) = true by decide +kernel) w h)).2
theorem gin_8 : ∀ w ∈ u_ws RX8 TX8 8, w ∈ gTb := fun w h => gTb_of (List.mem_append_right _ (of_decide_eq_true (Bool.and_eq_true_iff.mp (List.all_eq_true.mp (show (u_ws RX8 TX8 8).all (fun w => decide (w ∈ tables_1) && goodWord w) = true by decide +kernel) w h)).1)) (Bool.and_eq_true_iff.mp (List.all_eq_true.mp (show (u_ws RX8 TX8 8).all (fun w => decide (w ∈ tables_1) && goodWord w) = true by decide +kernel) w h)).2
theorem gin_9 : ∀ w ∈ u_ws RX9 TX9 32, w ∈ gTb := fun w h => gTb_of (List.mem_append_right _ (of_decide_eq_true (Bool.and_eq_true_iff.mp (List.all_eq_true.mp (show (u_ws RX9 TX9 32).all (fun w => decide (w ∈ tables_1) && goodWord w) = true by decide +kernel) w h)).1)) (Bool.and_eq_true_iff.mp (List.all_eq_true.mp (show (u_ws RX9 TX9 32).all (fun w => decide (w ∈ tables_1) && goodWord w) = true by decide +kernel) w h)).2
