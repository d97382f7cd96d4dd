theorem gnw_of {w : Cond} (h : w ∈ tables_1) (hg : gIsNw w = true) : w ∈ gNw := List.mem_filter.mpr ⟨h, hg⟩
theorem gnw1 {w : Cond} (i : Nat) (h : tables_1_1[i]? = some w) (hg : gIsNw w = true) : w ∈ gNw := gnw_of (List.mem_append_left _ (List.mem_of_getElem? h)) hg
theorem gnw2 {w : Cond} (i : Nat) (h : tables_1_2[i]? = some w) (hg : gIsNw w = true) : w ∈ gNw := gnw_of (List.mem_append_right _ (List.mem_append_left _ (List.mem_of_getElem? h))) hg
theorem gnw3 {w : Cond} (i : Nat) (h : tables_1_3[i]? = some w) (hg : gIsNw w = true) : w ∈ gNw := gnw_of (List.mem_append_right _ (List.mem_append_right _ (List.mem_append_left _ (List.mem_of_getElem? h)))) hg
theorem gnw4 {w : Cond} (i : Nat) (h : tables_1_4[i]? = some w) (hg : gIsNw w = true) : w ∈ gNw := gnw_of (List.mem_append_right _ (List.mem_append_right _ (List.mem_append_right _ (List.mem_append_left _ (List.mem_of_getElem? h))))) hg
theorem gnw5 {w : Cond} (i : Nat) (h : tables_1_5[i]? = some w) (hg : gIsNw w = true) : w ∈ gNw := gnw_of (List.mem_append_right _ (List.mem_append_right _ (List.mem_append_right _ (List.mem_append_right _ (List.mem_append_left _ (List.mem_of_getElem? h)))))) hg
theorem gnw6 {w : Cond} (i : Nat) (h : tables_1_6[i]? = some w) (hg : gIsNw w = true) : w ∈ gNw := gnw_of (List.mem_append_right _ (List.mem_append_right _ (List.mem_append_right _ (List.mem_append_right _ (List.mem_append_right _ (List.mem_append_left _ (List.mem_of_getElem? h))))))) hg
theorem gnw7 {w : Cond} (i : Nat) (h : tables_1_7[i]? = some w) (hg : gIsNw w = true) : w ∈ gNw := gnw_of (List.mem_append_right _ (List.mem_append_right _ (List.mem_append_right _ (List.mem_append_right _ (List.mem_append_right _ (List.mem_append_right _ (List.mem_append_left _ (List.mem_of_getElem? h)))))))) hg
theorem gnw8 {w : Cond} (i : Nat) (h : tables_1_8[i]? = some w) (hg : gIsNw w = true) : w ∈ gNw := gnw_of (List.mem_append_right _ (List.mem_append_right _ (List.mem_append_right _ (List.mem_append_right _ (List.mem_append_right _ (List.mem_append_right _ (List.mem_append_right _ (List.mem_of_getElem? h)))))))) hg
/-! words of the tables, by their places -/
theorem gw0_0 : Cond.selects "PressureNet$Net" ⟨"PressureNet$Net", "shortenDistances", "(II)V"⟩ ⟨"PressureNet$Net", "shortenDistances", "(II)V"⟩ ∈ gTb := gtb0 0 rfl rfl
theorem gw0_1 : Cond.selects "PressureNet$SetupText" ⟨"PressureNet$SetupText", "nextToken", "()V"⟩ ⟨"PressureNet$SetupText", "nextToken", "()V"⟩ ∈ gTb := gtb0 1 rfl rfl
theorem gw0_2 : Cond.selects "PressureNet$SetupText" ⟨"PressureNet$SetupText", "readNodes", "()Z"⟩ ⟨"PressureNet$SetupText", "readNodes", "()Z"⟩ ∈ gTb := gtb0 2 rfl rfl
theorem gw0_3 : Cond.selects "PressureNet$SetupText" ⟨"PressureNet$SetupText", "isWord", "(Ljava/lang/String;)Z"⟩ ⟨"PressureNet$SetupText", "isWord", "(Ljava/lang/String;)Z"⟩ ∈ gTb := gtb0 3 rfl rfl
theorem gw0_4 : Cond.selects "PressureNet$SetupText" ⟨"PressureNet$SetupText", "isNumber", "(II)Z"⟩ ⟨"PressureNet$SetupText", "isNumber", "(II)Z"⟩ ∈ gTb := gtb0 4 rfl rfl
theorem gw0_5 : Cond.selects "PressureNet$SetupText" ⟨"PressureNet$SetupText", "isSemicolon", "()Z"⟩ ⟨"PressureNet$SetupText", "isSemicolon", "()Z"⟩ ∈ gTb := gtb0 5 rfl rfl
theorem gw0_6 : Cond.selects "PressureNet$SetupText" ⟨"PressureNet$SetupText", "readStatement", "()Z"⟩ ⟨"PressureNet$SetupText", "readStatement", "()Z"⟩ ∈ gTb := gtb0 6 rfl rfl
theorem gw0_7 : Cond.selects "PressureNet$SetupText" ⟨"PressureNet$SetupText", "readLink", "()Z"⟩ ⟨"PressureNet$SetupText", "readLink", "()Z"⟩ ∈ gTb := gtb0 7 rfl rfl
theorem gw0_8 : Cond.selects "PressureNet$SetupText" ⟨"PressureNet$SetupText", "readConflict", "()Z"⟩ ⟨"PressureNet$SetupText", "readConflict", "()Z"⟩ ∈ gTb := gtb0 8 rfl rfl
theorem gw0_9 : Cond.selects "PressureNet$SetupText" ⟨"PressureNet$SetupText", "readFlow", "()Z"⟩ ⟨"PressureNet$SetupText", "readFlow", "()Z"⟩ ∈ gTb := gtb0 9 rfl rfl
theorem gw0_10 : Cond.selects "PressureNet$SetupText" ⟨"PressureNet$SetupText", "readBudget", "(I)Z"⟩ ⟨"PressureNet$SetupText", "readBudget", "(I)Z"⟩ ∈ gTb := gtb0 10 rfl rfl
theorem gw0_11 : Cond.selects "PressureNet$SetupText" ⟨"PressureNet$SetupText", "readChoice", "(ILjava/lang/String;Ljava/lang/String;)Z"⟩ ⟨"PressureNet$SetupText", "readChoice", "(ILjava/lang/String;Ljava/lang/String;)Z"⟩ ∈ gTb := gtb0 11 rfl rfl
theorem gw0_12 : Cond.selects "PressureNet$SetupText" ⟨"PressureNet$SetupText", "beginSetting", "(I)Z"⟩ ⟨"PressureNet$SetupText", "beginSetting", "(I)Z"⟩ ∈ gTb := gtb0 12 rfl rfl
theorem gw0_13 : Cond.selects "PressureNet$SetupText" ⟨"PressureNet$SetupText", "readSetting", "(I)Z"⟩ ⟨"PressureNet$SetupText", "readSetting", "(I)Z"⟩ ∈ gTb := gtb0 13 rfl rfl
theorem gw0_14 : Cond.selects "PressureNet$Cut" ⟨"PressureNet$Cut", "reach", "(LPressureNet$Net;I)I"⟩ ⟨"PressureNet$Cut", "reach", "(LPressureNet$Net;I)I"⟩ ∈ gTb := gtb0 14 rfl rfl
theorem gw0_15 : Cond.selects "PressureNet$Cut" ⟨"PressureNet$Cut", "reachOver", "(LPressureNet$Net;II)I"⟩ ⟨"PressureNet$Cut", "reachOver", "(LPressureNet$Net;II)I"⟩ ∈ gTb := gtb0 15 rfl rfl
theorem gw0_16 : Cond.selects "PressureNet$Cut" ⟨"PressureNet$Cut", "sendOne", "(LPressureNet$Net;II)V"⟩ ⟨"PressureNet$Cut", "sendOne", "(LPressureNet$Net;II)V"⟩ ∈ gTb := gtb0 16 rfl rfl
theorem gw0_18 : Cond.selects "PressureNet" ⟨"PressureNet", "checkTwoNodes", "(II)V"⟩ ⟨"PressureNet", "checkTwoNodes", "(II)V"⟩ ∈ gTb := gtb0 18 rfl rfl
theorem gw0_19 : Cond.selects "PressureNet" ⟨"PressureNet", "checkNode", "(I)V"⟩ ⟨"PressureNet", "checkNode", "(I)V"⟩ ∈ gTb := gtb0 19 rfl rfl
theorem gw0_20 : Cond.selects "PressureNet" ⟨"PressureNet", "checkLink", "(I)V"⟩ ⟨"PressureNet", "checkLink", "(I)V"⟩ ∈ gTb := gtb0 20 rfl rfl
theorem gw0_21 : Cond.selects "PressureNet" ⟨"PressureNet", "checkFlow", "(I)V"⟩ ⟨"PressureNet", "checkFlow", "(I)V"⟩ ∈ gTb := gtb0 21 rfl rfl
theorem gw0_22 : Cond.selects "PressureNet" ⟨"PressureNet", "replaceNumber", "(III)I"⟩ ⟨"PressureNet", "replaceNumber", "(III)I"⟩ ∈ gTb := gtb0 22 rfl rfl
theorem gw0_23 : Cond.selects "PressureNet$Plan" ⟨"PressureNet$Plan", "weigh", "(LPressureNet$State;I)V"⟩ ⟨"PressureNet$Plan", "weigh", "(LPressureNet$State;I)V"⟩ ∈ gTb := gtb0 23 rfl rfl
theorem gw0_24 : Cond.selects "PressureNet$Plan" ⟨"PressureNet$Plan", "greediest", "(ILPressureNet$Net;)I"⟩ ⟨"PressureNet$Plan", "greediest", "(ILPressureNet$Net;)I"⟩ ∈ gTb := gtb0 24 rfl rfl
theorem gw0_25 : Cond.selects "PressureNet$SlotRunner" ⟨"PressureNet$SlotRunner", "transmit", "(LPressureNet$State;I)V"⟩ ⟨"PressureNet$SlotRunner", "transmit", "(LPressureNet$State;I)V"⟩ ∈ gTb := gtb0 25 rfl rfl
theorem gw0_26 : Cond.selects "PressureNet$SlotRunner" ⟨"PressureNet$SlotRunner", "takeFor", "(LPressureNet$State;I)V"⟩ ⟨"PressureNet$SlotRunner", "takeFor", "(LPressureNet$State;I)V"⟩ ∈ gTb := gtb0 26 rfl rfl
theorem gw0_27 : Cond.selects "PressureNet$SlotRunner" ⟨"PressureNet$SlotRunner", "bringOver", "(LPressureNet$State;I)V"⟩ ⟨"PressureNet$SlotRunner", "bringOver", "(LPressureNet$State;I)V"⟩ ∈ gTb := gtb0 27 rfl rfl
theorem gw0_28 : Cond.selects "PressureNet$State" ⟨"PressureNet$State", "expireIn", "(I)V"⟩ ⟨"PressureNet$State", "expireIn", "(I)V"⟩ ∈ gTb := gtb0 28 rfl rfl
theorem gw0_29 : Cond.selects "PressureNet$State" ⟨"PressureNet$State", "deadline", "(I)I"⟩ ⟨"PressureNet$State", "deadline", "(I)I"⟩ ∈ gTb := gtb0 29 rfl rfl
theorem gw0_30 : Cond.selects "PressureNet" ⟨"PressureNet", "plannedNumber", "(II)I"⟩ ⟨"PressureNet", "plannedNumber", "(II)I"⟩ ∈ gTb := gtb0 30 rfl rfl
theorem gw0_31 : Cond.selects "PressureNet" ⟨"PressureNet", "staysSmall", "(III)Z"⟩ ⟨"PressureNet", "staysSmall", "(III)Z"⟩ ∈ gTb := gtb0 31 rfl rfl
theorem gw0_32 : Cond.selects "PressureNetModel" ⟨"PressureNetModel", "begin", "()V"⟩ ⟨"PressureNetModel", "begin", "()V"⟩ ∈ gTb := gtb0 32 rfl rfl
theorem gw0_33 : Cond.selects "PressureNetModel" ⟨"PressureNetModel", "takeRead", "()V"⟩ ⟨"PressureNetModel", "takeRead", "()V"⟩ ∈ gTb := gtb0 33 rfl rfl
theorem gw0_34 : Cond.selects "PressureNetModel" ⟨"PressureNetModel", "fails", "(ZI)Z"⟩ ⟨"PressureNetModel", "fails", "(ZI)Z"⟩ ∈ gTb := gtb0 34 rfl rfl
theorem gw0_35 : Cond.selects "PressureNetModel" ⟨"PressureNetModel", "parse", "()I"⟩ ⟨"PressureNetModel", "parse", "()I"⟩ ∈ gTb := gtb0 35 rfl rfl
theorem gw0_36 : Cond.selects "PressureNetModel" ⟨"PressureNetModel", "step", "()V"⟩ ⟨"PressureNetModel", "step", "()V"⟩ ∈ gTb := gtb0 36 rfl rfl
theorem gw0_37 : Cond.selects "PressureNetModel" ⟨"PressureNetModel", "peek", "(I)I"⟩ ⟨"PressureNetModel", "peek", "(I)I"⟩ ∈ gTb := gtb0 37 rfl rfl
theorem gw0_38 : Cond.selects "PressureNetModel" ⟨"PressureNetModel", "isWord", "(Ljava/lang/String;)Z"⟩ ⟨"PressureNetModel", "isWord", "(Ljava/lang/String;)Z"⟩ ∈ gTb := gtb0 38 rfl rfl
theorem gw0_39 : Cond.selects "PressureNetModel" ⟨"PressureNetModel", "isGood", "()Z"⟩ ⟨"PressureNetModel", "isGood", "()Z"⟩ ∈ gTb := gtb0 39 rfl rfl
theorem gw0_40 : Cond.selects "PressureNetModel" ⟨"PressureNetModel", "takeNumber", "(II)I"⟩ ⟨"PressureNetModel", "takeNumber", "(II)I"⟩ ∈ gTb := gtb0 40 rfl rfl
theorem gw0_41 : Cond.selects "PressureNetModel" ⟨"PressureNetModel", "isNumber", "(II)Z"⟩ ⟨"PressureNetModel", "isNumber", "(II)Z"⟩ ∈ gTb := gtb0 41 rfl rfl
theorem gw0_42 : Cond.selects "PressureNetModel" ⟨"PressureNetModel", "fail", "()V"⟩ ⟨"PressureNetModel", "fail", "()V"⟩ ∈ gTb := gtb0 42 rfl rfl
theorem gw0_43 : Cond.selects "PressureNetModel" ⟨"PressureNetModel", "readStatement", "()V"⟩ ⟨"PressureNetModel", "readStatement", "()V"⟩ ∈ gTb := gtb0 43 rfl rfl
theorem gw0_44 : Cond.selects "PressureNetModel" ⟨"PressureNetModel", "linkStatement", "()V"⟩ ⟨"PressureNetModel", "linkStatement", "()V"⟩ ∈ gTb := gtb0 44 rfl rfl
theorem gw0_45 : Cond.selects "PressureNetModel" ⟨"PressureNetModel", "takeNode", "()I"⟩ ⟨"PressureNetModel", "takeNode", "()I"⟩ ∈ gTb := gtb0 45 rfl rfl
theorem gw0_46 : Cond.selects "PressureNetModel" ⟨"PressureNetModel", "takeOther", "(III)I"⟩ ⟨"PressureNetModel", "takeOther", "(III)I"⟩ ∈ gTb := gtb0 46 rfl rfl
theorem gw0_47 : Cond.selects "PressureNetModel" ⟨"PressureNetModel", "conflictStatement", "()V"⟩ ⟨"PressureNetModel", "conflictStatement", "()V"⟩ ∈ gTb := gtb0 47 rfl rfl
theorem gw0_48 : Cond.selects "PressureNetModel" ⟨"PressureNetModel", "flowStatement", "()V"⟩ ⟨"PressureNetModel", "flowStatement", "()V"⟩ ∈ gTb := gtb0 48 rfl rfl
theorem gw0_49 : Cond.selects "PressureNetModel" ⟨"PressureNetModel", "once", "(Ljava/lang/String;I)Z"⟩ ⟨"PressureNetModel", "once", "(Ljava/lang/String;I)Z"⟩ ∈ gTb := gtb0 49 rfl rfl
theorem gw0_50 : Cond.selects "PressureNetModel" ⟨"PressureNetModel", "takeWord", "(Ljava/lang/String;Ljava/lang/String;)I"⟩ ⟨"PressureNetModel", "takeWord", "(Ljava/lang/String;Ljava/lang/String;)I"⟩ ∈ gTb := gtb0 50 rfl rfl
theorem gw0_51 : Cond.selects "PressureNetModel" ⟨"PressureNetModel", "areNodes", "(II)Z"⟩ ⟨"PressureNetModel", "areNodes", "(II)Z"⟩ ∈ gTb := gtb0 51 rfl rfl
theorem gw0_52 : Cond.selects "PressureNetModel" ⟨"PressureNetModel", "isNode", "(I)Z"⟩ ⟨"PressureNetModel", "isNode", "(I)Z"⟩ ∈ gTb := gtb0 52 rfl rfl
theorem gw0_53 : Cond.selects "PressureNetModel" ⟨"PressureNetModel", "record", "()V"⟩ ⟨"PressureNetModel", "record", "()V"⟩ ∈ gTb := gtb0 53 rfl rfl
theorem gw0_54 : Cond.selects "PressureNetModel" ⟨"PressureNetModel", "isLink", "(I)Z"⟩ ⟨"PressureNetModel", "isLink", "(I)Z"⟩ ∈ gTb := gtb0 54 rfl rfl
theorem gw0_55 : Cond.selects "PressureNetModel" ⟨"PressureNetModel", "become", "(II)I"⟩ ⟨"PressureNetModel", "become", "(II)I"⟩ ∈ gTb := gtb0 55 rfl rfl
theorem gw0_56 : Cond.selects "PressureNetModel" ⟨"PressureNetModel", "isFlow", "(I)Z"⟩ ⟨"PressureNetModel", "isFlow", "(I)Z"⟩ ∈ gTb := gtb0 56 rfl rfl
theorem gw0_57 : Cond.selects "PressureNetModel" ⟨"PressureNetModel", "arrive", "(II)I"⟩ ⟨"PressureNetModel", "arrive", "(II)I"⟩ ∈ gTb := gtb0 57 rfl rfl
theorem gw0_58 : Cond.selects "PressureNetModel" ⟨"PressureNetModel", "count", "(III)V"⟩ ⟨"PressureNetModel", "count", "(III)V"⟩ ∈ gTb := gtb0 58 rfl rfl
theorem gw0_59 : Cond.selects "PressureNetModel" ⟨"PressureNetModel", "flowPart", "(II)I"⟩ ⟨"PressureNetModel", "flowPart", "(II)I"⟩ ∈ gTb := gtb0 59 rfl rfl
theorem gw0_60 : Cond.selects "PressureNetModel" ⟨"PressureNetModel", "come", "(IIIII)V"⟩ ⟨"PressureNetModel", "come", "(IIIII)V"⟩ ∈ gTb := gtb0 60 rfl rfl
theorem gw0_61 : Cond.selects "PressureNetModel" ⟨"PressureNetModel", "stayAll", "()V"⟩ ⟨"PressureNetModel", "stayAll", "()V"⟩ ∈ gTb := gtb0 61 rfl rfl
theorem gw0_62 : Cond.selects "PressureNetModel" ⟨"PressureNetModel", "isQueued", "(III)Z"⟩ ⟨"PressureNetModel", "isQueued", "(III)Z"⟩ ∈ gTb := gtb0 62 rfl rfl
theorem gw0_63 : Cond.selects "PressureNetModel" ⟨"PressureNetModel", "packetPart", "(II)I"⟩ ⟨"PressureNetModel", "packetPart", "(II)I"⟩ ∈ gTb := gtb0 63 rfl rfl
theorem gw0_64 : Cond.selects "PressureNetModel" ⟨"PressureNetModel", "goalOf", "(I)I"⟩ ⟨"PressureNetModel", "goalOf", "(I)I"⟩ ∈ gTb := gtb0 64 rfl rfl
theorem gw0_65 : Cond.selects "PressureNetModel" ⟨"PressureNetModel", "closeUp", "()I"⟩ ⟨"PressureNetModel", "closeUp", "()I"⟩ ∈ gTb := gtb0 65 rfl rfl
theorem gw0_66 : Cond.selects "PressureNetModel" ⟨"PressureNetModel", "shadows", "(Z)J"⟩ ⟨"PressureNetModel", "shadows", "(Z)J"⟩ ∈ gTb := gtb0 66 rfl rfl
theorem gw0_67 : Cond.selects "PressureNetModel" ⟨"PressureNetModel", "slots", "(I)V"⟩ ⟨"PressureNetModel", "slots", "(I)V"⟩ ∈ gTb := gtb0 67 rfl rfl
theorem gw0_68 : Cond.selects "PressureNetModel" ⟨"PressureNetModel", "slot", "()V"⟩ ⟨"PressureNetModel", "slot", "()V"⟩ ∈ gTb := gtb0 68 rfl rfl
theorem gw0_69 : Cond.selects "PressureNetModel" ⟨"PressureNetModel", "arrivals", "()V"⟩ ⟨"PressureNetModel", "arrivals", "()V"⟩ ∈ gTb := gtb0 69 rfl rfl
theorem gw0_70 : Cond.selects "PressureNetModel" ⟨"PressureNetModel", "scheduleBy", "(I)I"⟩ ⟨"PressureNetModel", "scheduleBy", "(I)I"⟩ ∈ gTb := gtb0 70 rfl rfl
theorem gw0_71 : Cond.selects "PressureNetModel" ⟨"PressureNetModel", "layWeights", "()V"⟩ ⟨"PressureNetModel", "layWeights", "()V"⟩ ∈ gTb := gtb0 71 rfl rfl
theorem gw0_72 : Cond.selects "PressureNetModel" ⟨"PressureNetModel", "layPressures", "()V"⟩ ⟨"PressureNetModel", "layPressures", "()V"⟩ ∈ gTb := gtb0 72 rfl rfl
theorem gw0_73 : Cond.selects "PressureNetModel" ⟨"PressureNetModel", "layHops", "()V"⟩ ⟨"PressureNetModel", "layHops", "()V"⟩ ∈ gTb := gtb0 73 rfl rfl
theorem gw0_74 : Cond.selects "PressureNetModel" ⟨"PressureNetModel", "linkPart", "(II)I"⟩ ⟨"PressureNetModel", "linkPart", "(II)I"⟩ ∈ gTb := gtb0 74 rfl rfl
theorem gw0_75 : Cond.selects "PressureNetModel" ⟨"PressureNetModel", "layWeight", "(I)V"⟩ ⟨"PressureNetModel", "layWeight", "(I)V"⟩ ∈ gTb := gtb0 75 rfl rfl
theorem gw0_76 : Cond.selects "PressureNetModel" ⟨"PressureNetModel", "isPossible", "(II)Z"⟩ ⟨"PressureNetModel", "isPossible", "(II)Z"⟩ ∈ gTb := gtb0 76 rfl rfl
theorem gw0_77 : Cond.selects "PressureNetModel" ⟨"PressureNetModel", "greedy", "()I"⟩ ⟨"PressureNetModel", "greedy", "()I"⟩ ∈ gTb := gtb0 77 rfl rfl
theorem gw0_78 : Cond.selects "PressureNetModel" ⟨"PressureNetModel", "exact", "()I"⟩ ⟨"PressureNetModel", "exact", "()I"⟩ ∈ gTb := gtb0 78 rfl rfl
theorem gw0_79 : Cond.selects "PressureNetModel" ⟨"PressureNetModel", "search", "(IIII)V"⟩ ⟨"PressureNetModel", "search", "(IIII)V"⟩ ∈ gTb := gtb0 79 rfl rfl
theorem gw0_80 : Cond.selects "PressureNetModel" ⟨"PressureNetModel", "hasRival", "(I)Z"⟩ ⟨"PressureNetModel", "hasRival", "(I)Z"⟩ ∈ gTb := gtb0 80 rfl rfl
theorem gw0_81 : Cond.selects "PressureNetModel" ⟨"PressureNetModel", "transmit", "(I)V"⟩ ⟨"PressureNetModel", "transmit", "(I)V"⟩ ∈ gTb := gtb0 81 rfl rfl
theorem gw0_82 : Cond.selects "PressureNetModel" ⟨"PressureNetModel", "take", "(I)V"⟩ ⟨"PressureNetModel", "take", "(I)V"⟩ ∈ gTb := gtb0 82 rfl rfl
theorem gw0_83 : Cond.selects "PressureNetModel" ⟨"PressureNetModel", "land", "(I)V"⟩ ⟨"PressureNetModel", "land", "(I)V"⟩ ∈ gTb := gtb0 83 rfl rfl
theorem gw0_84 : Cond.selects "PressureNetModel" ⟨"PressureNetModel", "deliver", "(II)V"⟩ ⟨"PressureNetModel", "deliver", "(II)V"⟩ ∈ gTb := gtb0 84 rfl rfl
theorem gw0_85 : Cond.selects "PressureNetModel" ⟨"PressureNetModel", "expire", "()V"⟩ ⟨"PressureNetModel", "expire", "()V"⟩ ∈ gTb := gtb0 85 rfl rfl
theorem gw0_86 : Cond.selects "PressureNetModel" ⟨"PressureNetModel", "carries", "(I)I"⟩ ⟨"PressureNetModel", "carries", "(I)I"⟩ ∈ gTb := gtb0 86 rfl rfl
theorem gw0_87 : Cond.selects "PressureNetModel" ⟨"PressureNetModel", "greatestFlow", "(II)I"⟩ ⟨"PressureNetModel", "greatestFlow", "(II)I"⟩ ∈ gTb := gtb0 87 rfl rfl
theorem gw0_88 : Cond.selects "PressureNetModel" ⟨"PressureNetModel", "reach", "(I)V"⟩ ⟨"PressureNetModel", "reach", "(I)V"⟩ ∈ gTb := gtb0 88 rfl rfl
theorem gw0_89 : Cond.selects "PressureNetModel" ⟨"PressureNetModel", "queued", "(II)I"⟩ ⟨"PressureNetModel", "queued", "(II)I"⟩ ∈ gTb := gtb0 89 rfl rfl
theorem gw0_90 : Cond.selects "PressureNetModel" ⟨"PressureNetModel", "shadowOf", "(II)I"⟩ ⟨"PressureNetModel", "shadowOf", "(II)I"⟩ ∈ gTb := gtb0 90 rfl rfl
theorem gw0_91 : Cond.selects "PressureNetModel" ⟨"PressureNetModel", "totalOf", "(I)J"⟩ ⟨"PressureNetModel", "totalOf", "(I)J"⟩ ∈ gTb := gtb0 91 rfl rfl
theorem gw0_92 : Cond.selects "PressureNetModel" ⟨"PressureNetModel", "squares", "()J"⟩ ⟨"PressureNetModel", "squares", "()J"⟩ ∈ gTb := gtb0 92 rfl rfl
theorem gw0_93 : Cond.selects "PressureNetModel" ⟨"PressureNetModel", "sumOf", "(I)I"⟩ ⟨"PressureNetModel", "sumOf", "(I)I"⟩ ∈ gTb := gtb0 93 rfl rfl
theorem gw0_94 : Cond.selects "PressureNetModel" ⟨"PressureNetModel", "holds", "(III)Z"⟩ ⟨"PressureNetModel", "holds", "(III)Z"⟩ ∈ gTb := gtb0 94 rfl rfl
theorem gw1_1 : Jvm.Cond.initialized "PressureNet" ∈ gTb := gtb1 1 rfl rfl
theorem gw1_2 : Jvm.Cond.initialized "PressureNet$State" ∈ gTb := gtb1 2 rfl rfl
theorem gw1_3 : Jvm.Cond.initialized "PressureNet$Net" ∈ gTb := gtb1 3 rfl rfl
theorem gw1_4 : Jvm.Cond.initialized "PressureNet$Queues" ∈ gTb := gtb1 4 rfl rfl
theorem gw1_5 : Jvm.Cond.initialized "PressureNet$History" ∈ gTb := gtb1 5 rfl rfl
theorem gw1_6 : Jvm.Cond.initialized "PressureNet$SetupText" ∈ gTb := gtb1 6 rfl rfl
theorem gw1_7 : Jvm.Cond.initialized "PressureNet$SlotRunner" ∈ gTb := gtb1 7 rfl rfl
theorem gw1_8 : Jvm.Cond.initialized "PressureNet$Plan" ∈ gTb := gtb1 8 rfl rfl
theorem gw1_9 : Jvm.Cond.initialized "PressureNet$Cut" ∈ gTb := gtb1 9 rfl rfl
theorem gw1_10 : Jvm.Cond.initialized "java/util/Arrays" ∈ gTb := gtb1 10 rfl rfl
theorem gw1_11 : Jvm.Cond.initialized "PressureNetModel" ∈ gTb := gtb1 11 rfl rfl
theorem gw1_17 : Jvm.Cond.initialized "java/lang/String" ∈ gTb := gtb1 17 rfl rfl
theorem gw1_18 : Jvm.Cond.initialized "java/lang/StringLatin1" ∈ gTb := gtb1 18 rfl rfl
theorem gw1_19 : Jvm.Cond.initialized "jdk/internal/util/Preconditions" ∈ gTb := gtb1 19 rfl rfl
theorem gw1_21 : Jvm.Cond.initialized "java/lang/Math" ∈ gTb := gtb1 21 rfl rfl
theorem gw1_22 : Jvm.Cond.initialized "java/lang/System" ∈ gTb := gtb1 22 rfl rfl
theorem gw1_30 : Jvm.Cond.methodLink "PressureNet" (3 : Nat) ({ cls := "java/lang/Object", name := "<init>", desc := "()V" } : Jvm.MethodName) ∈ gTb := gtb1 30 rfl rfl
theorem gw1_31 : Jvm.Cond.instanceMethod ({ cls := "java/lang/Object", name := "<init>", desc := "()V" } : Jvm.MethodName) ∈ gTb := gtb1 31 rfl rfl
theorem gw1_32 : Jvm.Cond.code ({ cls := "java/lang/Object", name := "<init>", desc := "()V" } : Jvm.MethodName) object_method_1_code (1 : Nat) (Option.none : Option Jvm.ClassFile.FieldType) ∈ gTb := gtb1 32 rfl rfl
theorem gw1_33 : Jvm.Cond.classLink "PressureNet" (9 : Nat) "PressureNet$State" ∈ gTb := gtb1 33 rfl rfl
theorem gw1_34 : Jvm.Cond.instantiable "PressureNet$State" (4 : Nat) ∈ gTb := gtb1 34 rfl rfl
theorem gw1_35 : Jvm.Cond.methodLinkNest "PressureNet" (11 : Nat) ({ cls := "PressureNet$State", name := "<init>", desc := "()V" } : Jvm.MethodName) "PressureNet" ∈ gNw := gnw1 35 rfl rfl
theorem gw1_36 : Jvm.Cond.instanceMethod ({ cls := "PressureNet$State", name := "<init>", desc := "()V" } : Jvm.MethodName) ∈ gTb := gtb1 36 rfl rfl
theorem gw1_37 : Jvm.Cond.code ({ cls := "PressureNet$State", name := "<init>", desc := "()V" } : Jvm.MethodName) prog_9_method_1_code (1 : Nat) (Option.none : Option Jvm.ClassFile.FieldType) ∈ gTb := gtb1 37 rfl rfl
theorem gw1_38 : Jvm.Cond.methodLink "PressureNet$State" (3 : Nat) ({ cls := "java/lang/Object", name := "<init>", desc := "()V" } : Jvm.MethodName) ∈ gTb := gtb1 38 rfl rfl
theorem gw1_39 : Jvm.Cond.classLink "PressureNet$State" (9 : Nat) "PressureNet$Net" ∈ gTb := gtb1 39 rfl rfl
theorem gw1_40 : Jvm.Cond.instantiable "PressureNet$Net" (11 : Nat) ∈ gTb := gtb1 40 rfl rfl
theorem gw1_41 : Jvm.Cond.methodLinkNest "PressureNet$State" (11 : Nat) ({ cls := "PressureNet$Net", name := "<init>", desc := "()V" } : Jvm.MethodName) "PressureNet" ∈ gNw := gnw1 41 rfl rfl
theorem gw1_42 : Jvm.Cond.instanceMethod ({ cls := "PressureNet$Net", name := "<init>", desc := "()V" } : Jvm.MethodName) ∈ gTb := gtb1 42 rfl rfl
theorem gw1_43 : Jvm.Cond.code ({ cls := "PressureNet$Net", name := "<init>", desc := "()V" } : Jvm.MethodName) prog_4_method_1_code (1 : Nat) (Option.none : Option Jvm.ClassFile.FieldType) ∈ gTb := gtb1 43 rfl rfl
theorem gw1_44 : Jvm.Cond.methodLink "PressureNet$Net" (3 : Nat) ({ cls := "java/lang/Object", name := "<init>", desc := "()V" } : Jvm.MethodName) ∈ gTb := gtb1 44 rfl rfl
theorem gw1_45 : Jvm.Cond.fieldLink "PressureNet$Net" (36 : Nat) "PressureNet$Net" "nodes" "I" ∈ gTb := gtb1 45 rfl rfl
theorem gw1_46 : Jvm.Cond.fieldLink "PressureNet$Cut" (39 : Nat) "PressureNet$Net" "nodes" "I" ∈ gTb := gtb1 46 rfl rfl
theorem gw1_47 : Jvm.Cond.fieldLink "PressureNet$Plan" (60 : Nat) "PressureNet$Net" "nodes" "I" ∈ gTb := gtb1 47 rfl rfl
theorem gw1_48 : Jvm.Cond.fieldLink "PressureNet$SetupText" (125 : Nat) "PressureNet$Net" "nodes" "I" ∈ gTb := gtb1 48 rfl rfl
theorem gw1_49 : Jvm.Cond.fieldLink "PressureNet" (218 : Nat) "PressureNet$Net" "nodes" "I" ∈ gTb := gtb1 49 rfl rfl
theorem gw1_50 : Jvm.Cond.fieldLink "PressureNet$Net" (40 : Nat) "PressureNet$Net" "links" "I" ∈ gTb := gtb1 50 rfl rfl
theorem gw1_51 : Jvm.Cond.fieldLink "PressureNet$Plan" (24 : Nat) "PressureNet$Net" "links" "I" ∈ gTb := gtb1 51 rfl rfl
theorem gw1_52 : Jvm.Cond.fieldLink "PressureNet$Cut" (44 : Nat) "PressureNet$Net" "links" "I" ∈ gTb := gtb1 52 rfl rfl
theorem gw1_53 : Jvm.Cond.fieldLink "PressureNet$SlotRunner" (97 : Nat) "PressureNet$Net" "links" "I" ∈ gTb := gtb1 53 rfl rfl
theorem gw1_54 : Jvm.Cond.fieldLink "PressureNet" (110 : Nat) "PressureNet$Net" "links" "I" ∈ gTb := gtb1 54 rfl rfl
theorem gw1_55 : Jvm.Cond.fieldLink "PressureNet$SetupText" (122 : Nat) "PressureNet$Net" "links" "I" ∈ gTb := gtb1 55 rfl rfl
theorem gw1_56 : Jvm.Cond.fieldLink "PressureNet$Net" (43 : Nat) "PressureNet$Net" "flows" "I" ∈ gTb := gtb1 56 rfl rfl
theorem gw1_57 : Jvm.Cond.fieldLink "PressureNet$SlotRunner" (38 : Nat) "PressureNet$Net" "flows" "I" ∈ gTb := gtb1 57 rfl rfl
theorem gw1_58 : Jvm.Cond.fieldLink "PressureNet" (144 : Nat) "PressureNet$Net" "flows" "I" ∈ gTb := gtb1 58 rfl rfl
theorem gw1_59 : Jvm.Cond.fieldLink "PressureNet$SetupText" (143 : Nat) "PressureNet$Net" "flows" "I" ∈ gTb := gtb1 59 rfl rfl
theorem gw1_60 : Jvm.Cond.fieldLink "PressureNet$Net" (9 : Nat) "PressureNet$Net" "from" "[I" ∈ gTb := gtb1 60 rfl rfl
theorem gw1_61 : Jvm.Cond.fieldLink "PressureNet$Plan" (63 : Nat) "PressureNet$Net" "from" "[I" ∈ gTb := gtb1 61 rfl rfl
theorem gw1_62 : Jvm.Cond.fieldLink "PressureNet$Cut" (51 : Nat) "PressureNet$Net" "from" "[I" ∈ gTb := gtb1 62 rfl rfl
theorem gw1_63 : Jvm.Cond.fieldLink "PressureNet$SlotRunner" (109 : Nat) "PressureNet$Net" "from" "[I" ∈ gTb := gtb1 63 rfl rfl
theorem gw1_64 : Jvm.Cond.fieldLink "PressureNet" (221 : Nat) "PressureNet$Net" "from" "[I" ∈ gTb := gtb1 64 rfl rfl
theorem gw1_65 : Jvm.Cond.fieldLink "PressureNet$Net" (15 : Nat) "PressureNet$Net" "to" "[I" ∈ gTb := gtb1 65 rfl rfl
theorem gw1_66 : Jvm.Cond.fieldLink "PressureNet$Plan" (70 : Nat) "PressureNet$Net" "to" "[I" ∈ gTb := gtb1 66 rfl rfl
theorem gw1_67 : Jvm.Cond.fieldLink "PressureNet$Cut" (54 : Nat) "PressureNet$Net" "to" "[I" ∈ gTb := gtb1 67 rfl rfl
theorem gw1_68 : Jvm.Cond.fieldLink "PressureNet$SlotRunner" (127 : Nat) "PressureNet$Net" "to" "[I" ∈ gTb := gtb1 68 rfl rfl
theorem gw1_69 : Jvm.Cond.fieldLink "PressureNet" (224 : Nat) "PressureNet$Net" "to" "[I" ∈ gTb := gtb1 69 rfl rfl
theorem gw1_70 : Jvm.Cond.fieldLink "PressureNet$Net" (18 : Nat) "PressureNet$Net" "capacity" "[I" ∈ gTb := gtb1 70 rfl rfl
theorem gw1_71 : Jvm.Cond.fieldLink "PressureNet$Plan" (76 : Nat) "PressureNet$Net" "capacity" "[I" ∈ gTb := gtb1 71 rfl rfl
theorem gw1_72 : Jvm.Cond.fieldLink "PressureNet$Cut" (57 : Nat) "PressureNet$Net" "capacity" "[I" ∈ gTb := gtb1 72 rfl rfl
theorem gw1_73 : Jvm.Cond.fieldLink "PressureNet$SlotRunner" (106 : Nat) "PressureNet$Net" "capacity" "[I" ∈ gTb := gtb1 73 rfl rfl
theorem gw1_74 : Jvm.Cond.fieldLink "PressureNet" (130 : Nat) "PressureNet$Net" "capacity" "[I" ∈ gTb := gtb1 74 rfl rfl
theorem gw1_75 : Jvm.Cond.fieldLink "PressureNet$Net" (21 : Nat) "PressureNet$Net" "carried" "[I" ∈ gTb := gtb1 75 rfl rfl
theorem gw1_76 : Jvm.Cond.fieldLink "PressureNet$SlotRunner" (124 : Nat) "PressureNet$Net" "carried" "[I" ∈ gTb := gtb1 76 rfl rfl
theorem gw1_77 : Jvm.Cond.fieldLink "PressureNet" (227 : Nat) "PressureNet$Net" "carried" "[I" ∈ gTb := gtb1 77 rfl rfl
theorem gw1_78 : Jvm.Cond.fieldLink "PressureNet$Net" (24 : Nat) "PressureNet$Net" "conflicts" "[I" ∈ gTb := gtb1 78 rfl rfl
theorem gw1_79 : Jvm.Cond.fieldLink "PressureNet$Plan" (38 : Nat) "PressureNet$Net" "conflicts" "[I" ∈ gTb := gtb1 79 rfl rfl
theorem gw1_80 : Jvm.Cond.fieldLink "PressureNet" (253 : Nat) "PressureNet$Net" "conflicts" "[I" ∈ gTb := gtb1 80 rfl rfl
theorem gw1_81 : Jvm.Cond.fieldLink "PressureNet$Net" (27 : Nat) "PressureNet$Net" "settings" "[I" ∈ gTb := gtb1 81 rfl rfl
theorem gw1_82 : Jvm.Cond.fieldLink "PressureNet$Plan" (45 : Nat) "PressureNet$Net" "settings" "[I" ∈ gTb := gtb1 82 rfl rfl
theorem gw1_83 : Jvm.Cond.fieldLink "PressureNet$SlotRunner" (48 : Nat) "PressureNet$Net" "settings" "[I" ∈ gTb := gtb1 83 rfl rfl
theorem gw1_84 : Jvm.Cond.fieldLink "PressureNet" (165 : Nat) "PressureNet$Net" "settings" "[I" ∈ gTb := gtb1 84 rfl rfl
theorem gw1_85 : Jvm.Cond.fieldLink "PressureNet$SetupText" (161 : Nat) "PressureNet$Net" "settings" "[I" ∈ gTb := gtb1 85 rfl rfl
theorem gw1_86 : Jvm.Cond.fieldLink "PressureNet$Net" (30 : Nat) "PressureNet$Net" "numbers" "[I" ∈ gTb := gtb1 86 rfl rfl
theorem gw1_87 : Jvm.Cond.fieldLink "PressureNet$Net" (33 : Nat) "PressureNet$Net" "distance" "[I" ∈ gTb := gtb1 87 rfl rfl
theorem gw1_88 : Jvm.Cond.fieldLink "PressureNet$Plan" (73 : Nat) "PressureNet$Net" "distance" "[I" ∈ gTb := gtb1 88 rfl rfl
theorem gw1_89 : Jvm.Cond.fieldLink "PressureNet" (259 : Nat) "PressureNet$Net" "distance" "[I" ∈ gTb := gtb1 89 rfl rfl
theorem gw1_113 : Jvm.Cond.arrayClass Jvm.ClassFile.FieldType.int ∈ gTb := gtb1 113 rfl rfl
theorem gw1_114 : Jvm.Cond.classLink "PressureNet$State" (18 : Nat) "PressureNet$Queues" ∈ gTb := gtb1 114 rfl rfl
theorem gw1_115 : Jvm.Cond.instantiable "PressureNet$Queues" (12 : Nat) ∈ gTb := gtb1 115 rfl rfl
theorem gw1_116 : Jvm.Cond.methodLinkNest "PressureNet$State" (20 : Nat) ({ cls := "PressureNet$Queues", name := "<init>", desc := "()V" } : Jvm.MethodName) "PressureNet" ∈ gNw := gnw1 116 rfl rfl
theorem gw1_117 : Jvm.Cond.instanceMethod ({ cls := "PressureNet$Queues", name := "<init>", desc := "()V" } : Jvm.MethodName) ∈ gTb := gtb1 117 rfl rfl
theorem gw1_118 : Jvm.Cond.code ({ cls := "PressureNet$Queues", name := "<init>", desc := "()V" } : Jvm.MethodName) prog_6_method_1_code (1 : Nat) (Option.none : Option Jvm.ClassFile.FieldType) ∈ gTb := gtb1 118 rfl rfl
theorem gw1_119 : Jvm.Cond.methodLink "PressureNet$Queues" (3 : Nat) ({ cls := "java/lang/Object", name := "<init>", desc := "()V" } : Jvm.MethodName) ∈ gTb := gtb1 119 rfl rfl
theorem gw1_120 : Jvm.Cond.fieldLink "PressureNet$Queues" (9 : Nat) "PressureNet$Queues" "first" "[I" ∈ gTb := gtb1 120 rfl rfl
theorem gw1_121 : Jvm.Cond.fieldLink "PressureNet$State" (74 : Nat) "PressureNet$Queues" "first" "[I" ∈ gTb := gtb1 121 rfl rfl
theorem gw1_122 : Jvm.Cond.fieldLink "PressureNet$Queues" (15 : Nat) "PressureNet$Queues" "last" "[I" ∈ gTb := gtb1 122 rfl rfl
theorem gw1_123 : Jvm.Cond.fieldLink "PressureNet$Queues" (18 : Nat) "PressureNet$Queues" "length" "[I" ∈ gTb := gtb1 123 rfl rfl
theorem gw1_124 : Jvm.Cond.fieldLink "PressureNet$Plan" (52 : Nat) "PressureNet$Queues" "length" "[I" ∈ gTb := gtb1 124 rfl rfl
theorem gw1_125 : Jvm.Cond.fieldLink "PressureNet$State" (57 : Nat) "PressureNet$Queues" "length" "[I" ∈ gTb := gtb1 125 rfl rfl
theorem gw1_126 : Jvm.Cond.fieldLink "PressureNet$SlotRunner" (115 : Nat) "PressureNet$Queues" "length" "[I" ∈ gTb := gtb1 126 rfl rfl
theorem gw1_127 : Jvm.Cond.fieldLink "PressureNet" (270 : Nat) "PressureNet$Queues" "length" "[I" ∈ gTb := gtb1 127 rfl rfl
theorem gw1_128 : Jvm.Cond.fieldLink "PressureNet$Queues" (21 : Nat) "PressureNet$Queues" "shadow" "[I" ∈ gTb := gtb1 128 rfl rfl
theorem gw1_129 : Jvm.Cond.fieldLink "PressureNet$Plan" (57 : Nat) "PressureNet$Queues" "shadow" "[I" ∈ gTb := gtb1 129 rfl rfl
theorem gw1_130 : Jvm.Cond.fieldLink "PressureNet$SlotRunner" (94 : Nat) "PressureNet$Queues" "shadow" "[I" ∈ gTb := gtb1 130 rfl rfl
theorem gw1_131 : Jvm.Cond.fieldLink "PressureNet" (181 : Nat) "PressureNet$Queues" "shadow" "[I" ∈ gTb := gtb1 131 rfl rfl
theorem gw1_132 : Jvm.Cond.fieldLink "PressureNet$Queues" (24 : Nat) "PressureNet$Queues" "next" "[I" ∈ gTb := gtb1 132 rfl rfl
theorem gw1_133 : Jvm.Cond.fieldLink "PressureNet$State" (81 : Nat) "PressureNet$Queues" "next" "[I" ∈ gTb := gtb1 133 rfl rfl
theorem gw1_134 : Jvm.Cond.fieldLink "PressureNet$Queues" (27 : Nat) "PressureNet$Queues" "flow" "[I" ∈ gTb := gtb1 134 rfl rfl
theorem gw1_135 : Jvm.Cond.fieldLink "PressureNet$State" (64 : Nat) "PressureNet$Queues" "flow" "[I" ∈ gTb := gtb1 135 rfl rfl
theorem gw1_136 : Jvm.Cond.fieldLink "PressureNet$SlotRunner" (137 : Nat) "PressureNet$Queues" "flow" "[I" ∈ gTb := gtb1 136 rfl rfl
theorem gw1_137 : Jvm.Cond.fieldLink "PressureNet" (279 : Nat) "PressureNet$Queues" "flow" "[I" ∈ gTb := gtb1 137 rfl rfl
theorem gw1_138 : Jvm.Cond.fieldLink "PressureNet$Queues" (30 : Nat) "PressureNet$Queues" "arrival" "[I" ∈ gTb := gtb1 138 rfl rfl
theorem gw1_139 : Jvm.Cond.fieldLink "PressureNet$State" (71 : Nat) "PressureNet$Queues" "arrival" "[I" ∈ gTb := gtb1 139 rfl rfl
theorem gw1_140 : Jvm.Cond.fieldLink "PressureNet$SlotRunner" (140 : Nat) "PressureNet$Queues" "arrival" "[I" ∈ gTb := gtb1 140 rfl rfl
theorem gw1_141 : Jvm.Cond.fieldLink "PressureNet" (282 : Nat) "PressureNet$Queues" "arrival" "[I" ∈ gTb := gtb1 141 rfl rfl
theorem gw1_142 : Jvm.Cond.fieldLink "PressureNet$Queues" (33 : Nat) "PressureNet$Queues" "carriers" "[I" ∈ gTb := gtb1 142 rfl rfl
theorem gw1_143 : Jvm.Cond.fieldLink "PressureNet$SlotRunner" (154 : Nat) "PressureNet$Queues" "carriers" "[I" ∈ gTb := gtb1 143 rfl rfl
theorem gw1_144 : Jvm.Cond.fieldLink "PressureNet" (285 : Nat) "PressureNet$Queues" "carriers" "[I" ∈ gTb := gtb1 144 rfl rfl
theorem gw1_145 : Jvm.Cond.fieldLink "PressureNet$Queues" (36 : Nat) "PressureNet$Queues" "visited" "[I" ∈ gTb := gtb1 145 rfl rfl
theorem gw1_146 : Jvm.Cond.fieldLink "PressureNet$SlotRunner" (157 : Nat) "PressureNet$Queues" "visited" "[I" ∈ gTb := gtb1 146 rfl rfl
theorem gw1_147 : Jvm.Cond.fieldLink "PressureNet" (288 : Nat) "PressureNet$Queues" "visited" "[I" ∈ gTb := gtb1 147 rfl rfl
theorem gw1_148 : Jvm.Cond.fieldLink "PressureNet$Queues" (49 : Nat) "PressureNet$Queues" "used" "I" ∈ gTb := gtb1 148 rfl rfl
theorem gw1_149 : Jvm.Cond.fieldLink "PressureNet$Queues" (39 : Nat) "PressureNet$Queues" "free" "I" ∈ gTb := gtb1 149 rfl rfl
theorem gw1_150 : Jvm.Cond.fieldLink "PressureNet$Queues" (52 : Nat) "PressureNet$Queues" "packets" "I" ∈ gTb := gtb1 150 rfl rfl
theorem gw1_151 : Jvm.Cond.fieldLink "PressureNet$SlotRunner" (71 : Nat) "PressureNet$Queues" "packets" "I" ∈ gTb := gtb1 151 rfl rfl
theorem gw1_152 : Jvm.Cond.fieldLink "PressureNet$State" (84 : Nat) "PressureNet$Queues" "packets" "I" ∈ gTb := gtb1 152 rfl rfl
theorem gw1_153 : Jvm.Cond.fieldLink "PressureNet" (205 : Nat) "PressureNet$Queues" "packets" "I" ∈ gTb := gtb1 153 rfl rfl
theorem gw1_179 : Jvm.Cond.fieldLink "PressureNet$State" (12 : Nat) "PressureNet$State" "net" "LPressureNet$Net;" ∈ gTb := gtb1 179 rfl rfl
theorem gw1_180 : Jvm.Cond.fieldLink "PressureNet" (50 : Nat) "PressureNet$State" "net" "LPressureNet$Net;" ∈ gTb := gtb1 180 rfl rfl
theorem gw1_181 : Jvm.Cond.fieldLink "PressureNet$Plan" (18 : Nat) "PressureNet$State" "net" "LPressureNet$Net;" ∈ gTb := gtb1 181 rfl rfl
theorem gw1_182 : Jvm.Cond.fieldLink "PressureNet$SlotRunner" (32 : Nat) "PressureNet$State" "net" "LPressureNet$Net;" ∈ gTb := gtb1 182 rfl rfl
theorem gw1_183 : Jvm.Cond.fieldLink "PressureNet$State" (21 : Nat) "PressureNet$State" "queues" "LPressureNet$Queues;" ∈ gTb := gtb1 183 rfl rfl
theorem gw1_184 : Jvm.Cond.fieldLink "PressureNet$Plan" (48 : Nat) "PressureNet$State" "queues" "LPressureNet$Queues;" ∈ gTb := gtb1 184 rfl rfl
theorem gw1_185 : Jvm.Cond.fieldLink "PressureNet$SlotRunner" (67 : Nat) "PressureNet$State" "queues" "LPressureNet$Queues;" ∈ gTb := gtb1 185 rfl rfl
theorem gw1_186 : Jvm.Cond.fieldLink "PressureNet" (177 : Nat) "PressureNet$State" "queues" "LPressureNet$Queues;" ∈ gTb := gtb1 186 rfl rfl
theorem gw1_187 : Jvm.Cond.fieldLink "PressureNet$State" (32 : Nat) "PressureNet$State" "slot" "I" ∈ gTb := gtb1 187 rfl rfl
theorem gw1_188 : Jvm.Cond.fieldLink "PressureNet$SlotRunner" (61 : Nat) "PressureNet$State" "slot" "I" ∈ gTb := gtb1 188 rfl rfl
theorem gw1_189 : Jvm.Cond.fieldLink "PressureNet" (196 : Nat) "PressureNet$State" "slot" "I" ∈ gTb := gtb1 189 rfl rfl
theorem gw1_190 : Jvm.Cond.fieldLink "PressureNet$State" (36 : Nat) "PressureNet$State" "peak" "I" ∈ gTb := gtb1 190 rfl rfl
theorem gw1_191 : Jvm.Cond.fieldLink "PressureNet$SlotRunner" (64 : Nat) "PressureNet$State" "peak" "I" ∈ gTb := gtb1 191 rfl rfl
theorem gw1_192 : Jvm.Cond.fieldLink "PressureNet" (295 : Nat) "PressureNet$State" "peak" "I" ∈ gTb := gtb1 192 rfl rfl
theorem gw1_202 : Jvm.Cond.classLink "PressureNet" (22 : Nat) "PressureNet$History" ∈ gTb := gtb1 202 rfl rfl
theorem gw1_203 : Jvm.Cond.instantiable "PressureNet$History" (2 : Nat) ∈ gTb := gtb1 203 rfl rfl
theorem gw1_204 : Jvm.Cond.methodLink "PressureNet" (24 : Nat) ({ cls := "PressureNet$History", name := "<init>", desc := "()V" } : Jvm.MethodName) ∈ gTb := gtb1 204 rfl rfl
theorem gw1_205 : Jvm.Cond.instanceMethod ({ cls := "PressureNet$History", name := "<init>", desc := "()V" } : Jvm.MethodName) ∈ gTb := gtb1 205 rfl rfl
theorem gw1_206 : Jvm.Cond.code ({ cls := "PressureNet$History", name := "<init>", desc := "()V" } : Jvm.MethodName) prog_3_method_1_code (2 : Nat) (Option.none : Option Jvm.ClassFile.FieldType) ∈ gTb := gtb1 206 rfl rfl
theorem gw1_207 : Jvm.Cond.methodLink "PressureNet$History" (3 : Nat) ({ cls := "java/lang/Object", name := "<init>", desc := "()V" } : Jvm.MethodName) ∈ gTb := gtb1 207 rfl rfl
theorem gw1_208 : Jvm.Cond.classLink "PressureNet$History" (9 : Nat) "PressureNet$State" ∈ gTb := gtb1 208 rfl rfl
theorem gw1_210 : Jvm.Cond.methodLinkNest "PressureNet$History" (17 : Nat) ({ cls := "PressureNet$State", name := "<init>", desc := "()V" } : Jvm.MethodName) "PressureNet" ∈ gNw := gnw1 210 rfl rfl
theorem gw1_211 : Jvm.Cond.fieldLink "PressureNet$History" (11 : Nat) "PressureNet$History" "past" "[LPressureNet$State;" ∈ gTb := gtb1 211 rfl rfl
theorem gw1_212 : Jvm.Cond.fieldLink "PressureNet$History" (18 : Nat) "PressureNet$History" "changes" "I" ∈ gTb := gtb1 212 rfl rfl
theorem gw1_213 : Jvm.Cond.fieldLink "PressureNet" (103 : Nat) "PressureNet$History" "changes" "I" ∈ gTb := gtb1 213 rfl rfl
theorem gw1_219 : Jvm.Cond.classLink "PressureNet" (29 : Nat) "PressureNet$SetupText" ∈ gTb := gtb1 219 rfl rfl
theorem gw1_220 : Jvm.Cond.instantiable "PressureNet$SetupText" (9 : Nat) ∈ gTb := gtb1 220 rfl rfl
theorem gw1_221 : Jvm.Cond.methodLinkNest "PressureNet" (31 : Nat) ({ cls := "PressureNet$SetupText", name := "<init>", desc := "()V" } : Jvm.MethodName) "PressureNet" ∈ gNw := gnw1 221 rfl rfl
theorem gw1_222 : Jvm.Cond.instanceMethod ({ cls := "PressureNet$SetupText", name := "<init>", desc := "()V" } : Jvm.MethodName) ∈ gTb := gtb1 222 rfl rfl
theorem gw1_223 : Jvm.Cond.code ({ cls := "PressureNet$SetupText", name := "<init>", desc := "()V" } : Jvm.MethodName) prog_7_method_1_code (1 : Nat) (Option.none : Option Jvm.ClassFile.FieldType) ∈ gTb := gtb1 223 rfl rfl
theorem gw1_224 : Jvm.Cond.methodLink "PressureNet$SetupText" (3 : Nat) ({ cls := "java/lang/Object", name := "<init>", desc := "()V" } : Jvm.MethodName) ∈ gTb := gtb1 224 rfl rfl
theorem gw1_225 : Jvm.Cond.classLink "PressureNet$SetupText" (15 : Nat) "PressureNet$Net" ∈ gTb := gtb1 225 rfl rfl
theorem gw1_226 : Jvm.Cond.methodLinkNest "PressureNet$SetupText" (17 : Nat) ({ cls := "PressureNet$Net", name := "<init>", desc := "()V" } : Jvm.MethodName) "PressureNet" ∈ gNw := gnw1 226 rfl rfl
theorem gw1_227 : Jvm.Cond.fieldLink "PressureNet$SetupText" (9 : Nat) "PressureNet$SetupText" "text" "[I" ∈ gTb := gtb1 227 rfl rfl
theorem gw1_228 : Jvm.Cond.fieldLink "PressureNet$SetupText" (18 : Nat) "PressureNet$SetupText" "net" "LPressureNet$Net;" ∈ gTb := gtb1 228 rfl rfl
theorem gw1_229 : Jvm.Cond.fieldLink "PressureNet" (98 : Nat) "PressureNet$SetupText" "net" "LPressureNet$Net;" ∈ gTb := gtb1 229 rfl rfl
theorem gw1_230 : Jvm.Cond.fieldLink "PressureNet$SetupText" (22 : Nat) "PressureNet$SetupText" "length" "I" ∈ gTb := gtb1 230 rfl rfl
theorem gw1_231 : Jvm.Cond.fieldLink "PressureNet" (72 : Nat) "PressureNet$SetupText" "length" "I" ∈ gTb := gtb1 231 rfl rfl
theorem gw1_232 : Jvm.Cond.fieldLink "PressureNet$SetupText" (26 : Nat) "PressureNet$SetupText" "position" "I" ∈ gTb := gtb1 232 rfl rfl
theorem gw1_233 : Jvm.Cond.fieldLink "PressureNet$SetupText" (51 : Nat) "PressureNet$SetupText" "kind" "I" ∈ gTb := gtb1 233 rfl rfl
theorem gw1_234 : Jvm.Cond.fieldLink "PressureNet$SetupText" (42 : Nat) "PressureNet$SetupText" "start" "I" ∈ gTb := gtb1 234 rfl rfl
theorem gw1_235 : Jvm.Cond.fieldLink "PressureNet$SetupText" (54 : Nat) "PressureNet$SetupText" "value" "I" ∈ gTb := gtb1 235 rfl rfl
theorem gw1_236 : Jvm.Cond.fieldLink "PressureNet$SetupText" (29 : Nat) "PressureNet$SetupText" "conflictStatements" "I" ∈ gTb := gtb1 236 rfl rfl
theorem gw1_237 : Jvm.Cond.fieldLink "PressureNet$SetupText" (32 : Nat) "PressureNet$SetupText" "toldSettings" "I" ∈ gTb := gtb1 237 rfl rfl
theorem gw2_17 : Jvm.Cond.classLink "PressureNet" (36 : Nat) "PressureNet$SlotRunner" ∈ gTb := gtb2 17 rfl rfl
theorem gw2_18 : Jvm.Cond.instantiable "PressureNet$SlotRunner" (4 : Nat) ∈ gTb := gtb2 18 rfl rfl
theorem gw2_19 : Jvm.Cond.methodLinkNest "PressureNet" (38 : Nat) ({ cls := "PressureNet$SlotRunner", name := "<init>", desc := "()V" } : Jvm.MethodName) "PressureNet" ∈ gNw := gnw2 19 rfl rfl
theorem gw2_20 : Jvm.Cond.instanceMethod ({ cls := "PressureNet$SlotRunner", name := "<init>", desc := "()V" } : Jvm.MethodName) ∈ gTb := gtb2 20 rfl rfl
theorem gw2_21 : Jvm.Cond.code ({ cls := "PressureNet$SlotRunner", name := "<init>", desc := "()V" } : Jvm.MethodName) prog_8_method_1_code (1 : Nat) (Option.none : Option Jvm.ClassFile.FieldType) ∈ gTb := gtb2 21 rfl rfl
theorem gw2_22 : Jvm.Cond.methodLink "PressureNet$SlotRunner" (3 : Nat) ({ cls := "java/lang/Object", name := "<init>", desc := "()V" } : Jvm.MethodName) ∈ gTb := gtb2 22 rfl rfl
theorem gw2_23 : Jvm.Cond.classLink "PressureNet$SlotRunner" (9 : Nat) "PressureNet$Plan" ∈ gTb := gtb2 23 rfl rfl
theorem gw2_24 : Jvm.Cond.instantiable "PressureNet$Plan" (2 : Nat) ∈ gTb := gtb2 24 rfl rfl
theorem gw2_25 : Jvm.Cond.methodLinkNest "PressureNet$SlotRunner" (11 : Nat) ({ cls := "PressureNet$Plan", name := "<init>", desc := "()V" } : Jvm.MethodName) "PressureNet" ∈ gNw := gnw2 25 rfl rfl
theorem gw2_26 : Jvm.Cond.instanceMethod ({ cls := "PressureNet$Plan", name := "<init>", desc := "()V" } : Jvm.MethodName) ∈ gTb := gtb2 26 rfl rfl
theorem gw2_27 : Jvm.Cond.code ({ cls := "PressureNet$Plan", name := "<init>", desc := "()V" } : Jvm.MethodName) prog_5_method_1_code (1 : Nat) (Option.none : Option Jvm.ClassFile.FieldType) ∈ gTb := gtb2 27 rfl rfl
theorem gw2_28 : Jvm.Cond.methodLink "PressureNet$Plan" (3 : Nat) ({ cls := "java/lang/Object", name := "<init>", desc := "()V" } : Jvm.MethodName) ∈ gTb := gtb2 28 rfl rfl
theorem gw2_29 : Jvm.Cond.fieldLink "PressureNet$Plan" (9 : Nat) "PressureNet$Plan" "commodity" "[I" ∈ gTb := gtb2 29 rfl rfl
theorem gw2_30 : Jvm.Cond.fieldLink "PressureNet$SlotRunner" (112 : Nat) "PressureNet$Plan" "commodity" "[I" ∈ gTb := gtb2 30 rfl rfl
theorem gw2_31 : Jvm.Cond.fieldLink "PressureNet" (243 : Nat) "PressureNet$Plan" "commodity" "[I" ∈ gTb := gtb2 31 rfl rfl
theorem gw2_32 : Jvm.Cond.fieldLink "PressureNet$Plan" (15 : Nat) "PressureNet$Plan" "weight" "[I" ∈ gTb := gtb2 32 rfl rfl
theorem gw2_33 : Jvm.Cond.fieldLink "PressureNet" (246 : Nat) "PressureNet$Plan" "weight" "[I" ∈ gTb := gtb2 33 rfl rfl
theorem gw2_39 : Jvm.Cond.fieldLink "PressureNet$SlotRunner" (12 : Nat) "PressureNet$SlotRunner" "plan" "LPressureNet$Plan;" ∈ gTb := gtb2 39 rfl rfl
theorem gw2_40 : Jvm.Cond.fieldLink "PressureNet" (233 : Nat) "PressureNet$SlotRunner" "plan" "LPressureNet$Plan;" ∈ gTb := gtb2 40 rfl rfl
theorem gw2_41 : Jvm.Cond.fieldLink "PressureNet$SlotRunner" (18 : Nat) "PressureNet$SlotRunner" "taken" "[I" ∈ gTb := gtb2 41 rfl rfl
theorem gw2_42 : Jvm.Cond.fieldLink "PressureNet$SlotRunner" (22 : Nat) "PressureNet$SlotRunner" "takenPackets" "[I" ∈ gTb := gtb2 42 rfl rfl
theorem gw2_43 : Jvm.Cond.fieldLink "PressureNet$SlotRunner" (25 : Nat) "PressureNet$SlotRunner" "takenShadow" "[I" ∈ gTb := gtb2 43 rfl rfl
theorem gw2_53 : Jvm.Cond.classLink "PressureNet" (43 : Nat) "PressureNet$Cut" ∈ gTb := gtb2 53 rfl rfl
theorem gw2_54 : Jvm.Cond.instantiable "PressureNet$Cut" (4 : Nat) ∈ gTb := gtb2 54 rfl rfl
theorem gw2_55 : Jvm.Cond.methodLinkNest "PressureNet" (45 : Nat) ({ cls := "PressureNet$Cut", name := "<init>", desc := "()V" } : Jvm.MethodName) "PressureNet" ∈ gNw := gnw2 55 rfl rfl
theorem gw2_56 : Jvm.Cond.instanceMethod ({ cls := "PressureNet$Cut", name := "<init>", desc := "()V" } : Jvm.MethodName) ∈ gTb := gtb2 56 rfl rfl
theorem gw2_57 : Jvm.Cond.code ({ cls := "PressureNet$Cut", name := "<init>", desc := "()V" } : Jvm.MethodName) prog_2_method_1_code (1 : Nat) (Option.none : Option Jvm.ClassFile.FieldType) ∈ gTb := gtb2 57 rfl rfl
theorem gw2_58 : Jvm.Cond.methodLink "PressureNet$Cut" (3 : Nat) ({ cls := "java/lang/Object", name := "<init>", desc := "()V" } : Jvm.MethodName) ∈ gTb := gtb2 58 rfl rfl
theorem gw2_59 : Jvm.Cond.fieldLink "PressureNet$Cut" (9 : Nat) "PressureNet$Cut" "sent" "[I" ∈ gTb := gtb2 59 rfl rfl
theorem gw2_60 : Jvm.Cond.fieldLink "PressureNet$Cut" (15 : Nat) "PressureNet$Cut" "via" "[I" ∈ gTb := gtb2 60 rfl rfl
theorem gw2_61 : Jvm.Cond.fieldLink "PressureNet$Cut" (24 : Nat) "PressureNet$Cut" "packets" "I" ∈ gTb := gtb2 61 rfl rfl
theorem gw2_62 : Jvm.Cond.fieldLink "PressureNet" (266 : Nat) "PressureNet$Cut" "packets" "I" ∈ gTb := gtb2 62 rfl rfl
theorem gw2_63 : Jvm.Cond.fieldLink "PressureNet$Cut" (32 : Nat) "PressureNet$Cut" "side" "I" ∈ gTb := gtb2 63 rfl rfl
theorem gw2_64 : Jvm.Cond.fieldLink "PressureNet" (267 : Nat) "PressureNet$Cut" "side" "I" ∈ gTb := gtb2 64 rfl rfl
theorem gw2_74 : Jvm.Cond.methodLink "PressureNet" (54 : Nat) ({ cls := "PressureNet$Net", name := "clear", desc := "(I)V" } : Jvm.MethodName) ∈ gTb := gtb2 74 rfl rfl
theorem gw2_75 : Jvm.Cond.instanceMethod ({ cls := "PressureNet$Net", name := "clear", desc := "(I)V" } : Jvm.MethodName) ∈ gTb := gtb2 75 rfl rfl
theorem gw2_76 : Jvm.Cond.selects "PressureNet$Net" ({ cls := "PressureNet$Net", name := "clear", desc := "(I)V" } : Jvm.MethodName) ({ cls := "PressureNet$Net", name := "clear", desc := "(I)V" } : Jvm.MethodName) ∈ gTb := gtb2 76 rfl rfl
theorem gw2_77 : Jvm.Cond.code ({ cls := "PressureNet$Net", name := "clear", desc := "(I)V" } : Jvm.MethodName) prog_4_method_2_code (3 : Nat) (Option.none : Option Jvm.ClassFile.FieldType) ∈ gTb := gtb2 77 rfl rfl
theorem gw2_78 : Jvm.Cond.methodLink "PressureNet$Net" (46 : Nat) ({ cls := "java/util/Arrays", name := "fill", desc := "([II)V" } : Jvm.MethodName) ∈ gTb := gtb2 78 rfl rfl
theorem gw2_79 : Jvm.Cond.static ({ cls := "java/util/Arrays", name := "fill", desc := "([II)V" } : Jvm.MethodName) ∈ gTb := gtb2 79 rfl rfl
theorem gw2_80 : Jvm.Cond.code ({ cls := "java/util/Arrays", name := "fill", desc := "([II)V" } : Jvm.MethodName) prog_28_method_103_code (4 : Nat) (Option.none : Option Jvm.ClassFile.FieldType) ∈ gTb := gtb2 80 rfl rfl
theorem gw2_81 : Jvm.Cond.methodLinkNest "PressureNet$Net" (52 : Nat) ({ cls := "PressureNet", name := "pair", desc := "(II)I" } : Jvm.MethodName) "PressureNet" ∈ gNw := gnw2 81 rfl rfl
theorem gw2_82 : Jvm.Cond.static ({ cls := "PressureNet", name := "pair", desc := "(II)I" } : Jvm.MethodName) ∈ gTb := gtb2 82 rfl rfl
theorem gw2_83 : Jvm.Cond.code ({ cls := "PressureNet", name := "pair", desc := "(II)I" } : Jvm.MethodName) prog_1_method_56_code (2 : Nat) (Option.some Jvm.ClassFile.FieldType.int) ∈ gTb := gtb2 83 rfl rfl
theorem gw2_84 : Jvm.Cond.methodLink "PressureNet" (60 : Nat) ({ cls := "PressureNet$Net", name := "putLink", desc := "(III)V" } : Jvm.MethodName) ∈ gTb := gtb2 84 rfl rfl
theorem gw2_85 : Jvm.Cond.instanceMethod ({ cls := "PressureNet$Net", name := "putLink", desc := "(III)V" } : Jvm.MethodName) ∈ gTb := gtb2 85 rfl rfl
theorem gw2_86 : Jvm.Cond.selects "PressureNet$Net" ({ cls := "PressureNet$Net", name := "putLink", desc := "(III)V" } : Jvm.MethodName) ({ cls := "PressureNet$Net", name := "putLink", desc := "(III)V" } : Jvm.MethodName) ∈ gTb := gtb2 86 rfl rfl
theorem gw2_87 : Jvm.Cond.code ({ cls := "PressureNet$Net", name := "putLink", desc := "(III)V" } : Jvm.MethodName) prog_4_method_5_code (4 : Nat) (Option.none : Option Jvm.ClassFile.FieldType) ∈ gTb := gtb2 87 rfl rfl
theorem gw2_88 : Jvm.Cond.methodLink "PressureNet$Net" (60 : Nat) ({ cls := "PressureNet$Net", name := "shortenDistances", desc := "(II)V" } : Jvm.MethodName) ∈ gTb := gtb2 88 rfl rfl
theorem gw2_90 : Jvm.Cond.instanceMethod ({ cls := "PressureNet$Net", name := "shortenDistances", desc := "(II)V" } : Jvm.MethodName) ∈ gTb := gtb2 90 rfl rfl
theorem gw2_91 : Jvm.Cond.code ({ cls := "PressureNet$Net", name := "shortenDistances", desc := "(II)V" } : Jvm.MethodName) prog_4_method_6_code (7 : Nat) (Option.none : Option Jvm.ClassFile.FieldType) ∈ gTb := gtb2 91 rfl rfl
theorem gw2_92 : Jvm.Cond.methodLink "PressureNet" (64 : Nat) ({ cls := "PressureNet$Net", name := "putFlow", desc := "(IIII)V" } : Jvm.MethodName) ∈ gTb := gtb2 92 rfl rfl
theorem gw2_93 : Jvm.Cond.instanceMethod ({ cls := "PressureNet$Net", name := "putFlow", desc := "(IIII)V" } : Jvm.MethodName) ∈ gTb := gtb2 93 rfl rfl
theorem gw2_94 : Jvm.Cond.selects "PressureNet$Net" ({ cls := "PressureNet$Net", name := "putFlow", desc := "(IIII)V" } : Jvm.MethodName) ({ cls := "PressureNet$Net", name := "putFlow", desc := "(IIII)V" } : Jvm.MethodName) ∈ gTb := gtb2 94 rfl rfl
theorem gw2_95 : Jvm.Cond.code ({ cls := "PressureNet$Net", name := "putFlow", desc := "(IIII)V" } : Jvm.MethodName) prog_4_method_9_code (7 : Nat) (Option.none : Option Jvm.ClassFile.FieldType) ∈ gTb := gtb2 95 rfl rfl
theorem gw2_96 : Jvm.Cond.methodLink "PressureNet$Net" (64 : Nat) ({ cls := "PressureNet$Net", name := "putNumber", desc := "(III)V" } : Jvm.MethodName) ∈ gTb := gtb2 96 rfl rfl
theorem gw2_97 : Jvm.Cond.instanceMethod ({ cls := "PressureNet$Net", name := "putNumber", desc := "(III)V" } : Jvm.MethodName) ∈ gTb := gtb2 97 rfl rfl
theorem gw2_98 : Jvm.Cond.selects "PressureNet$Net" ({ cls := "PressureNet$Net", name := "putNumber", desc := "(III)V" } : Jvm.MethodName) ({ cls := "PressureNet$Net", name := "putNumber", desc := "(III)V" } : Jvm.MethodName) ∈ gTb := gtb2 98 rfl rfl
theorem gw2_99 : Jvm.Cond.code ({ cls := "PressureNet$Net", name := "putNumber", desc := "(III)V" } : Jvm.MethodName) prog_4_method_11_code (4 : Nat) (Option.none : Option Jvm.ClassFile.FieldType) ∈ gTb := gtb2 99 rfl rfl
theorem gw2_100 : Jvm.Cond.fieldLink "PressureNet" (12 : Nat) "PressureNet" "now" "LPressureNet$State;" ∈ gTb := gtb2 100 rfl rfl
theorem gw2_101 : Jvm.Cond.fieldLink "PressureNet" (16 : Nat) "PressureNet" "saved" "LPressureNet$State;" ∈ gTb := gtb2 101 rfl rfl
theorem gw2_102 : Jvm.Cond.fieldLink "PressureNet" (19 : Nat) "PressureNet" "ahead" "LPressureNet$State;" ∈ gTb := gtb2 102 rfl rfl
theorem gw2_103 : Jvm.Cond.fieldLink "PressureNet" (25 : Nat) "PressureNet" "history" "LPressureNet$History;" ∈ gTb := gtb2 103 rfl rfl
theorem gw2_104 : Jvm.Cond.fieldLink "PressureNet" (32 : Nat) "PressureNet" "input" "LPressureNet$SetupText;" ∈ gTb := gtb2 104 rfl rfl
theorem gw2_105 : Jvm.Cond.fieldLink "PressureNet" (39 : Nat) "PressureNet" "runner" "LPressureNet$SlotRunner;" ∈ gTb := gtb2 105 rfl rfl
theorem gw2_106 : Jvm.Cond.fieldLink "PressureNet" (46 : Nat) "PressureNet" "cut" "LPressureNet$Cut;" ∈ gTb := gtb2 106 rfl rfl
theorem gw2_107 : Jvm.Cond.fieldLink "PressureNet" (106 : Nat) "PressureNet" "hasSaved" "Z" ∈ gTb := gtb2 107 rfl rfl
theorem gw2_129 : Jvm.Cond.methodLink "PressureNet" (89 : Nat) ({ cls := "PressureNet$SetupText", name := "read", desc := "()I" } : Jvm.MethodName) ∈ gTb := gtb2 129 rfl rfl
theorem gw2_130 : Jvm.Cond.instanceMethod ({ cls := "PressureNet$SetupText", name := "read", desc := "()I" } : Jvm.MethodName) ∈ gTb := gtb2 130 rfl rfl
theorem gw2_131 : Jvm.Cond.selects "PressureNet$SetupText" ({ cls := "PressureNet$SetupText", name := "read", desc := "()I" } : Jvm.MethodName) ({ cls := "PressureNet$SetupText", name := "read", desc := "()I" } : Jvm.MethodName) ∈ gTb := gtb2 131 rfl rfl
theorem gw2_132 : Jvm.Cond.code ({ cls := "PressureNet$SetupText", name := "read", desc := "()I" } : Jvm.MethodName) prog_7_method_3_code (2 : Nat) (Option.some Jvm.ClassFile.FieldType.int) ∈ gTb := gtb2 132 rfl rfl
theorem gw2_133 : Jvm.Cond.methodLink "PressureNet$SetupText" (35 : Nat) ({ cls := "PressureNet$SetupText", name := "nextToken", desc := "()V" } : Jvm.MethodName) ∈ gTb := gtb2 133 rfl rfl
theorem gw2_135 : Jvm.Cond.instanceMethod ({ cls := "PressureNet$SetupText", name := "nextToken", desc := "()V" } : Jvm.MethodName) ∈ gTb := gtb2 135 rfl rfl
theorem gw2_136 : Jvm.Cond.code ({ cls := "PressureNet$SetupText", name := "nextToken", desc := "()V" } : Jvm.MethodName) prog_7_method_4_code (2 : Nat) (Option.none : Option Jvm.ClassFile.FieldType) ∈ gTb := gtb2 136 rfl rfl
theorem gw2_137 : Jvm.Cond.methodLink "PressureNet$SetupText" (57 : Nat) ({ cls := "PressureNet$SetupText", name := "kindOf", desc := "(I)I" } : Jvm.MethodName) ∈ gTb := gtb2 137 rfl rfl
theorem gw2_138 : Jvm.Cond.static ({ cls := "PressureNet$SetupText", name := "kindOf", desc := "(I)I" } : Jvm.MethodName) ∈ gTb := gtb2 138 rfl rfl
theorem gw2_139 : Jvm.Cond.code ({ cls := "PressureNet$SetupText", name := "kindOf", desc := "(I)I" } : Jvm.MethodName) prog_7_method_5_code (1 : Nat) (Option.some Jvm.ClassFile.FieldType.int) ∈ gTb := gtb2 139 rfl rfl
theorem gw2_140 : Jvm.Cond.methodLink "PressureNet$SetupText" (38 : Nat) ({ cls := "PressureNet$SetupText", name := "readNodes", desc := "()Z" } : Jvm.MethodName) ∈ gTb := gtb2 140 rfl rfl
theorem gw2_142 : Jvm.Cond.instanceMethod ({ cls := "PressureNet$SetupText", name := "readNodes", desc := "()Z" } : Jvm.MethodName) ∈ gTb := gtb2 142 rfl rfl
theorem gw2_143 : Jvm.Cond.code ({ cls := "PressureNet$SetupText", name := "readNodes", desc := "()Z" } : Jvm.MethodName) prog_7_method_9_code (1 : Nat) (Option.some Jvm.ClassFile.FieldType.boolean) ∈ gTb := gtb2 143 rfl rfl
theorem gw2_145 : Jvm.Cond.methodLink "PressureNet$SetupText" (71 : Nat) ({ cls := "PressureNet$SetupText", name := "isWord", desc := "(Ljava/lang/String;)Z" } : Jvm.MethodName) ∈ gTb := gtb2 145 rfl rfl
theorem gw2_147 : Jvm.Cond.instanceMethod ({ cls := "PressureNet$SetupText", name := "isWord", desc := "(Ljava/lang/String;)Z" } : Jvm.MethodName) ∈ gTb := gtb2 147 rfl rfl
theorem gw2_148 : Jvm.Cond.code ({ cls := "PressureNet$SetupText", name := "isWord", desc := "(Ljava/lang/String;)Z" } : Jvm.MethodName) prog_7_method_8_code (3 : Nat) (Option.some Jvm.ClassFile.FieldType.boolean) ∈ gTb := gtb2 148 rfl rfl
theorem gw2_149 : Jvm.Cond.methodLink "PressureNet$SetupText" (61 : Nat) ({ cls := "java/lang/String", name := "length", desc := "()I" } : Jvm.MethodName) ∈ gTb := gtb2 149 rfl rfl
theorem gw2_150 : Jvm.Cond.instanceMethod ({ cls := "java/lang/String", name := "length", desc := "()I" } : Jvm.MethodName) ∈ gTb := gtb2 150 rfl rfl
theorem gw2_151 : Jvm.Cond.selects "java/lang/String" ({ cls := "java/lang/String", name := "length", desc := "()I" } : Jvm.MethodName) ({ cls := "java/lang/String", name := "length", desc := "()I" } : Jvm.MethodName) ∈ gTb := gtb2 151 rfl rfl
theorem gw2_152 : Jvm.Cond.code ({ cls := "java/lang/String", name := "length", desc := "()I" } : Jvm.MethodName) prog_21_method_54_code (1 : Nat) (Option.some Jvm.ClassFile.FieldType.int) ∈ gTb := gtb2 152 rfl rfl
theorem gw2_153 : Jvm.Cond.methodLink "java/lang/String" (335 : Nat) ({ cls := "java/lang/String", name := "coder", desc := "()B" } : Jvm.MethodName) ∈ gTb := gtb2 153 rfl rfl
theorem gw2_154 : Jvm.Cond.instanceMethod ({ cls := "java/lang/String", name := "coder", desc := "()B" } : Jvm.MethodName) ∈ gTb := gtb2 154 rfl rfl
theorem gw2_155 : Jvm.Cond.selects "java/lang/String" ({ cls := "java/lang/String", name := "coder", desc := "()B" } : Jvm.MethodName) ({ cls := "java/lang/String", name := "coder", desc := "()B" } : Jvm.MethodName) ∈ gTb := gtb2 155 rfl rfl
theorem gw2_156 : Jvm.Cond.code ({ cls := "java/lang/String", name := "coder", desc := "()B" } : Jvm.MethodName) prog_21_method_152_code (1 : Nat) (Option.some Jvm.ClassFile.FieldType.byte) ∈ gTb := gtb2 156 rfl rfl
theorem gw2_157 : Jvm.Cond.fieldLink "java/lang/String" (38 : Nat) "java/lang/String" "COMPACT_STRINGS" "Z" ∈ gTb := gtb2 157 rfl rfl
theorem gw2_159 : Jvm.Cond.methodLink "PressureNet$SetupText" (66 : Nat) ({ cls := "java/lang/String", name := "charAt", desc := "(I)C" } : Jvm.MethodName) ∈ gTb := gtb2 159 rfl rfl
theorem gw2_160 : Jvm.Cond.instanceMethod ({ cls := "java/lang/String", name := "charAt", desc := "(I)C" } : Jvm.MethodName) ∈ gTb := gtb2 160 rfl rfl
theorem gw2_161 : Jvm.Cond.selects "java/lang/String" ({ cls := "java/lang/String", name := "charAt", desc := "(I)C" } : Jvm.MethodName) ({ cls := "java/lang/String", name := "charAt", desc := "(I)C" } : Jvm.MethodName) ∈ gTb := gtb2 161 rfl rfl
theorem gw2_162 : Jvm.Cond.code ({ cls := "java/lang/String", name := "charAt", desc := "(I)C" } : Jvm.MethodName) prog_21_method_56_code (2 : Nat) (Option.some Jvm.ClassFile.FieldType.char) ∈ gTb := gtb2 162 rfl rfl
theorem gw2_163 : Jvm.Cond.methodLink "java/lang/String" (492 : Nat) ({ cls := "java/lang/String", name := "isLatin1", desc := "()Z" } : Jvm.MethodName) ∈ gTb := gtb2 163 rfl rfl
theorem gw2_164 : Jvm.Cond.instanceMethod ({ cls := "java/lang/String", name := "isLatin1", desc := "()Z" } : Jvm.MethodName) ∈ gTb := gtb2 164 rfl rfl
theorem gw2_165 : Jvm.Cond.selects "java/lang/String" ({ cls := "java/lang/String", name := "isLatin1", desc := "()Z" } : Jvm.MethodName) ({ cls := "java/lang/String", name := "isLatin1", desc := "()Z" } : Jvm.MethodName) ∈ gTb := gtb2 165 rfl rfl
theorem gw2_166 : Jvm.Cond.code ({ cls := "java/lang/String", name := "isLatin1", desc := "()Z" } : Jvm.MethodName) prog_21_method_154_code (1 : Nat) (Option.some Jvm.ClassFile.FieldType.boolean) ∈ gTb := gtb2 166 rfl rfl
theorem gw2_167 : Jvm.Cond.methodLink "java/lang/String" (495 : Nat) ({ cls := "java/lang/StringLatin1", name := "charAt", desc := "([BI)C" } : Jvm.MethodName) ∈ gTb := gtb2 167 rfl rfl
theorem gw2_168 : Jvm.Cond.static ({ cls := "java/lang/StringLatin1", name := "charAt", desc := "([BI)C" } : Jvm.MethodName) ∈ gTb := gtb2 168 rfl rfl
theorem gw2_169 : Jvm.Cond.code ({ cls := "java/lang/StringLatin1", name := "charAt", desc := "([BI)C" } : Jvm.MethodName) prog_22_method_2_code (2 : Nat) (Option.some Jvm.ClassFile.FieldType.char) ∈ gTb := gtb2 169 rfl rfl
theorem gw2_170 : Jvm.Cond.methodLink "java/lang/StringLatin1" (9 : Nat) ({ cls := "java/lang/String", name := "checkIndex", desc := "(II)V" } : Jvm.MethodName) ∈ gTb := gtb2 170 rfl rfl
theorem gw2_171 : Jvm.Cond.static ({ cls := "java/lang/String", name := "checkIndex", desc := "(II)V" } : Jvm.MethodName) ∈ gTb := gtb2 171 rfl rfl
theorem gw2_172 : Jvm.Cond.code ({ cls := "java/lang/String", name := "checkIndex", desc := "(II)V" } : Jvm.MethodName) prog_21_method_155_code (2 : Nat) (Option.none : Option Jvm.ClassFile.FieldType) ∈ gTb := gtb2 172 rfl rfl
theorem gw2_173 : Jvm.Cond.fieldLink "java/lang/String" (1053 : Nat) "jdk/internal/util/Preconditions" "SIOOBE_FORMATTER" "Ljava/util/function/BiFunction;" ∈ gTb := gtb2 173 rfl rfl
theorem gw2_175 : Jvm.Cond.methodLink "java/lang/String" (1059 : Nat) ({ cls := "jdk/internal/util/Preconditions", name := "checkIndex", desc := "(IILjava/util/function/BiFunction;)I" } : Jvm.MethodName) ∈ gTb := gtb2 175 rfl rfl
theorem gw2_176 : Jvm.Cond.static ({ cls := "jdk/internal/util/Preconditions", name := "checkIndex", desc := "(IILjava/util/function/BiFunction;)I" } : Jvm.MethodName) ∈ gTb := gtb2 176 rfl rfl
theorem gw2_177 : Jvm.Cond.code ({ cls := "jdk/internal/util/Preconditions", name := "checkIndex", desc := "(IILjava/util/function/BiFunction;)I" } : Jvm.MethodName) prog_30_method_11_code (3 : Nat) (Option.some Jvm.ClassFile.FieldType.int) ∈ gTb := gtb2 177 rfl rfl
theorem gw2_197 : Jvm.Cond.methodLink "PressureNet$SetupText" (75 : Nat) ({ cls := "PressureNet$SetupText", name := "isNumber", desc := "(II)Z" } : Jvm.MethodName) ∈ gTb := gtb2 197 rfl rfl
theorem gw2_199 : Jvm.Cond.instanceMethod ({ cls := "PressureNet$SetupText", name := "isNumber", desc := "(II)Z" } : Jvm.MethodName) ∈ gTb := gtb2 199 rfl rfl
theorem gw2_200 : Jvm.Cond.code ({ cls := "PressureNet$SetupText", name := "isNumber", desc := "(II)Z" } : Jvm.MethodName) prog_7_method_7_code (3 : Nat) (Option.some Jvm.ClassFile.FieldType.boolean) ∈ gTb := gtb2 200 rfl rfl
theorem gw2_201 : Jvm.Cond.methodLink "PressureNet$SetupText" (79 : Nat) ({ cls := "PressureNet$Net", name := "clear", desc := "(I)V" } : Jvm.MethodName) ∈ gTb := gtb2 201 rfl rfl
theorem gw2_202 : Jvm.Cond.methodLink "PressureNet$SetupText" (45 : Nat) ({ cls := "PressureNet$SetupText", name := "isSemicolon", desc := "()Z" } : Jvm.MethodName) ∈ gTb := gtb2 202 rfl rfl
theorem gw2_204 : Jvm.Cond.instanceMethod ({ cls := "PressureNet$SetupText", name := "isSemicolon", desc := "()Z" } : Jvm.MethodName) ∈ gTb := gtb2 204 rfl rfl
theorem gw2_205 : Jvm.Cond.code ({ cls := "PressureNet$SetupText", name := "isSemicolon", desc := "()Z" } : Jvm.MethodName) prog_7_method_6_code (1 : Nat) (Option.some Jvm.ClassFile.FieldType.boolean) ∈ gTb := gtb2 205 rfl rfl
theorem gw2_206 : Jvm.Cond.methodLink "PressureNet$SetupText" (48 : Nat) ({ cls := "PressureNet$SetupText", name := "readStatement", desc := "()Z" } : Jvm.MethodName) ∈ gTb := gtb2 206 rfl rfl
theorem gw2_208 : Jvm.Cond.instanceMethod ({ cls := "PressureNet$SetupText", name := "readStatement", desc := "()Z" } : Jvm.MethodName) ∈ gTb := gtb2 208 rfl rfl
theorem gw2_209 : Jvm.Cond.code ({ cls := "PressureNet$SetupText", name := "readStatement", desc := "()Z" } : Jvm.MethodName) prog_7_method_10_code (1 : Nat) (Option.some Jvm.ClassFile.FieldType.boolean) ∈ gTb := gtb2 209 rfl rfl
theorem gw2_211 : Jvm.Cond.methodLink "PressureNet$SetupText" (85 : Nat) ({ cls := "PressureNet$SetupText", name := "readLink", desc := "()Z" } : Jvm.MethodName) ∈ gTb := gtb2 211 rfl rfl
theorem gw2_213 : Jvm.Cond.instanceMethod ({ cls := "PressureNet$SetupText", name := "readLink", desc := "()Z" } : Jvm.MethodName) ∈ gTb := gtb2 213 rfl rfl
theorem gw2_214 : Jvm.Cond.code ({ cls := "PressureNet$SetupText", name := "readLink", desc := "()Z" } : Jvm.MethodName) prog_7_method_11_code (3 : Nat) (Option.some Jvm.ClassFile.FieldType.boolean) ∈ gTb := gtb2 214 rfl rfl
theorem gw2_215 : Jvm.Cond.methodLink "PressureNet$SetupText" (128 : Nat) ({ cls := "PressureNet$Net", name := "findLink", desc := "(II)I" } : Jvm.MethodName) ∈ gTb := gtb2 215 rfl rfl
theorem gw2_216 : Jvm.Cond.instanceMethod ({ cls := "PressureNet$Net", name := "findLink", desc := "(II)I" } : Jvm.MethodName) ∈ gTb := gtb2 216 rfl rfl
theorem gw2_217 : Jvm.Cond.selects "PressureNet$Net" ({ cls := "PressureNet$Net", name := "findLink", desc := "(II)I" } : Jvm.MethodName) ({ cls := "PressureNet$Net", name := "findLink", desc := "(II)I" } : Jvm.MethodName) ∈ gTb := gtb2 217 rfl rfl
theorem gw2_218 : Jvm.Cond.code ({ cls := "PressureNet$Net", name := "findLink", desc := "(II)I" } : Jvm.MethodName) prog_4_method_4_code (4 : Nat) (Option.some Jvm.ClassFile.FieldType.int) ∈ gTb := gtb2 218 rfl rfl
theorem gw2_219 : Jvm.Cond.methodLink "PressureNet$SetupText" (132 : Nat) ({ cls := "PressureNet$Net", name := "putLink", desc := "(III)V" } : Jvm.MethodName) ∈ gTb := gtb2 219 rfl rfl
theorem gw2_221 : Jvm.Cond.methodLink "PressureNet$SetupText" (90 : Nat) ({ cls := "PressureNet$SetupText", name := "readConflict", desc := "()Z" } : Jvm.MethodName) ∈ gTb := gtb2 221 rfl rfl
theorem gw2_223 : Jvm.Cond.instanceMethod ({ cls := "PressureNet$SetupText", name := "readConflict", desc := "()Z" } : Jvm.MethodName) ∈ gTb := gtb2 223 rfl rfl
theorem gw2_224 : Jvm.Cond.code ({ cls := "PressureNet$SetupText", name := "readConflict", desc := "()Z" } : Jvm.MethodName) prog_7_method_12_code (2 : Nat) (Option.some Jvm.ClassFile.FieldType.boolean) ∈ gTb := gtb2 224 rfl rfl
theorem gw2_225 : Jvm.Cond.methodLink "PressureNet$SetupText" (136 : Nat) ({ cls := "PressureNet$Net", name := "inConflict", desc := "(II)Z" } : Jvm.MethodName) ∈ gTb := gtb2 225 rfl rfl
theorem gw2_226 : Jvm.Cond.instanceMethod ({ cls := "PressureNet$Net", name := "inConflict", desc := "(II)Z" } : Jvm.MethodName) ∈ gTb := gtb2 226 rfl rfl
theorem gw2_227 : Jvm.Cond.selects "PressureNet$Net" ({ cls := "PressureNet$Net", name := "inConflict", desc := "(II)Z" } : Jvm.MethodName) ({ cls := "PressureNet$Net", name := "inConflict", desc := "(II)Z" } : Jvm.MethodName) ∈ gTb := gtb2 227 rfl rfl
theorem gw2_228 : Jvm.Cond.code ({ cls := "PressureNet$Net", name := "inConflict", desc := "(II)Z" } : Jvm.MethodName) prog_4_method_7_code (3 : Nat) (Option.some Jvm.ClassFile.FieldType.boolean) ∈ gTb := gtb2 228 rfl rfl
theorem gw2_229 : Jvm.Cond.methodLink "PressureNet$SetupText" (139 : Nat) ({ cls := "PressureNet$Net", name := "putConflict", desc := "(IIZ)V" } : Jvm.MethodName) ∈ gTb := gtb2 229 rfl rfl
theorem gw2_230 : Jvm.Cond.instanceMethod ({ cls := "PressureNet$Net", name := "putConflict", desc := "(IIZ)V" } : Jvm.MethodName) ∈ gTb := gtb2 230 rfl rfl
theorem gw2_231 : Jvm.Cond.selects "PressureNet$Net" ({ cls := "PressureNet$Net", name := "putConflict", desc := "(IIZ)V" } : Jvm.MethodName) ({ cls := "PressureNet$Net", name := "putConflict", desc := "(IIZ)V" } : Jvm.MethodName) ∈ gTb := gtb2 231 rfl rfl
theorem gw2_232 : Jvm.Cond.code ({ cls := "PressureNet$Net", name := "putConflict", desc := "(IIZ)V" } : Jvm.MethodName) prog_4_method_8_code (4 : Nat) (Option.none : Option Jvm.ClassFile.FieldType) ∈ gTb := gtb2 232 rfl rfl
theorem gw2_234 : Jvm.Cond.methodLink "PressureNet$SetupText" (95 : Nat) ({ cls := "PressureNet$SetupText", name := "readFlow", desc := "()Z" } : Jvm.MethodName) ∈ gTb := gtb2 234 rfl rfl
theorem gw2_236 : Jvm.Cond.instanceMethod ({ cls := "PressureNet$SetupText", name := "readFlow", desc := "()Z" } : Jvm.MethodName) ∈ gTb := gtb2 236 rfl rfl
theorem gw2_237 : Jvm.Cond.code ({ cls := "PressureNet$SetupText", name := "readFlow", desc := "()Z" } : Jvm.MethodName) prog_7_method_13_code (4 : Nat) (Option.some Jvm.ClassFile.FieldType.boolean) ∈ gTb := gtb2 237 rfl rfl
theorem gw2_238 : Jvm.Cond.methodLink "PressureNet$SetupText" (146 : Nat) ({ cls := "PressureNet$Net", name := "putFlow", desc := "(IIII)V" } : Jvm.MethodName) ∈ gTb := gtb2 238 rfl rfl
theorem gw3_0 : Jvm.Cond.methodLink "PressureNet$SetupText" (152 : Nat) ({ cls := "PressureNet$SetupText", name := "readBudget", desc := "(I)Z" } : Jvm.MethodName) ∈ gTb := gtb3 0 rfl rfl
theorem gw3_2 : Jvm.Cond.instanceMethod ({ cls := "PressureNet$SetupText", name := "readBudget", desc := "(I)Z" } : Jvm.MethodName) ∈ gTb := gtb3 2 rfl rfl
theorem gw3_3 : Jvm.Cond.code ({ cls := "PressureNet$SetupText", name := "readBudget", desc := "(I)Z" } : Jvm.MethodName) prog_7_method_14_code (2 : Nat) (Option.some Jvm.ClassFile.FieldType.boolean) ∈ gTb := gtb3 3 rfl rfl
theorem gw3_4 : Jvm.Cond.methodLink "PressureNet$SetupText" (155 : Nat) ({ cls := "PressureNet$Net", name := "putNumber", desc := "(III)V" } : Jvm.MethodName) ∈ gTb := gtb3 4 rfl rfl
theorem gw3_8 : Jvm.Cond.methodLink "PressureNet$SetupText" (104 : Nat) ({ cls := "PressureNet$SetupText", name := "readChoice", desc := "(ILjava/lang/String;Ljava/lang/String;)Z" } : Jvm.MethodName) ∈ gTb := gtb3 8 rfl rfl
theorem gw3_10 : Jvm.Cond.instanceMethod ({ cls := "PressureNet$SetupText", name := "readChoice", desc := "(ILjava/lang/String;Ljava/lang/String;)Z" } : Jvm.MethodName) ∈ gTb := gtb3 10 rfl rfl
theorem gw3_11 : Jvm.Cond.code ({ cls := "PressureNet$SetupText", name := "readChoice", desc := "(ILjava/lang/String;Ljava/lang/String;)Z" } : Jvm.MethodName) prog_7_method_16_code (4 : Nat) (Option.some Jvm.ClassFile.FieldType.boolean) ∈ gTb := gtb3 11 rfl rfl
theorem gw3_12 : Jvm.Cond.methodLink "PressureNet$SetupText" (158 : Nat) ({ cls := "PressureNet$SetupText", name := "beginSetting", desc := "(I)Z" } : Jvm.MethodName) ∈ gTb := gtb3 12 rfl rfl
theorem gw3_14 : Jvm.Cond.instanceMethod ({ cls := "PressureNet$SetupText", name := "beginSetting", desc := "(I)Z" } : Jvm.MethodName) ∈ gTb := gtb3 14 rfl rfl
theorem gw3_15 : Jvm.Cond.code ({ cls := "PressureNet$SetupText", name := "beginSetting", desc := "(I)Z" } : Jvm.MethodName) prog_7_method_15_code (2 : Nat) (Option.some Jvm.ClassFile.FieldType.boolean) ∈ gTb := gtb3 15 rfl rfl
theorem gw3_17 : Jvm.Cond.methodLink "PressureNet$SetupText" (110 : Nat) ({ cls := "PressureNet$SetupText", name := "readSetting", desc := "(I)Z" } : Jvm.MethodName) ∈ gTb := gtb3 17 rfl rfl
theorem gw3_19 : Jvm.Cond.instanceMethod ({ cls := "PressureNet$SetupText", name := "readSetting", desc := "(I)Z" } : Jvm.MethodName) ∈ gTb := gtb3 19 rfl rfl
theorem gw3_20 : Jvm.Cond.code ({ cls := "PressureNet$SetupText", name := "readSetting", desc := "(I)Z" } : Jvm.MethodName) prog_7_method_17_code (2 : Nat) (Option.some Jvm.ClassFile.FieldType.boolean) ∈ gTb := gtb3 20 rfl rfl
theorem gw3_21 : Jvm.Cond.fieldLinkNest "PressureNet$SetupText" (164 : Nat) "PressureNet" "GREATEST_SETTING" "[I" "PressureNet" ∈ gNw := gnw3 21 rfl rfl
theorem gw3_32 : Jvm.Cond.methodLink "PressureNet" (123 : Nat) ({ cls := "PressureNet$History", name := "remember", desc := "(LPressureNet$State;)V" } : Jvm.MethodName) ∈ gTb := gtb3 32 rfl rfl
theorem gw3_33 : Jvm.Cond.instanceMethod ({ cls := "PressureNet$History", name := "remember", desc := "(LPressureNet$State;)V" } : Jvm.MethodName) ∈ gTb := gtb3 33 rfl rfl
theorem gw3_34 : Jvm.Cond.selects "PressureNet$History" ({ cls := "PressureNet$History", name := "remember", desc := "(LPressureNet$State;)V" } : Jvm.MethodName) ({ cls := "PressureNet$History", name := "remember", desc := "(LPressureNet$State;)V" } : Jvm.MethodName) ∈ gTb := gtb3 34 rfl rfl
theorem gw3_35 : Jvm.Cond.code ({ cls := "PressureNet$History", name := "remember", desc := "(LPressureNet$State;)V" } : Jvm.MethodName) prog_3_method_2_code (4 : Nat) (Option.none : Option Jvm.ClassFile.FieldType) ∈ gTb := gtb3 35 rfl rfl
theorem gw3_36 : Jvm.Cond.methodLink "PressureNet$History" (22 : Nat) ({ cls := "PressureNet$State", name := "copyFrom", desc := "(LPressureNet$State;)V" } : Jvm.MethodName) ∈ gTb := gtb3 36 rfl rfl
theorem gw3_37 : Jvm.Cond.instanceMethod ({ cls := "PressureNet$State", name := "copyFrom", desc := "(LPressureNet$State;)V" } : Jvm.MethodName) ∈ gTb := gtb3 37 rfl rfl
theorem gw3_38 : Jvm.Cond.selects "PressureNet$State" ({ cls := "PressureNet$State", name := "copyFrom", desc := "(LPressureNet$State;)V" } : Jvm.MethodName) ({ cls := "PressureNet$State", name := "copyFrom", desc := "(LPressureNet$State;)V" } : Jvm.MethodName) ∈ gTb := gtb3 38 rfl rfl
theorem gw3_39 : Jvm.Cond.code ({ cls := "PressureNet$State", name := "copyFrom", desc := "(LPressureNet$State;)V" } : Jvm.MethodName) prog_9_method_3_code (2 : Nat) (Option.none : Option Jvm.ClassFile.FieldType) ∈ gTb := gtb3 39 rfl rfl
theorem gw3_40 : Jvm.Cond.methodLink "PressureNet$State" (25 : Nat) ({ cls := "PressureNet$Net", name := "copyFrom", desc := "(LPressureNet$Net;)V" } : Jvm.MethodName) ∈ gTb := gtb3 40 rfl rfl
theorem gw3_41 : Jvm.Cond.instanceMethod ({ cls := "PressureNet$Net", name := "copyFrom", desc := "(LPressureNet$Net;)V" } : Jvm.MethodName) ∈ gTb := gtb3 41 rfl rfl
theorem gw3_42 : Jvm.Cond.selects "PressureNet$Net" ({ cls := "PressureNet$Net", name := "copyFrom", desc := "(LPressureNet$Net;)V" } : Jvm.MethodName) ({ cls := "PressureNet$Net", name := "copyFrom", desc := "(LPressureNet$Net;)V" } : Jvm.MethodName) ∈ gTb := gtb3 42 rfl rfl
theorem gw3_43 : Jvm.Cond.code ({ cls := "PressureNet$Net", name := "copyFrom", desc := "(LPressureNet$Net;)V" } : Jvm.MethodName) prog_4_method_3_code (2 : Nat) (Option.none : Option Jvm.ClassFile.FieldType) ∈ gTb := gtb3 43 rfl rfl
theorem gw3_44 : Jvm.Cond.methodLinkNest "PressureNet$Net" (56 : Nat) ({ cls := "PressureNet", name := "copyRow", desc := "([I[II)V" } : Jvm.MethodName) "PressureNet" ∈ gNw := gnw3 44 rfl rfl
theorem gw3_45 : Jvm.Cond.static ({ cls := "PressureNet", name := "copyRow", desc := "([I[II)V" } : Jvm.MethodName) ∈ gTb := gtb3 45 rfl rfl
theorem gw3_46 : Jvm.Cond.code ({ cls := "PressureNet", name := "copyRow", desc := "([I[II)V" } : Jvm.MethodName) prog_1_method_59_code (3 : Nat) (Option.none : Option Jvm.ClassFile.FieldType) ∈ gTb := gtb3 46 rfl rfl
theorem gw3_47 : Jvm.Cond.methodLink "PressureNet" (347 : Nat) ({ cls := "java/lang/System", name := "arraycopy", desc := "(Ljava/lang/Object;ILjava/lang/Object;II)V" } : Jvm.MethodName) ∈ gTb := gtb3 47 rfl rfl
theorem gw3_48 : Jvm.Cond.static ({ cls := "java/lang/System", name := "arraycopy", desc := "(Ljava/lang/Object;ILjava/lang/Object;II)V" } : Jvm.MethodName) ∈ gTb := gtb3 48 rfl rfl
theorem gw3_49 : Jvm.Cond.native ({ cls := "java/lang/System", name := "arraycopy", desc := "(Ljava/lang/Object;ILjava/lang/Object;II)V" } : Jvm.MethodName) ∈ gTb := gtb3 49 rfl rfl
theorem gw3_50 : Jvm.Cond.methodLink "PressureNet$State" (39 : Nat) ({ cls := "PressureNet$Queues", name := "copyFrom", desc := "(LPressureNet$Queues;)V" } : Jvm.MethodName) ∈ gTb := gtb3 50 rfl rfl
theorem gw3_51 : Jvm.Cond.instanceMethod ({ cls := "PressureNet$Queues", name := "copyFrom", desc := "(LPressureNet$Queues;)V" } : Jvm.MethodName) ∈ gTb := gtb3 51 rfl rfl
theorem gw3_52 : Jvm.Cond.selects "PressureNet$Queues" ({ cls := "PressureNet$Queues", name := "copyFrom", desc := "(LPressureNet$Queues;)V" } : Jvm.MethodName) ({ cls := "PressureNet$Queues", name := "copyFrom", desc := "(LPressureNet$Queues;)V" } : Jvm.MethodName) ∈ gTb := gtb3 52 rfl rfl
theorem gw3_53 : Jvm.Cond.code ({ cls := "PressureNet$Queues", name := "copyFrom", desc := "(LPressureNet$Queues;)V" } : Jvm.MethodName) prog_6_method_3_code (2 : Nat) (Option.none : Option Jvm.ClassFile.FieldType) ∈ gTb := gtb3 53 rfl rfl
theorem gw3_54 : Jvm.Cond.methodLinkNest "PressureNet$Queues" (55 : Nat) ({ cls := "PressureNet", name := "copyRow", desc := "([I[II)V" } : Jvm.MethodName) "PressureNet" ∈ gNw := gnw3 54 rfl rfl
theorem gw3_55 : Jvm.Cond.methodLink "PressureNet" (186 : Nat) ({ cls := "PressureNet", name := "sum", desc := "([I)J" } : Jvm.MethodName) ∈ gTb := gtb3 55 rfl rfl
theorem gw3_56 : Jvm.Cond.static ({ cls := "PressureNet", name := "sum", desc := "([I)J" } : Jvm.MethodName) ∈ gTb := gtb3 56 rfl rfl
theorem gw3_57 : Jvm.Cond.code ({ cls := "PressureNet", name := "sum", desc := "([I)J" } : Jvm.MethodName) prog_1_method_57_code (7 : Nat) (Option.some Jvm.ClassFile.FieldType.long) ∈ gTb := gtb3 57 rfl rfl
theorem gw3_58 : Jvm.Cond.methodLink "PressureNet" (190 : Nat) ({ cls := "java/util/Arrays", name := "fill", desc := "([II)V" } : Jvm.MethodName) ∈ gTb := gtb3 58 rfl rfl
theorem gw3_67 : Jvm.Cond.methodLink "PressureNet" (213 : Nat) ({ cls := "PressureNet$State", name := "copyFrom", desc := "(LPressureNet$State;)V" } : Jvm.MethodName) ∈ gTb := gtb3 67 rfl rfl
theorem gw3_72 : Jvm.Cond.methodLink "PressureNet" (156 : Nat) ({ cls := "PressureNet$Net", name := "getNumber", desc := "(II)I" } : Jvm.MethodName) ∈ gTb := gtb3 72 rfl rfl
theorem gw3_73 : Jvm.Cond.instanceMethod ({ cls := "PressureNet$Net", name := "getNumber", desc := "(II)I" } : Jvm.MethodName) ∈ gTb := gtb3 73 rfl rfl
theorem gw3_74 : Jvm.Cond.selects "PressureNet$Net" ({ cls := "PressureNet$Net", name := "getNumber", desc := "(II)I" } : Jvm.MethodName) ({ cls := "PressureNet$Net", name := "getNumber", desc := "(II)I" } : Jvm.MethodName) ∈ gTb := gtb3 74 rfl rfl
theorem gw3_75 : Jvm.Cond.code ({ cls := "PressureNet$Net", name := "getNumber", desc := "(II)I" } : Jvm.MethodName) prog_4_method_10_code (3 : Nat) (Option.some Jvm.ClassFile.FieldType.int) ∈ gTb := gtb3 75 rfl rfl
theorem gw3_76 : Jvm.Cond.methodLink "PressureNet" (262 : Nat) ({ cls := "PressureNet$Cut", name := "find", desc := "(LPressureNet$Net;II)V" } : Jvm.MethodName) ∈ gTb := gtb3 76 rfl rfl
theorem gw3_77 : Jvm.Cond.instanceMethod ({ cls := "PressureNet$Cut", name := "find", desc := "(LPressureNet$Net;II)V" } : Jvm.MethodName) ∈ gTb := gtb3 77 rfl rfl
theorem gw3_78 : Jvm.Cond.selects "PressureNet$Cut" ({ cls := "PressureNet$Cut", name := "find", desc := "(LPressureNet$Net;II)V" } : Jvm.MethodName) ({ cls := "PressureNet$Cut", name := "find", desc := "(LPressureNet$Net;II)V" } : Jvm.MethodName) ∈ gTb := gtb3 78 rfl rfl
theorem gw3_79 : Jvm.Cond.code ({ cls := "PressureNet$Cut", name := "find", desc := "(LPressureNet$Net;II)V" } : Jvm.MethodName) prog_2_method_2_code (5 : Nat) (Option.none : Option Jvm.ClassFile.FieldType) ∈ gTb := gtb3 79 rfl rfl
theorem gw3_80 : Jvm.Cond.methodLink "PressureNet$Cut" (18 : Nat) ({ cls := "java/util/Arrays", name := "fill", desc := "([II)V" } : Jvm.MethodName) ∈ gTb := gtb3 80 rfl rfl
theorem gw3_81 : Jvm.Cond.methodLink "PressureNet$Cut" (28 : Nat) ({ cls := "PressureNet$Cut", name := "reach", desc := "(LPressureNet$Net;I)I" } : Jvm.MethodName) ∈ gTb := gtb3 81 rfl rfl
theorem gw3_83 : Jvm.Cond.instanceMethod ({ cls := "PressureNet$Cut", name := "reach", desc := "(LPressureNet$Net;I)I" } : Jvm.MethodName) ∈ gTb := gtb3 83 rfl rfl
theorem gw3_84 : Jvm.Cond.code ({ cls := "PressureNet$Cut", name := "reach", desc := "(LPressureNet$Net;I)I" } : Jvm.MethodName) prog_2_method_3_code (6 : Nat) (Option.some Jvm.ClassFile.FieldType.int) ∈ gTb := gtb3 84 rfl rfl
theorem gw3_85 : Jvm.Cond.methodLink "PressureNet$Cut" (47 : Nat) ({ cls := "PressureNet$Cut", name := "reachOver", desc := "(LPressureNet$Net;II)I" } : Jvm.MethodName) ∈ gTb := gtb3 85 rfl rfl
theorem gw3_87 : Jvm.Cond.instanceMethod ({ cls := "PressureNet$Cut", name := "reachOver", desc := "(LPressureNet$Net;II)I" } : Jvm.MethodName) ∈ gTb := gtb3 87 rfl rfl
theorem gw3_88 : Jvm.Cond.code ({ cls := "PressureNet$Cut", name := "reachOver", desc := "(LPressureNet$Net;II)I" } : Jvm.MethodName) prog_2_method_4_code (8 : Nat) (Option.some Jvm.ClassFile.FieldType.int) ∈ gTb := gtb3 88 rfl rfl
theorem gw3_89 : Jvm.Cond.methodLink "PressureNet$Cut" (35 : Nat) ({ cls := "PressureNet$Cut", name := "sendOne", desc := "(LPressureNet$Net;II)V" } : Jvm.MethodName) ∈ gTb := gtb3 89 rfl rfl
theorem gw3_91 : Jvm.Cond.instanceMethod ({ cls := "PressureNet$Cut", name := "sendOne", desc := "(LPressureNet$Net;II)V" } : Jvm.MethodName) ∈ gTb := gtb3 91 rfl rfl
theorem gw3_92 : Jvm.Cond.code ({ cls := "PressureNet$Cut", name := "sendOne", desc := "(LPressureNet$Net;II)V" } : Jvm.MethodName) prog_2_method_5_code (7 : Nat) (Option.none : Option Jvm.ClassFile.FieldType) ∈ gTb := gtb3 92 rfl rfl
theorem gw3_101 : Jvm.Cond.methodLink "PressureNet" (68 : Nat) ({ cls := "PressureNet", name := "countBytes", desc := "(I)I" } : Jvm.MethodName) ∈ gTb := gtb3 101 rfl rfl
theorem gw3_102 : Jvm.Cond.static ({ cls := "PressureNet", name := "countBytes", desc := "(I)I" } : Jvm.MethodName) ∈ gTb := gtb3 102 rfl rfl
theorem gw3_103 : Jvm.Cond.code ({ cls := "PressureNet", name := "countBytes", desc := "(I)I" } : Jvm.MethodName) prog_1_method_3_code (3 : Nat) (Option.some Jvm.ClassFile.FieldType.int) ∈ gTb := gtb3 103 rfl rfl
theorem gw3_172 : Jvm.Cond.methodLink "PressureNet" (83 : Nat) ({ cls := "PressureNet$SetupText", name := "putBytes", desc := "(I)V" } : Jvm.MethodName) ∈ gTb := gtb3 172 rfl rfl
theorem gw3_173 : Jvm.Cond.instanceMethod ({ cls := "PressureNet$SetupText", name := "putBytes", desc := "(I)V" } : Jvm.MethodName) ∈ gTb := gtb3 173 rfl rfl
theorem gw3_174 : Jvm.Cond.selects "PressureNet$SetupText" ({ cls := "PressureNet$SetupText", name := "putBytes", desc := "(I)V" } : Jvm.MethodName) ({ cls := "PressureNet$SetupText", name := "putBytes", desc := "(I)V" } : Jvm.MethodName) ∈ gTb := gtb3 174 rfl rfl
theorem gw3_175 : Jvm.Cond.code ({ cls := "PressureNet$SetupText", name := "putBytes", desc := "(I)V" } : Jvm.MethodName) prog_7_method_2_code (4 : Nat) (Option.none : Option Jvm.ClassFile.FieldType) ∈ gTb := gtb3 175 rfl rfl
theorem gw3_184 : Jvm.Cond.methodLink "PressureNet" (86 : Nat) ({ cls := "PressureNet", name := "checkRange", desc := "(III)V" } : Jvm.MethodName) ∈ gTb := gtb3 184 rfl rfl
theorem gw3_185 : Jvm.Cond.static ({ cls := "PressureNet", name := "checkRange", desc := "(III)V" } : Jvm.MethodName) ∈ gTb := gtb3 185 rfl rfl
theorem gw3_186 : Jvm.Cond.code ({ cls := "PressureNet", name := "checkRange", desc := "(III)V" } : Jvm.MethodName) prog_1_method_51_code (3 : Nat) (Option.none : Option Jvm.ClassFile.FieldType) ∈ gTb := gtb3 186 rfl rfl
theorem gw3_211 : Jvm.Cond.methodLink "PressureNet" (99 : Nat) ({ cls := "PressureNet$State", name := "begin", desc := "(LPressureNet$Net;)V" } : Jvm.MethodName) ∈ gTb := gtb3 211 rfl rfl
theorem gw3_212 : Jvm.Cond.instanceMethod ({ cls := "PressureNet$State", name := "begin", desc := "(LPressureNet$Net;)V" } : Jvm.MethodName) ∈ gTb := gtb3 212 rfl rfl
theorem gw3_213 : Jvm.Cond.selects "PressureNet$State" ({ cls := "PressureNet$State", name := "begin", desc := "(LPressureNet$Net;)V" } : Jvm.MethodName) ({ cls := "PressureNet$State", name := "begin", desc := "(LPressureNet$Net;)V" } : Jvm.MethodName) ∈ gTb := gtb3 213 rfl rfl
theorem gw3_214 : Jvm.Cond.code ({ cls := "PressureNet$State", name := "begin", desc := "(LPressureNet$Net;)V" } : Jvm.MethodName) prog_9_method_2_code (2 : Nat) (Option.none : Option Jvm.ClassFile.FieldType) ∈ gTb := gtb3 214 rfl rfl
theorem gw3_215 : Jvm.Cond.methodLink "PressureNet$State" (29 : Nat) ({ cls := "PressureNet$Queues", name := "clear", desc := "()V" } : Jvm.MethodName) ∈ gTb := gtb3 215 rfl rfl
theorem gw3_216 : Jvm.Cond.instanceMethod ({ cls := "PressureNet$Queues", name := "clear", desc := "()V" } : Jvm.MethodName) ∈ gTb := gtb3 216 rfl rfl
theorem gw3_217 : Jvm.Cond.selects "PressureNet$Queues" ({ cls := "PressureNet$Queues", name := "clear", desc := "()V" } : Jvm.MethodName) ({ cls := "PressureNet$Queues", name := "clear", desc := "()V" } : Jvm.MethodName) ∈ gTb := gtb3 217 rfl rfl
theorem gw3_218 : Jvm.Cond.code ({ cls := "PressureNet$Queues", name := "clear", desc := "()V" } : Jvm.MethodName) prog_6_method_2_code (1 : Nat) (Option.none : Option Jvm.ClassFile.FieldType) ∈ gTb := gtb3 218 rfl rfl
theorem gw3_219 : Jvm.Cond.methodLink "PressureNet$Queues" (43 : Nat) ({ cls := "java/util/Arrays", name := "fill", desc := "([II)V" } : Jvm.MethodName) ∈ gTb := gtb3 219 rfl rfl
theorem gw3_228 : Jvm.Cond.methodLink "PressureNet" (113 : Nat) ({ cls := "PressureNet", name := "checkTwoNodes", desc := "(II)V" } : Jvm.MethodName) ∈ gTb := gtb3 228 rfl rfl
theorem gw3_230 : Jvm.Cond.instanceMethod ({ cls := "PressureNet", name := "checkTwoNodes", desc := "(II)V" } : Jvm.MethodName) ∈ gTb := gtb3 230 rfl rfl
theorem gw3_231 : Jvm.Cond.code ({ cls := "PressureNet", name := "checkTwoNodes", desc := "(II)V" } : Jvm.MethodName) prog_1_method_53_code (3 : Nat) (Option.none : Option Jvm.ClassFile.FieldType) ∈ gTb := gtb3 231 rfl rfl
theorem gw3_232 : Jvm.Cond.methodLink "PressureNet" (256 : Nat) ({ cls := "PressureNet", name := "checkNode", desc := "(I)V" } : Jvm.MethodName) ∈ gTb := gtb3 232 rfl rfl
theorem gw3_234 : Jvm.Cond.instanceMethod ({ cls := "PressureNet", name := "checkNode", desc := "(I)V" } : Jvm.MethodName) ∈ gTb := gtb3 234 rfl rfl
theorem gw3_235 : Jvm.Cond.code ({ cls := "PressureNet", name := "checkNode", desc := "(I)V" } : Jvm.MethodName) prog_1_method_52_code (2 : Nat) (Option.none : Option Jvm.ClassFile.FieldType) ∈ gTb := gtb3 235 rfl rfl
theorem gw4_13 : Jvm.Cond.methodLink "PressureNet" (117 : Nat) ({ cls := "PressureNet$Net", name := "findLink", desc := "(II)I" } : Jvm.MethodName) ∈ gTb := gtb4 13 rfl rfl
theorem gw4_22 : Jvm.Cond.methodLink "PressureNet" (127 : Nat) ({ cls := "PressureNet", name := "checkLink", desc := "(I)V" } : Jvm.MethodName) ∈ gTb := gtb4 22 rfl rfl
theorem gw4_24 : Jvm.Cond.instanceMethod ({ cls := "PressureNet", name := "checkLink", desc := "(I)V" } : Jvm.MethodName) ∈ gTb := gtb4 24 rfl rfl
theorem gw4_25 : Jvm.Cond.code ({ cls := "PressureNet", name := "checkLink", desc := "(I)V" } : Jvm.MethodName) prog_1_method_54_code (2 : Nat) (Option.none : Option Jvm.ClassFile.FieldType) ∈ gTb := gtb4 25 rfl rfl
theorem gw4_35 : Jvm.Cond.methodLink "PressureNet" (136 : Nat) ({ cls := "PressureNet$Net", name := "inConflict", desc := "(II)Z" } : Jvm.MethodName) ∈ gTb := gtb4 35 rfl rfl
theorem gw4_36 : Jvm.Cond.methodLink "PressureNet" (140 : Nat) ({ cls := "PressureNet$Net", name := "putConflict", desc := "(IIZ)V" } : Jvm.MethodName) ∈ gTb := gtb4 36 rfl rfl
theorem gw4_52 : Jvm.Cond.methodLink "PressureNet" (149 : Nat) ({ cls := "PressureNet", name := "checkFlow", desc := "(I)V" } : Jvm.MethodName) ∈ gTb := gtb4 52 rfl rfl
theorem gw4_54 : Jvm.Cond.instanceMethod ({ cls := "PressureNet", name := "checkFlow", desc := "(I)V" } : Jvm.MethodName) ∈ gTb := gtb4 54 rfl rfl
theorem gw4_55 : Jvm.Cond.code ({ cls := "PressureNet", name := "checkFlow", desc := "(I)V" } : Jvm.MethodName) prog_1_method_55_code (2 : Nat) (Option.none : Option Jvm.ClassFile.FieldType) ∈ gTb := gtb4 55 rfl rfl
theorem gw4_57 : Jvm.Cond.methodLink "PressureNet" (152 : Nat) ({ cls := "PressureNet", name := "replaceNumber", desc := "(III)I" } : Jvm.MethodName) ∈ gTb := gtb4 57 rfl rfl
theorem gw4_59 : Jvm.Cond.instanceMethod ({ cls := "PressureNet", name := "replaceNumber", desc := "(III)I" } : Jvm.MethodName) ∈ gTb := gtb4 59 rfl rfl
theorem gw4_60 : Jvm.Cond.code ({ cls := "PressureNet", name := "replaceNumber", desc := "(III)I" } : Jvm.MethodName) prog_1_method_13_code (5 : Nat) (Option.some Jvm.ClassFile.FieldType.int) ∈ gTb := gtb4 60 rfl rfl
theorem gw4_61 : Jvm.Cond.methodLink "PressureNet" (159 : Nat) ({ cls := "PressureNet$Net", name := "putNumber", desc := "(III)V" } : Jvm.MethodName) ∈ gTb := gtb4 61 rfl rfl
theorem gw4_76 : Jvm.Cond.fieldLink "PressureNet" (162 : Nat) "PressureNet" "GREATEST_SETTING" "[I" ∈ gTb := gtb4 76 rfl rfl
theorem gw4_84 : Jvm.Cond.methodLink "PressureNet" (168 : Nat) ({ cls := "PressureNet$State", name := "arrive", desc := "(II)I" } : Jvm.MethodName) ∈ gTb := gtb4 84 rfl rfl
theorem gw4_85 : Jvm.Cond.instanceMethod ({ cls := "PressureNet$State", name := "arrive", desc := "(II)I" } : Jvm.MethodName) ∈ gTb := gtb4 85 rfl rfl
theorem gw4_86 : Jvm.Cond.selects "PressureNet$State" ({ cls := "PressureNet$State", name := "arrive", desc := "(II)I" } : Jvm.MethodName) ({ cls := "PressureNet$State", name := "arrive", desc := "(II)I" } : Jvm.MethodName) ∈ gTb := gtb4 86 rfl rfl
theorem gw4_87 : Jvm.Cond.code ({ cls := "PressureNet$State", name := "arrive", desc := "(II)I" } : Jvm.MethodName) prog_9_method_4_code (7 : Nat) (Option.some Jvm.ClassFile.FieldType.int) ∈ gTb := gtb4 87 rfl rfl
theorem gw4_88 : Jvm.Cond.methodLink "PressureNet$State" (42 : Nat) ({ cls := "PressureNet$Net", name := "getNumber", desc := "(II)I" } : Jvm.MethodName) ∈ gTb := gtb4 88 rfl rfl
theorem gw4_89 : Jvm.Cond.methodLinkNest "PressureNet$State" (46 : Nat) ({ cls := "PressureNet", name := "pair", desc := "(II)I" } : Jvm.MethodName) "PressureNet" ∈ gNw := gnw4 89 rfl rfl
theorem gw4_90 : Jvm.Cond.methodLink "PressureNet$State" (49 : Nat) ({ cls := "PressureNet$Queues", name := "enter", desc := "(IIII)Z" } : Jvm.MethodName) ∈ gTb := gtb4 90 rfl rfl
theorem gw4_91 : Jvm.Cond.instanceMethod ({ cls := "PressureNet$Queues", name := "enter", desc := "(IIII)Z" } : Jvm.MethodName) ∈ gTb := gtb4 91 rfl rfl
theorem gw4_92 : Jvm.Cond.selects "PressureNet$Queues" ({ cls := "PressureNet$Queues", name := "enter", desc := "(IIII)Z" } : Jvm.MethodName) ({ cls := "PressureNet$Queues", name := "enter", desc := "(IIII)Z" } : Jvm.MethodName) ∈ gTb := gtb4 92 rfl rfl
theorem gw4_93 : Jvm.Cond.code ({ cls := "PressureNet$Queues", name := "enter", desc := "(IIII)Z" } : Jvm.MethodName) prog_6_method_4_code (6 : Nat) (Option.some Jvm.ClassFile.FieldType.boolean) ∈ gTb := gtb4 93 rfl rfl
theorem gw4_94 : Jvm.Cond.methodLink "PressureNet$Queues" (59 : Nat) ({ cls := "PressureNet$Queues", name := "putLast", desc := "(II)V" } : Jvm.MethodName) ∈ gTb := gtb4 94 rfl rfl
theorem gw4_95 : Jvm.Cond.instanceMethod ({ cls := "PressureNet$Queues", name := "putLast", desc := "(II)V" } : Jvm.MethodName) ∈ gTb := gtb4 95 rfl rfl
theorem gw4_96 : Jvm.Cond.selects "PressureNet$Queues" ({ cls := "PressureNet$Queues", name := "putLast", desc := "(II)V" } : Jvm.MethodName) ({ cls := "PressureNet$Queues", name := "putLast", desc := "(II)V" } : Jvm.MethodName) ∈ gTb := gtb4 96 rfl rfl
theorem gw4_97 : Jvm.Cond.code ({ cls := "PressureNet$Queues", name := "putLast", desc := "(II)V" } : Jvm.MethodName) prog_6_method_5_code (3 : Nat) (Option.none : Option Jvm.ClassFile.FieldType) ∈ gTb := gtb4 97 rfl rfl
theorem gw4_98 : Jvm.Cond.methodLink "PressureNet$State" (53 : Nat) ({ cls := "PressureNet$Net", name := "addNumber", desc := "(III)V" } : Jvm.MethodName) ∈ gTb := gtb4 98 rfl rfl
theorem gw4_99 : Jvm.Cond.instanceMethod ({ cls := "PressureNet$Net", name := "addNumber", desc := "(III)V" } : Jvm.MethodName) ∈ gTb := gtb4 99 rfl rfl
theorem gw4_100 : Jvm.Cond.selects "PressureNet$Net" ({ cls := "PressureNet$Net", name := "addNumber", desc := "(III)V" } : Jvm.MethodName) ({ cls := "PressureNet$Net", name := "addNumber", desc := "(III)V" } : Jvm.MethodName) ∈ gTb := gtb4 100 rfl rfl
theorem gw4_101 : Jvm.Cond.code ({ cls := "PressureNet$Net", name := "addNumber", desc := "(III)V" } : Jvm.MethodName) prog_4_method_12_code (4 : Nat) (Option.none : Option Jvm.ClassFile.FieldType) ∈ gTb := gtb4 101 rfl rfl
theorem gw4_109 : Jvm.Cond.methodLink "PressureNet" (171 : Nat) ({ cls := "PressureNet", name := "pair", desc := "(II)I" } : Jvm.MethodName) ∈ gTb := gtb4 109 rfl rfl
theorem gw4_110 : Jvm.Cond.methodLink "PressureNet" (174 : Nat) ({ cls := "PressureNet$State", name := "loseAll", desc := "(I)I" } : Jvm.MethodName) ∈ gTb := gtb4 110 rfl rfl
theorem gw4_111 : Jvm.Cond.instanceMethod ({ cls := "PressureNet$State", name := "loseAll", desc := "(I)I" } : Jvm.MethodName) ∈ gTb := gtb4 111 rfl rfl
theorem gw4_112 : Jvm.Cond.selects "PressureNet$State" ({ cls := "PressureNet$State", name := "loseAll", desc := "(I)I" } : Jvm.MethodName) ({ cls := "PressureNet$State", name := "loseAll", desc := "(I)I" } : Jvm.MethodName) ∈ gTb := gtb4 112 rfl rfl
theorem gw4_113 : Jvm.Cond.code ({ cls := "PressureNet$State", name := "loseAll", desc := "(I)I" } : Jvm.MethodName) prog_9_method_5_code (5 : Nat) (Option.some Jvm.ClassFile.FieldType.int) ∈ gTb := gtb4 113 rfl rfl
theorem gw4_114 : Jvm.Cond.methodLink "PressureNet$State" (61 : Nat) ({ cls := "PressureNet$Queues", name := "takeBehind", desc := "(II)I" } : Jvm.MethodName) ∈ gTb := gtb4 114 rfl rfl
theorem gw4_115 : Jvm.Cond.instanceMethod ({ cls := "PressureNet$Queues", name := "takeBehind", desc := "(II)I" } : Jvm.MethodName) ∈ gTb := gtb4 115 rfl rfl
theorem gw4_116 : Jvm.Cond.selects "PressureNet$Queues" ({ cls := "PressureNet$Queues", name := "takeBehind", desc := "(II)I" } : Jvm.MethodName) ({ cls := "PressureNet$Queues", name := "takeBehind", desc := "(II)I" } : Jvm.MethodName) ∈ gTb := gtb4 116 rfl rfl
theorem gw4_117 : Jvm.Cond.code ({ cls := "PressureNet$Queues", name := "takeBehind", desc := "(II)I" } : Jvm.MethodName) prog_6_method_6_code (4 : Nat) (Option.some Jvm.ClassFile.FieldType.int) ∈ gTb := gtb4 117 rfl rfl
theorem gw4_118 : Jvm.Cond.methodLink "PressureNet$State" (67 : Nat) ({ cls := "PressureNet$Queues", name := "release", desc := "(I)V" } : Jvm.MethodName) ∈ gTb := gtb4 118 rfl rfl
theorem gw4_119 : Jvm.Cond.instanceMethod ({ cls := "PressureNet$Queues", name := "release", desc := "(I)V" } : Jvm.MethodName) ∈ gTb := gtb4 119 rfl rfl
theorem gw4_120 : Jvm.Cond.selects "PressureNet$Queues" ({ cls := "PressureNet$Queues", name := "release", desc := "(I)V" } : Jvm.MethodName) ({ cls := "PressureNet$Queues", name := "release", desc := "(I)V" } : Jvm.MethodName) ∈ gTb := gtb4 120 rfl rfl
theorem gw4_121 : Jvm.Cond.code ({ cls := "PressureNet$Queues", name := "release", desc := "(I)V" } : Jvm.MethodName) prog_6_method_7_code (2 : Nat) (Option.none : Option Jvm.ClassFile.FieldType) ∈ gTb := gtb4 121 rfl rfl
theorem gw4_130 : Jvm.Cond.methodLink "PressureNet" (201 : Nat) ({ cls := "PressureNet$SlotRunner", name := "passSlots", desc := "(LPressureNet$State;I)V" } : Jvm.MethodName) ∈ gTb := gtb4 130 rfl rfl
theorem gw4_131 : Jvm.Cond.instanceMethod ({ cls := "PressureNet$SlotRunner", name := "passSlots", desc := "(LPressureNet$State;I)V" } : Jvm.MethodName) ∈ gTb := gtb4 131 rfl rfl
theorem gw4_132 : Jvm.Cond.selects "PressureNet$SlotRunner" ({ cls := "PressureNet$SlotRunner", name := "passSlots", desc := "(LPressureNet$State;I)V" } : Jvm.MethodName) ({ cls := "PressureNet$SlotRunner", name := "passSlots", desc := "(LPressureNet$State;I)V" } : Jvm.MethodName) ∈ gTb := gtb4 132 rfl rfl
theorem gw4_133 : Jvm.Cond.code ({ cls := "PressureNet$SlotRunner", name := "passSlots", desc := "(LPressureNet$State;I)V" } : Jvm.MethodName) prog_8_method_2_code (4 : Nat) (Option.none : Option Jvm.ClassFile.FieldType) ∈ gTb := gtb4 133 rfl rfl
theorem gw4_134 : Jvm.Cond.methodLink "PressureNet$SlotRunner" (28 : Nat) ({ cls := "PressureNet$SlotRunner", name := "passSlot", desc := "(LPressureNet$State;)V" } : Jvm.MethodName) ∈ gTb := gtb4 134 rfl rfl
theorem gw4_135 : Jvm.Cond.instanceMethod ({ cls := "PressureNet$SlotRunner", name := "passSlot", desc := "(LPressureNet$State;)V" } : Jvm.MethodName) ∈ gTb := gtb4 135 rfl rfl
theorem gw4_136 : Jvm.Cond.selects "PressureNet$SlotRunner" ({ cls := "PressureNet$SlotRunner", name := "passSlot", desc := "(LPressureNet$State;)V" } : Jvm.MethodName) ({ cls := "PressureNet$SlotRunner", name := "passSlot", desc := "(LPressureNet$State;)V" } : Jvm.MethodName) ∈ gTb := gtb4 136 rfl rfl
theorem gw4_137 : Jvm.Cond.code ({ cls := "PressureNet$SlotRunner", name := "passSlot", desc := "(LPressureNet$State;)V" } : Jvm.MethodName) prog_8_method_3_code (3 : Nat) (Option.none : Option Jvm.ClassFile.FieldType) ∈ gTb := gtb4 137 rfl rfl
theorem gw4_138 : Jvm.Cond.methodLink "PressureNet$SlotRunner" (44 : Nat) ({ cls := "PressureNet$SlotRunner", name := "letArrive", desc := "(LPressureNet$State;I)V" } : Jvm.MethodName) ∈ gTb := gtb4 138 rfl rfl
theorem gw4_139 : Jvm.Cond.static ({ cls := "PressureNet$SlotRunner", name := "letArrive", desc := "(LPressureNet$State;I)V" } : Jvm.MethodName) ∈ gTb := gtb4 139 rfl rfl
theorem gw4_140 : Jvm.Cond.code ({ cls := "PressureNet$SlotRunner", name := "letArrive", desc := "(LPressureNet$State;I)V" } : Jvm.MethodName) prog_8_method_4_code (5 : Nat) (Option.none : Option Jvm.ClassFile.FieldType) ∈ gTb := gtb4 140 rfl rfl
theorem gw4_141 : Jvm.Cond.methodLink "PressureNet$SlotRunner" (82 : Nat) ({ cls := "PressureNet$Net", name := "getNumber", desc := "(II)I" } : Jvm.MethodName) ∈ gTb := gtb4 141 rfl rfl
theorem gw4_142 : Jvm.Cond.methodLink "PressureNet$SlotRunner" (85 : Nat) ({ cls := "PressureNet$SlotRunner", name := "growth", desc := "(II)I" } : Jvm.MethodName) ∈ gTb := gtb4 142 rfl rfl
theorem gw4_143 : Jvm.Cond.static ({ cls := "PressureNet$SlotRunner", name := "growth", desc := "(II)I" } : Jvm.MethodName) ∈ gTb := gtb4 143 rfl rfl
theorem gw4_144 : Jvm.Cond.code ({ cls := "PressureNet$SlotRunner", name := "growth", desc := "(II)I" } : Jvm.MethodName) prog_8_method_5_code (2 : Nat) (Option.some Jvm.ClassFile.FieldType.int) ∈ gTb := gtb4 144 rfl rfl
theorem gw4_145 : Jvm.Cond.methodLink "PressureNet$SlotRunner" (88 : Nat) ({ cls := "PressureNet$State", name := "arrive", desc := "(II)I" } : Jvm.MethodName) ∈ gTb := gtb4 145 rfl rfl
theorem gw4_146 : Jvm.Cond.methodLinkNest "PressureNet$SlotRunner" (91 : Nat) ({ cls := "PressureNet", name := "pair", desc := "(II)I" } : Jvm.MethodName) "PressureNet" ∈ gNw := gnw4 146 rfl rfl
theorem gw4_147 : Jvm.Cond.methodLink "PressureNet$SlotRunner" (51 : Nat) ({ cls := "PressureNet$Plan", name := "choose", desc := "(LPressureNet$State;I)I" } : Jvm.MethodName) ∈ gTb := gtb4 147 rfl rfl
theorem gw4_148 : Jvm.Cond.instanceMethod ({ cls := "PressureNet$Plan", name := "choose", desc := "(LPressureNet$State;I)I" } : Jvm.MethodName) ∈ gTb := gtb4 148 rfl rfl
theorem gw4_149 : Jvm.Cond.selects "PressureNet$Plan" ({ cls := "PressureNet$Plan", name := "choose", desc := "(LPressureNet$State;I)I" } : Jvm.MethodName) ({ cls := "PressureNet$Plan", name := "choose", desc := "(LPressureNet$State;I)I" } : Jvm.MethodName) ∈ gTb := gtb4 149 rfl rfl
theorem gw4_150 : Jvm.Cond.code ({ cls := "PressureNet$Plan", name := "choose", desc := "(LPressureNet$State;I)I" } : Jvm.MethodName) prog_5_method_2_code (5 : Nat) (Option.some Jvm.ClassFile.FieldType.int) ∈ gTb := gtb4 150 rfl rfl
theorem gw4_151 : Jvm.Cond.methodLink "PressureNet$Plan" (30 : Nat) ({ cls := "PressureNet$Plan", name := "weigh", desc := "(LPressureNet$State;I)V" } : Jvm.MethodName) ∈ gTb := gtb4 151 rfl rfl
theorem gw4_153 : Jvm.Cond.instanceMethod ({ cls := "PressureNet$Plan", name := "weigh", desc := "(LPressureNet$State;I)V" } : Jvm.MethodName) ∈ gTb := gtb4 153 rfl rfl
theorem gw4_154 : Jvm.Cond.code ({ cls := "PressureNet$Plan", name := "weigh", desc := "(LPressureNet$State;I)V" } : Jvm.MethodName) prog_5_method_3_code (12 : Nat) (Option.none : Option Jvm.ClassFile.FieldType) ∈ gTb := gtb4 154 rfl rfl
theorem gw4_155 : Jvm.Cond.methodLinkNest "PressureNet$Plan" (66 : Nat) ({ cls := "PressureNet", name := "pair", desc := "(II)I" } : Jvm.MethodName) "PressureNet" ∈ gNw := gnw4 155 rfl rfl
theorem gw4_156 : Jvm.Cond.methodLink "PressureNet$Plan" (79 : Nat) ({ cls := "java/lang/Math", name := "max", desc := "(II)I" } : Jvm.MethodName) ∈ gTb := gtb4 156 rfl rfl
theorem gw4_157 : Jvm.Cond.static ({ cls := "java/lang/Math", name := "max", desc := "(II)I" } : Jvm.MethodName) ∈ gTb := gtb4 157 rfl rfl
theorem gw4_158 : Jvm.Cond.code ({ cls := "java/lang/Math", name := "max", desc := "(II)I" } : Jvm.MethodName) prog_19_method_65_code (2 : Nat) (Option.some Jvm.ClassFile.FieldType.int) ∈ gTb := gtb4 158 rfl rfl
theorem gw4_159 : Jvm.Cond.methodLink "PressureNet$Plan" (34 : Nat) ({ cls := "PressureNet$Plan", name := "greediest", desc := "(ILPressureNet$Net;)I" } : Jvm.MethodName) ∈ gTb := gtb4 159 rfl rfl
theorem gw4_161 : Jvm.Cond.instanceMethod ({ cls := "PressureNet$Plan", name := "greediest", desc := "(ILPressureNet$Net;)I" } : Jvm.MethodName) ∈ gTb := gtb4 161 rfl rfl
theorem gw4_162 : Jvm.Cond.code ({ cls := "PressureNet$Plan", name := "greediest", desc := "(ILPressureNet$Net;)I" } : Jvm.MethodName) prog_5_method_4_code (8 : Nat) (Option.some Jvm.ClassFile.FieldType.int) ∈ gTb := gtb4 162 rfl rfl
theorem gw4_163 : Jvm.Cond.methodLink "PressureNet$Plan" (41 : Nat) ({ cls := "PressureNet$Plan", name := "heaviest", desc := "(II[I[I)I" } : Jvm.MethodName) ∈ gTb := gtb4 163 rfl rfl
theorem gw4_164 : Jvm.Cond.static ({ cls := "PressureNet$Plan", name := "heaviest", desc := "(II[I[I)I" } : Jvm.MethodName) ∈ gTb := gtb4 164 rfl rfl
theorem gw4_165 : Jvm.Cond.code ({ cls := "PressureNet$Plan", name := "heaviest", desc := "(II[I[I)I" } : Jvm.MethodName) prog_5_method_5_code (8 : Nat) (Option.some Jvm.ClassFile.FieldType.int) ∈ gTb := gtb4 165 rfl rfl
theorem gw4_166 : Jvm.Cond.methodLink "PressureNet$Plan" (84 : Nat) ({ cls := "PressureNet$Plan", name := "sumOfWeights", desc := "(I[I)I" } : Jvm.MethodName) ∈ gTb := gtb4 166 rfl rfl
theorem gw4_167 : Jvm.Cond.static ({ cls := "PressureNet$Plan", name := "sumOfWeights", desc := "(I[I)I" } : Jvm.MethodName) ∈ gTb := gtb4 167 rfl rfl
theorem gw4_168 : Jvm.Cond.code ({ cls := "PressureNet$Plan", name := "sumOfWeights", desc := "(I[I)I" } : Jvm.MethodName) prog_5_method_6_code (4 : Nat) (Option.some Jvm.ClassFile.FieldType.int) ∈ gTb := gtb4 168 rfl rfl
theorem gw4_169 : Jvm.Cond.methodLink "PressureNet$SlotRunner" (55 : Nat) ({ cls := "PressureNet$SlotRunner", name := "transmit", desc := "(LPressureNet$State;I)V" } : Jvm.MethodName) ∈ gTb := gtb4 169 rfl rfl
theorem gw4_171 : Jvm.Cond.instanceMethod ({ cls := "PressureNet$SlotRunner", name := "transmit", desc := "(LPressureNet$State;I)V" } : Jvm.MethodName) ∈ gTb := gtb4 171 rfl rfl
theorem gw4_172 : Jvm.Cond.code ({ cls := "PressureNet$SlotRunner", name := "transmit", desc := "(LPressureNet$State;I)V" } : Jvm.MethodName) prog_8_method_6_code (4 : Nat) (Option.none : Option Jvm.ClassFile.FieldType) ∈ gTb := gtb4 172 rfl rfl
theorem gw4_173 : Jvm.Cond.methodLink "PressureNet$SlotRunner" (100 : Nat) ({ cls := "PressureNet$SlotRunner", name := "takeFor", desc := "(LPressureNet$State;I)V" } : Jvm.MethodName) ∈ gTb := gtb4 173 rfl rfl
theorem gw4_175 : Jvm.Cond.instanceMethod ({ cls := "PressureNet$SlotRunner", name := "takeFor", desc := "(LPressureNet$State;I)V" } : Jvm.MethodName) ∈ gTb := gtb4 175 rfl rfl
theorem gw4_176 : Jvm.Cond.code ({ cls := "PressureNet$SlotRunner", name := "takeFor", desc := "(LPressureNet$State;I)V" } : Jvm.MethodName) prog_8_method_7_code (7 : Nat) (Option.none : Option Jvm.ClassFile.FieldType) ∈ gTb := gtb4 176 rfl rfl
theorem gw4_177 : Jvm.Cond.methodLink "PressureNet$SlotRunner" (118 : Nat) ({ cls := "java/lang/Math", name := "min", desc := "(II)I" } : Jvm.MethodName) ∈ gTb := gtb4 177 rfl rfl
theorem gw4_178 : Jvm.Cond.static ({ cls := "java/lang/Math", name := "min", desc := "(II)I" } : Jvm.MethodName) ∈ gTb := gtb4 178 rfl rfl
theorem gw4_179 : Jvm.Cond.code ({ cls := "java/lang/Math", name := "min", desc := "(II)I" } : Jvm.MethodName) prog_19_method_69_code (2 : Nat) (Option.some Jvm.ClassFile.FieldType.int) ∈ gTb := gtb4 179 rfl rfl
theorem gw4_180 : Jvm.Cond.methodLink "PressureNet$SlotRunner" (121 : Nat) ({ cls := "PressureNet$Queues", name := "takeBehind", desc := "(II)I" } : Jvm.MethodName) ∈ gTb := gtb4 180 rfl rfl
theorem gw4_181 : Jvm.Cond.methodLink "PressureNet$SlotRunner" (103 : Nat) ({ cls := "PressureNet$SlotRunner", name := "bringOver", desc := "(LPressureNet$State;I)V" } : Jvm.MethodName) ∈ gTb := gtb4 181 rfl rfl
theorem gw4_183 : Jvm.Cond.instanceMethod ({ cls := "PressureNet$SlotRunner", name := "bringOver", desc := "(LPressureNet$State;I)V" } : Jvm.MethodName) ∈ gTb := gtb4 183 rfl rfl
theorem gw4_184 : Jvm.Cond.code ({ cls := "PressureNet$SlotRunner", name := "bringOver", desc := "(LPressureNet$State;I)V" } : Jvm.MethodName) prog_8_method_8_code (8 : Nat) (Option.none : Option Jvm.ClassFile.FieldType) ∈ gTb := gtb4 184 rfl rfl
theorem gw4_185 : Jvm.Cond.methodLink "PressureNet$SlotRunner" (130 : Nat) ({ cls := "PressureNet$SlotRunner", name := "deliver", desc := "(LPressureNet$State;I)V" } : Jvm.MethodName) ∈ gTb := gtb4 185 rfl rfl
theorem gw4_186 : Jvm.Cond.static ({ cls := "PressureNet$SlotRunner", name := "deliver", desc := "(LPressureNet$State;I)V" } : Jvm.MethodName) ∈ gTb := gtb4 186 rfl rfl
theorem gw4_187 : Jvm.Cond.code ({ cls := "PressureNet$SlotRunner", name := "deliver", desc := "(LPressureNet$State;I)V" } : Jvm.MethodName) prog_8_method_9_code (5 : Nat) (Option.none : Option Jvm.ClassFile.FieldType) ∈ gTb := gtb4 187 rfl rfl
theorem gw4_188 : Jvm.Cond.methodLink "PressureNet$SlotRunner" (143 : Nat) ({ cls := "PressureNet$Net", name := "addNumber", desc := "(III)V" } : Jvm.MethodName) ∈ gTb := gtb4 188 rfl rfl
theorem gw4_189 : Jvm.Cond.methodLink "PressureNet$SlotRunner" (76 : Nat) ({ cls := "java/lang/Math", name := "max", desc := "(II)I" } : Jvm.MethodName) ∈ gTb := gtb4 189 rfl rfl
theorem gw4_190 : Jvm.Cond.methodLink "PressureNet$SlotRunner" (147 : Nat) ({ cls := "PressureNet$Net", name := "putNumber", desc := "(III)V" } : Jvm.MethodName) ∈ gTb := gtb4 190 rfl rfl
theorem gw4_191 : Jvm.Cond.methodLink "PressureNet$SlotRunner" (150 : Nat) ({ cls := "PressureNet$Queues", name := "release", desc := "(I)V" } : Jvm.MethodName) ∈ gTb := gtb4 191 rfl rfl
theorem gw4_192 : Jvm.Cond.methodLink "PressureNet$SlotRunner" (133 : Nat) ({ cls := "PressureNet$SlotRunner", name := "pass", desc := "(LPressureNet$State;III)V" } : Jvm.MethodName) ∈ gTb := gtb4 192 rfl rfl
theorem gw4_193 : Jvm.Cond.static ({ cls := "PressureNet$SlotRunner", name := "pass", desc := "(LPressureNet$State;III)V" } : Jvm.MethodName) ∈ gTb := gtb4 193 rfl rfl
theorem gw4_194 : Jvm.Cond.code ({ cls := "PressureNet$SlotRunner", name := "pass", desc := "(LPressureNet$State;III)V" } : Jvm.MethodName) prog_8_method_10_code (5 : Nat) (Option.none : Option Jvm.ClassFile.FieldType) ∈ gTb := gtb4 194 rfl rfl
theorem gw4_195 : Jvm.Cond.methodLink "PressureNet$SlotRunner" (160 : Nat) ({ cls := "PressureNet$Queues", name := "putLast", desc := "(II)V" } : Jvm.MethodName) ∈ gTb := gtb4 195 rfl rfl
theorem gw4_196 : Jvm.Cond.methodLink "PressureNet$SlotRunner" (58 : Nat) ({ cls := "PressureNet$State", name := "expireAll", desc := "()V" } : Jvm.MethodName) ∈ gTb := gtb4 196 rfl rfl
theorem gw4_197 : Jvm.Cond.instanceMethod ({ cls := "PressureNet$State", name := "expireAll", desc := "()V" } : Jvm.MethodName) ∈ gTb := gtb4 197 rfl rfl
theorem gw4_198 : Jvm.Cond.selects "PressureNet$State" ({ cls := "PressureNet$State", name := "expireAll", desc := "()V" } : Jvm.MethodName) ({ cls := "PressureNet$State", name := "expireAll", desc := "()V" } : Jvm.MethodName) ∈ gTb := gtb4 198 rfl rfl
theorem gw4_199 : Jvm.Cond.code ({ cls := "PressureNet$State", name := "expireAll", desc := "()V" } : Jvm.MethodName) prog_9_method_8_code (2 : Nat) (Option.none : Option Jvm.ClassFile.FieldType) ∈ gTb := gtb4 199 rfl rfl
theorem gw4_200 : Jvm.Cond.methodLink "PressureNet$State" (87 : Nat) ({ cls := "PressureNet$Net", name := "hasBudget", desc := "()Z" } : Jvm.MethodName) ∈ gTb := gtb4 200 rfl rfl
theorem gw4_201 : Jvm.Cond.instanceMethod ({ cls := "PressureNet$Net", name := "hasBudget", desc := "()Z" } : Jvm.MethodName) ∈ gTb := gtb4 201 rfl rfl
theorem gw4_202 : Jvm.Cond.selects "PressureNet$Net" ({ cls := "PressureNet$Net", name := "hasBudget", desc := "()Z" } : Jvm.MethodName) ({ cls := "PressureNet$Net", name := "hasBudget", desc := "()Z" } : Jvm.MethodName) ∈ gTb := gtb4 202 rfl rfl
theorem gw4_203 : Jvm.Cond.code ({ cls := "PressureNet$Net", name := "hasBudget", desc := "()Z" } : Jvm.MethodName) prog_4_method_14_code (2 : Nat) (Option.some Jvm.ClassFile.FieldType.boolean) ∈ gTb := gtb4 203 rfl rfl
theorem gw4_204 : Jvm.Cond.methodLink "PressureNet$Net" (68 : Nat) ({ cls := "PressureNet$Net", name := "getNumber", desc := "(II)I" } : Jvm.MethodName) ∈ gTb := gtb4 204 rfl rfl
theorem gw4_205 : Jvm.Cond.methodLink "PressureNet$State" (91 : Nat) ({ cls := "PressureNet$State", name := "expireIn", desc := "(I)V" } : Jvm.MethodName) ∈ gTb := gtb4 205 rfl rfl
theorem gw4_207 : Jvm.Cond.instanceMethod ({ cls := "PressureNet$State", name := "expireIn", desc := "(I)V" } : Jvm.MethodName) ∈ gTb := gtb4 207 rfl rfl
theorem gw4_208 : Jvm.Cond.code ({ cls := "PressureNet$State", name := "expireIn", desc := "(I)V" } : Jvm.MethodName) prog_9_method_9_code (8 : Nat) (Option.none : Option Jvm.ClassFile.FieldType) ∈ gTb := gtb4 208 rfl rfl
theorem gw4_209 : Jvm.Cond.methodLink "PressureNet$State" (77 : Nat) ({ cls := "PressureNet$State", name := "deadline", desc := "(I)I" } : Jvm.MethodName) ∈ gTb := gtb4 209 rfl rfl
theorem gw4_211 : Jvm.Cond.instanceMethod ({ cls := "PressureNet$State", name := "deadline", desc := "(I)I" } : Jvm.MethodName) ∈ gTb := gtb4 211 rfl rfl
theorem gw4_212 : Jvm.Cond.code ({ cls := "PressureNet$State", name := "deadline", desc := "(I)I" } : Jvm.MethodName) prog_9_method_6_code (3 : Nat) (Option.some Jvm.ClassFile.FieldType.int) ∈ gTb := gtb4 212 rfl rfl
theorem gw4_221 : Jvm.Cond.methodLink "PressureNet" (210 : Nat) ({ cls := "PressureNet$History", name := "takeBack", desc := "(LPressureNet$State;)V" } : Jvm.MethodName) ∈ gTb := gtb4 221 rfl rfl
theorem gw4_222 : Jvm.Cond.instanceMethod ({ cls := "PressureNet$History", name := "takeBack", desc := "(LPressureNet$State;)V" } : Jvm.MethodName) ∈ gTb := gtb4 222 rfl rfl
theorem gw4_223 : Jvm.Cond.selects "PressureNet$History" ({ cls := "PressureNet$History", name := "takeBack", desc := "(LPressureNet$State;)V" } : Jvm.MethodName) ({ cls := "PressureNet$History", name := "takeBack", desc := "(LPressureNet$State;)V" } : Jvm.MethodName) ∈ gTb := gtb4 223 rfl rfl
theorem gw4_224 : Jvm.Cond.code ({ cls := "PressureNet$History", name := "takeBack", desc := "(LPressureNet$State;)V" } : Jvm.MethodName) prog_3_method_3_code (2 : Nat) (Option.none : Option Jvm.ClassFile.FieldType) ∈ gTb := gtb4 224 rfl rfl
theorem gw5_7 : Jvm.Cond.methodLink "PressureNet" (230 : Nat) ({ cls := "PressureNet", name := "plannedNumber", desc := "(II)I" } : Jvm.MethodName) ∈ gTb := gtb5 7 rfl rfl
theorem gw5_9 : Jvm.Cond.instanceMethod ({ cls := "PressureNet", name := "plannedNumber", desc := "(II)I" } : Jvm.MethodName) ∈ gTb := gtb5 9 rfl rfl
theorem gw5_10 : Jvm.Cond.code ({ cls := "PressureNet", name := "plannedNumber", desc := "(II)I" } : Jvm.MethodName) prog_1_method_25_code (5 : Nat) (Option.some Jvm.ClassFile.FieldType.int) ∈ gTb := gtb5 10 rfl rfl
theorem gw5_11 : Jvm.Cond.methodLink "PressureNet" (237 : Nat) ({ cls := "PressureNet$Plan", name := "choose", desc := "(LPressureNet$State;I)I" } : Jvm.MethodName) ∈ gTb := gtb5 11 rfl rfl
theorem gw5_12 : Jvm.Cond.methodLink "PressureNet" (249 : Nat) ({ cls := "PressureNet$Plan", name := "countCarried", desc := "(LPressureNet$State;II)I" } : Jvm.MethodName) ∈ gTb := gtb5 12 rfl rfl
theorem gw5_13 : Jvm.Cond.instanceMethod ({ cls := "PressureNet$Plan", name := "countCarried", desc := "(LPressureNet$State;II)I" } : Jvm.MethodName) ∈ gTb := gtb5 13 rfl rfl
theorem gw5_14 : Jvm.Cond.selects "PressureNet$Plan" ({ cls := "PressureNet$Plan", name := "countCarried", desc := "(LPressureNet$State;II)I" } : Jvm.MethodName) ({ cls := "PressureNet$Plan", name := "countCarried", desc := "(LPressureNet$State;II)I" } : Jvm.MethodName) ∈ gTb := gtb5 14 rfl rfl
theorem gw5_15 : Jvm.Cond.code ({ cls := "PressureNet$Plan", name := "countCarried", desc := "(LPressureNet$State;II)I" } : Jvm.MethodName) prog_5_method_7_code (7 : Nat) (Option.some Jvm.ClassFile.FieldType.int) ∈ gTb := gtb5 15 rfl rfl
theorem gw5_16 : Jvm.Cond.methodLink "PressureNet$Plan" (88 : Nat) ({ cls := "java/lang/Math", name := "min", desc := "(II)I" } : Jvm.MethodName) ∈ gTb := gtb5 16 rfl rfl
theorem gw5_74 : Jvm.Cond.methodLink "PressureNet" (272 : Nat) ({ cls := "PressureNet$Queues", name := "find", desc := "(II)I" } : Jvm.MethodName) ∈ gTb := gtb5 74 rfl rfl
theorem gw5_75 : Jvm.Cond.instanceMethod ({ cls := "PressureNet$Queues", name := "find", desc := "(II)I" } : Jvm.MethodName) ∈ gTb := gtb5 75 rfl rfl
theorem gw5_76 : Jvm.Cond.selects "PressureNet$Queues" ({ cls := "PressureNet$Queues", name := "find", desc := "(II)I" } : Jvm.MethodName) ({ cls := "PressureNet$Queues", name := "find", desc := "(II)I" } : Jvm.MethodName) ∈ gTb := gtb5 76 rfl rfl
theorem gw5_77 : Jvm.Cond.code ({ cls := "PressureNet$Queues", name := "find", desc := "(II)I" } : Jvm.MethodName) prog_6_method_8_code (5 : Nat) (Option.some Jvm.ClassFile.FieldType.int) ∈ gTb := gtb5 77 rfl rfl
theorem gw5_101 : Jvm.Cond.methodLink "PressureNet" (291 : Nat) ({ cls := "PressureNet", name := "totalOf", desc := "(LPressureNet$State;I)J" } : Jvm.MethodName) ∈ gTb := gtb5 101 rfl rfl
theorem gw5_102 : Jvm.Cond.static ({ cls := "PressureNet", name := "totalOf", desc := "(LPressureNet$State;I)J" } : Jvm.MethodName) ∈ gTb := gtb5 102 rfl rfl
theorem gw5_103 : Jvm.Cond.code ({ cls := "PressureNet", name := "totalOf", desc := "(LPressureNet$State;I)J" } : Jvm.MethodName) prog_1_method_36_code (2 : Nat) (Option.some Jvm.ClassFile.FieldType.long) ∈ gTb := gtb5 103 rfl rfl
theorem gw5_104 : Jvm.Cond.methodLink "PressureNet" (298 : Nat) ({ cls := "PressureNet", name := "sumOfSquares", desc := "([I)J" } : Jvm.MethodName) ∈ gTb := gtb5 104 rfl rfl
theorem gw5_105 : Jvm.Cond.static ({ cls := "PressureNet", name := "sumOfSquares", desc := "([I)J" } : Jvm.MethodName) ∈ gTb := gtb5 105 rfl rfl
theorem gw5_106 : Jvm.Cond.code ({ cls := "PressureNet", name := "sumOfSquares", desc := "([I)J" } : Jvm.MethodName) prog_1_method_58_code (7 : Nat) (Option.some Jvm.ClassFile.FieldType.long) ∈ gTb := gtb5 106 rfl rfl
theorem gw5_122 : Jvm.Cond.methodLink "PressureNet" (303 : Nat) ({ cls := "PressureNet$State", name := "leastDeadline", desc := "()I" } : Jvm.MethodName) ∈ gTb := gtb5 122 rfl rfl
theorem gw5_123 : Jvm.Cond.instanceMethod ({ cls := "PressureNet$State", name := "leastDeadline", desc := "()I" } : Jvm.MethodName) ∈ gTb := gtb5 123 rfl rfl
theorem gw5_124 : Jvm.Cond.selects "PressureNet$State" ({ cls := "PressureNet$State", name := "leastDeadline", desc := "()I" } : Jvm.MethodName) ({ cls := "PressureNet$State", name := "leastDeadline", desc := "()I" } : Jvm.MethodName) ∈ gTb := gtb5 124 rfl rfl
theorem gw5_125 : Jvm.Cond.code ({ cls := "PressureNet$State", name := "leastDeadline", desc := "()I" } : Jvm.MethodName) prog_9_method_7_code (7 : Nat) (Option.some Jvm.ClassFile.FieldType.int) ∈ gTb := gtb5 125 rfl rfl
theorem gw5_127 : Jvm.Cond.methodLink "PressureNet" (308 : Nat) ({ cls := "java/lang/Math", name := "max", desc := "(II)I" } : Jvm.MethodName) ∈ gTb := gtb5 127 rfl rfl
theorem gw5_135 : Jvm.Cond.methodLink "PressureNet" (313 : Nat) ({ cls := "PressureNet", name := "commonDivisor", desc := "(II)I" } : Jvm.MethodName) ∈ gTb := gtb5 135 rfl rfl
theorem gw5_136 : Jvm.Cond.static ({ cls := "PressureNet", name := "commonDivisor", desc := "(II)I" } : Jvm.MethodName) ∈ gTb := gtb5 136 rfl rfl
theorem gw5_137 : Jvm.Cond.code ({ cls := "PressureNet", name := "commonDivisor", desc := "(II)I" } : Jvm.MethodName) prog_1_method_40_code (6 : Nat) (Option.some Jvm.ClassFile.FieldType.int) ∈ gTb := gtb5 137 rfl rfl
theorem gw5_153 : Jvm.Cond.methodLink "PressureNet" (318 : Nat) ({ cls := "PressureNet$Plan", name := "sumOfWeights", desc := "(I[I)I" } : Jvm.MethodName) ∈ gTb := gtb5 153 rfl rfl
theorem gw5_175 : Jvm.Cond.methodLink "PressureNet" (322 : Nat) ({ cls := "PressureNet$SlotRunner", name := "passSlot", desc := "(LPressureNet$State;)V" } : Jvm.MethodName) ∈ gTb := gtb5 175 rfl rfl
theorem gw5_184 : Jvm.Cond.methodLink "PressureNet" (327 : Nat) ({ cls := "PressureNet$Net", name := "sumNumber", desc := "(I)I" } : Jvm.MethodName) ∈ gTb := gtb5 184 rfl rfl
theorem gw5_185 : Jvm.Cond.instanceMethod ({ cls := "PressureNet$Net", name := "sumNumber", desc := "(I)I" } : Jvm.MethodName) ∈ gTb := gtb5 185 rfl rfl
theorem gw5_186 : Jvm.Cond.selects "PressureNet$Net" ({ cls := "PressureNet$Net", name := "sumNumber", desc := "(I)I" } : Jvm.MethodName) ({ cls := "PressureNet$Net", name := "sumNumber", desc := "(I)I" } : Jvm.MethodName) ∈ gTb := gtb5 186 rfl rfl
theorem gw5_187 : Jvm.Cond.code ({ cls := "PressureNet$Net", name := "sumNumber", desc := "(I)I" } : Jvm.MethodName) prog_4_method_13_code (4 : Nat) (Option.some Jvm.ClassFile.FieldType.int) ∈ gTb := gtb5 187 rfl rfl
theorem gw5_209 : Jvm.Cond.methodLink "PressureNet" (330 : Nat) ({ cls := "PressureNet", name := "staysSmall", desc := "(III)Z" } : Jvm.MethodName) ∈ gTb := gtb5 209 rfl rfl
theorem gw5_211 : Jvm.Cond.instanceMethod ({ cls := "PressureNet", name := "staysSmall", desc := "(III)Z" } : Jvm.MethodName) ∈ gTb := gtb5 211 rfl rfl
theorem gw5_212 : Jvm.Cond.code ({ cls := "PressureNet", name := "staysSmall", desc := "(III)Z" } : Jvm.MethodName) prog_1_method_50_code (5 : Nat) (Option.some Jvm.ClassFile.FieldType.boolean) ∈ gTb := gtb5 212 rfl rfl
theorem gw5_218 : Jvm.Cond.methodLink "PressureNetModel" (3 : Nat) ({ cls := "java/lang/Object", name := "<init>", desc := "()V" } : Jvm.MethodName) ∈ gTb := gtb5 218 rfl rfl
theorem gw5_219 : Jvm.Cond.methodLink "PressureNetModel" (62 : Nat) ({ cls := "PressureNetModel", name := "begin", desc := "()V" } : Jvm.MethodName) ∈ gTb := gtb5 219 rfl rfl
theorem gw5_221 : Jvm.Cond.instanceMethod ({ cls := "PressureNetModel", name := "begin", desc := "()V" } : Jvm.MethodName) ∈ gTb := gtb5 221 rfl rfl
theorem gw5_222 : Jvm.Cond.code ({ cls := "PressureNetModel", name := "begin", desc := "()V" } : Jvm.MethodName) prog_11_method_18_code (2 : Nat) (Option.none : Option Jvm.ClassFile.FieldType) ∈ gTb := gtb5 222 rfl rfl
theorem gw5_223 : Jvm.Cond.methodLink "PressureNetModel" (65 : Nat) ({ cls := "PressureNetModel", name := "layLink", desc := "([IIII)V" } : Jvm.MethodName) ∈ gTb := gtb5 223 rfl rfl
theorem gw5_224 : Jvm.Cond.static ({ cls := "PressureNetModel", name := "layLink", desc := "([IIII)V" } : Jvm.MethodName) ∈ gTb := gtb5 224 rfl rfl
theorem gw5_225 : Jvm.Cond.code ({ cls := "PressureNetModel", name := "layLink", desc := "([IIII)V" } : Jvm.MethodName) prog_11_method_20_code (5 : Nat) (Option.none : Option Jvm.ClassFile.FieldType) ∈ gTb := gtb5 225 rfl rfl
theorem gw5_226 : Jvm.Cond.methodLink "PressureNetModel" (69 : Nat) ({ cls := "PressureNetModel", name := "layFlow", desc := "([IIIII)V" } : Jvm.MethodName) ∈ gTb := gtb5 226 rfl rfl
theorem gw5_227 : Jvm.Cond.static ({ cls := "PressureNetModel", name := "layFlow", desc := "([IIIII)V" } : Jvm.MethodName) ∈ gTb := gtb5 227 rfl rfl
theorem gw5_228 : Jvm.Cond.code ({ cls := "PressureNetModel", name := "layFlow", desc := "([IIIII)V" } : Jvm.MethodName) prog_11_method_21_code (7 : Nat) (Option.none : Option Jvm.ClassFile.FieldType) ∈ gTb := gtb5 228 rfl rfl
theorem gw5_229 : Jvm.Cond.methodLink "PressureNetModel" (73 : Nat) ({ cls := "PressureNetModel", name := "takeRead", desc := "()V" } : Jvm.MethodName) ∈ gTb := gtb5 229 rfl rfl
theorem gw5_231 : Jvm.Cond.instanceMethod ({ cls := "PressureNetModel", name := "takeRead", desc := "()V" } : Jvm.MethodName) ∈ gTb := gtb5 231 rfl rfl
theorem gw5_232 : Jvm.Cond.code ({ cls := "PressureNetModel", name := "takeRead", desc := "()V" } : Jvm.MethodName) prog_11_method_33_code (1 : Nat) (Option.none : Option Jvm.ClassFile.FieldType) ∈ gTb := gtb5 232 rfl rfl
theorem gw5_233 : Jvm.Cond.methodLink "PressureNetModel" (226 : Nat) ({ cls := "PressureNetModel", name := "copy", desc := "([II[II)V" } : Jvm.MethodName) ∈ gTb := gtb5 233 rfl rfl
theorem gw5_234 : Jvm.Cond.static ({ cls := "PressureNetModel", name := "copy", desc := "([II[II)V" } : Jvm.MethodName) ∈ gTb := gtb5 234 rfl rfl
theorem gw5_235 : Jvm.Cond.code ({ cls := "PressureNetModel", name := "copy", desc := "([II[II)V" } : Jvm.MethodName) prog_11_method_32_code (5 : Nat) (Option.none : Option Jvm.ClassFile.FieldType) ∈ gTb := gtb5 235 rfl rfl
theorem gw5_236 : Jvm.Cond.fieldLink "PressureNetModel" (76 : Nat) "PressureNetModel" "thrown" "I" ∈ gTb := gtb5 236 rfl rfl
theorem gw5_237 : Jvm.Cond.fieldLink "PressureNetModel" (9 : Nat) "PressureNetModel" "buffer" "[I" ∈ gTb := gtb5 237 rfl rfl
theorem gw5_238 : Jvm.Cond.fieldLink "PressureNetModel" (84 : Nat) "PressureNetModel" "length" "I" ∈ gTb := gtb5 238 rfl rfl
theorem gw5_239 : Jvm.Cond.fieldLink "PressureNetModel" (95 : Nat) "PressureNetModel" "at" "I" ∈ gTb := gtb5 239 rfl rfl
theorem gw6_0 : Jvm.Cond.fieldLink "PressureNetModel" (102 : Nat) "PressureNetModel" "from" "I" ∈ gTb := gtb6 0 rfl rfl
theorem gw6_1 : Jvm.Cond.fieldLink "PressureNetModel" (112 : Nat) "PressureNetModel" "kind" "I" ∈ gTb := gtb6 1 rfl rfl
theorem gw6_2 : Jvm.Cond.fieldLink "PressureNetModel" (115 : Nat) "PressureNetModel" "number" "I" ∈ gTb := gtb6 2 rfl rfl
theorem gw6_3 : Jvm.Cond.fieldLink "PressureNetModel" (124 : Nat) "PressureNetModel" "wrong" "I" ∈ gTb := gtb6 3 rfl rfl
theorem gw6_4 : Jvm.Cond.fieldLink "PressureNetModel" (13 : Nat) "PressureNetModel" "read" "[I" ∈ gTb := gtb6 4 rfl rfl
theorem gw6_5 : Jvm.Cond.fieldLink "PressureNetModel" (16 : Nat) "PressureNetModel" "now" "[I" ∈ gTb := gtb6 5 rfl rfl
theorem gw6_6 : Jvm.Cond.fieldLink "PressureNetModel" (19 : Nat) "PressureNetModel" "aside" "[I" ∈ gTb := gtb6 6 rfl rfl
theorem gw6_7 : Jvm.Cond.fieldLink "PressureNetModel" (22 : Nat) "PressureNetModel" "saved" "[I" ∈ gTb := gtb6 7 rfl rfl
theorem gw6_8 : Jvm.Cond.fieldLink "PressureNetModel" (25 : Nat) "PressureNetModel" "history" "[I" ∈ gTb := gtb6 8 rfl rfl
theorem gw6_9 : Jvm.Cond.fieldLink "PressureNetModel" (230 : Nat) "PressureNetModel" "entries" "I" ∈ gTb := gtb6 9 rfl rfl
theorem gw6_10 : Jvm.Cond.fieldLink "PressureNetModel" (150 : Nat) "PressureNetModel" "told" "I" ∈ gTb := gtb6 10 rfl rfl
theorem gw6_11 : Jvm.Cond.fieldLink "PressureNetModel" (153 : Nat) "PressureNetModel" "conflictMany" "I" ∈ gTb := gtb6 11 rfl rfl
theorem gw6_12 : Jvm.Cond.fieldLink "PressureNetModel" (233 : Nat) "PressureNetModel" "isSaved" "Z" ∈ gTb := gtb6 12 rfl rfl
theorem gw6_13 : Jvm.Cond.fieldLink "PressureNetModel" (28 : Nat) "PressureNetModel" "goes" "[Z" ∈ gTb := gtb6 13 rfl rfl
theorem gw6_14 : Jvm.Cond.fieldLink "PressureNetModel" (32 : Nat) "PressureNetModel" "hop" "[I" ∈ gTb := gtb6 14 rfl rfl
theorem gw6_15 : Jvm.Cond.fieldLink "PressureNetModel" (35 : Nat) "PressureNetModel" "pressure" "[I" ∈ gTb := gtb6 15 rfl rfl
theorem gw6_16 : Jvm.Cond.fieldLink "PressureNetModel" (38 : Nat) "PressureNetModel" "filled" "[I" ∈ gTb := gtb6 16 rfl rfl
theorem gw6_17 : Jvm.Cond.fieldLink "PressureNetModel" (41 : Nat) "PressureNetModel" "commodity" "[I" ∈ gTb := gtb6 17 rfl rfl
theorem gw6_18 : Jvm.Cond.fieldLink "PressureNetModel" (44 : Nat) "PressureNetModel" "weight" "[I" ∈ gTb := gtb6 18 rfl rfl
theorem gw6_19 : Jvm.Cond.fieldLink "PressureNetModel" (272 : Nat) "PressureNetModel" "bestSet" "I" ∈ gTb := gtb6 19 rfl rfl
theorem gw6_20 : Jvm.Cond.fieldLink "PressureNetModel" (269 : Nat) "PressureNetModel" "bestSum" "I" ∈ gTb := gtb6 20 rfl rfl
theorem gw6_21 : Jvm.Cond.fieldLink "PressureNetModel" (47 : Nat) "PressureNetModel" "carried" "[I" ∈ gTb := gtb6 21 rfl rfl
theorem gw6_22 : Jvm.Cond.fieldLink "PressureNetModel" (50 : Nat) "PressureNetModel" "carrier" "[I" ∈ gTb := gtb6 22 rfl rfl
theorem gw6_23 : Jvm.Cond.fieldLink "PressureNetModel" (53 : Nat) "PressureNetModel" "amount" "[I" ∈ gTb := gtb6 23 rfl rfl
theorem gw6_24 : Jvm.Cond.fieldLink "PressureNetModel" (303 : Nat) "PressureNetModel" "carriedMany" "I" ∈ gTb := gtb6 24 rfl rfl
theorem gw6_25 : Jvm.Cond.fieldLink "PressureNetModel" (56 : Nat) "PressureNetModel" "rest" "[I" ∈ gTb := gtb6 25 rfl rfl
theorem gw6_26 : Jvm.Cond.fieldLink "PressureNetModel" (389 : Nat) "PressureNetModel" "reached" "I" ∈ gTb := gtb6 26 rfl rfl
theorem gw6_27 : Jvm.Cond.fieldLink "PressureNetModel" (59 : Nat) "PressureNetModel" "before" "[I" ∈ gTb := gtb6 27 rfl rfl
theorem gw6_93 : Jvm.Cond.arrayClass Jvm.ClassFile.FieldType.boolean ∈ gTb := gtb6 93 rfl rfl
theorem gw6_102 : Jvm.Cond.methodLink "PressureNetModel" (80 : Nat) ({ cls := "PressureNetModel", name := "byteOf", desc := "(IIIIII)I" } : Jvm.MethodName) ∈ gTb := gtb6 102 rfl rfl
theorem gw6_103 : Jvm.Cond.static ({ cls := "PressureNetModel", name := "byteOf", desc := "(IIIIII)I" } : Jvm.MethodName) ∈ gTb := gtb6 103 rfl rfl
theorem gw6_104 : Jvm.Cond.code ({ cls := "PressureNetModel", name := "byteOf", desc := "(IIIIII)I" } : Jvm.MethodName) prog_11_method_6_code (7 : Nat) (Option.some Jvm.ClassFile.FieldType.int) ∈ gTb := gtb6 104 rfl rfl
theorem gw6_105 : Jvm.Cond.methodLink "PressureNetModel" (87 : Nat) ({ cls := "PressureNetModel", name := "fails", desc := "(ZI)Z" } : Jvm.MethodName) ∈ gTb := gtb6 105 rfl rfl
theorem gw6_107 : Jvm.Cond.instanceMethod ({ cls := "PressureNetModel", name := "fails", desc := "(ZI)Z" } : Jvm.MethodName) ∈ gTb := gtb6 107 rfl rfl
theorem gw6_108 : Jvm.Cond.code ({ cls := "PressureNetModel", name := "fails", desc := "(ZI)Z" } : Jvm.MethodName) prog_11_method_4_code (3 : Nat) (Option.some Jvm.ClassFile.FieldType.boolean) ∈ gTb := gtb6 108 rfl rfl
theorem gw6_113 : Jvm.Cond.methodLink "PressureNetModel" (91 : Nat) ({ cls := "PressureNetModel", name := "in", desc := "(JJJ)Z" } : Jvm.MethodName) ∈ gTb := gtb6 113 rfl rfl
theorem gw6_114 : Jvm.Cond.static ({ cls := "PressureNetModel", name := "in", desc := "(JJJ)Z" } : Jvm.MethodName) ∈ gTb := gtb6 114 rfl rfl
theorem gw6_115 : Jvm.Cond.code ({ cls := "PressureNetModel", name := "in", desc := "(JJJ)Z" } : Jvm.MethodName) prog_11_method_3_code (6 : Nat) (Option.some Jvm.ClassFile.FieldType.boolean) ∈ gTb := gtb6 115 rfl rfl
theorem gw6_120 : Jvm.Cond.methodLink "PressureNetModel" (223 : Nat) ({ cls := "PressureNetModel", name := "parse", desc := "()I" } : Jvm.MethodName) ∈ gTb := gtb6 120 rfl rfl
theorem gw6_122 : Jvm.Cond.instanceMethod ({ cls := "PressureNetModel", name := "parse", desc := "()I" } : Jvm.MethodName) ∈ gTb := gtb6 122 rfl rfl
theorem gw6_123 : Jvm.Cond.code ({ cls := "PressureNetModel", name := "parse", desc := "()I" } : Jvm.MethodName) prog_11_method_30_code (1 : Nat) (Option.some Jvm.ClassFile.FieldType.int) ∈ gTb := gtb6 123 rfl rfl
theorem gw6_124 : Jvm.Cond.methodLink "PressureNetModel" (147 : Nat) ({ cls := "PressureNetModel", name := "step", desc := "()V" } : Jvm.MethodName) ∈ gTb := gtb6 124 rfl rfl
theorem gw6_126 : Jvm.Cond.instanceMethod ({ cls := "PressureNetModel", name := "step", desc := "()V" } : Jvm.MethodName) ∈ gTb := gtb6 126 rfl rfl
theorem gw6_127 : Jvm.Cond.code ({ cls := "PressureNetModel", name := "step", desc := "()V" } : Jvm.MethodName) prog_11_method_12_code (2 : Nat) (Option.none : Option Jvm.ClassFile.FieldType) ∈ gTb := gtb6 127 rfl rfl
theorem gw6_128 : Jvm.Cond.methodLink "PressureNetModel" (98 : Nat) ({ cls := "PressureNetModel", name := "peek", desc := "(I)I" } : Jvm.MethodName) ∈ gTb := gtb6 128 rfl rfl
theorem gw6_130 : Jvm.Cond.instanceMethod ({ cls := "PressureNetModel", name := "peek", desc := "(I)I" } : Jvm.MethodName) ∈ gTb := gtb6 130 rfl rfl
theorem gw6_131 : Jvm.Cond.code ({ cls := "PressureNetModel", name := "peek", desc := "(I)I" } : Jvm.MethodName) prog_11_method_9_code (2 : Nat) (Option.some Jvm.ClassFile.FieldType.int) ∈ gTb := gtb6 131 rfl rfl
theorem gw6_132 : Jvm.Cond.methodLink "PressureNetModel" (105 : Nat) ({ cls := "PressureNetModel", name := "isLetter", desc := "(I)Z" } : Jvm.MethodName) ∈ gTb := gtb6 132 rfl rfl
theorem gw6_133 : Jvm.Cond.static ({ cls := "PressureNetModel", name := "isLetter", desc := "(I)Z" } : Jvm.MethodName) ∈ gTb := gtb6 133 rfl rfl
theorem gw6_134 : Jvm.Cond.code ({ cls := "PressureNetModel", name := "isLetter", desc := "(I)Z" } : Jvm.MethodName) prog_11_method_10_code (1 : Nat) (Option.some Jvm.ClassFile.FieldType.boolean) ∈ gTb := gtb6 134 rfl rfl
theorem gw6_135 : Jvm.Cond.methodLink "PressureNetModel" (109 : Nat) ({ cls := "PressureNetModel", name := "isDigit", desc := "(I)Z" } : Jvm.MethodName) ∈ gTb := gtb6 135 rfl rfl
theorem gw6_136 : Jvm.Cond.static ({ cls := "PressureNetModel", name := "isDigit", desc := "(I)Z" } : Jvm.MethodName) ∈ gTb := gtb6 136 rfl rfl
theorem gw6_137 : Jvm.Cond.code ({ cls := "PressureNetModel", name := "isDigit", desc := "(I)Z" } : Jvm.MethodName) prog_11_method_11_code (1 : Nat) (Option.some Jvm.ClassFile.FieldType.boolean) ∈ gTb := gtb6 137 rfl rfl
theorem gw6_138 : Jvm.Cond.methodLink "PressureNetModel" (118 : Nat) ({ cls := "java/lang/Math", name := "min", desc := "(II)I" } : Jvm.MethodName) ∈ gTb := gtb6 138 rfl rfl
theorem gw6_140 : Jvm.Cond.methodLink "PressureNetModel" (175 : Nat) ({ cls := "PressureNetModel", name := "isWord", desc := "(Ljava/lang/String;)Z" } : Jvm.MethodName) ∈ gTb := gtb6 140 rfl rfl
theorem gw6_142 : Jvm.Cond.instanceMethod ({ cls := "PressureNetModel", name := "isWord", desc := "(Ljava/lang/String;)Z" } : Jvm.MethodName) ∈ gTb := gtb6 142 rfl rfl
theorem gw6_143 : Jvm.Cond.code ({ cls := "PressureNetModel", name := "isWord", desc := "(Ljava/lang/String;)Z" } : Jvm.MethodName) prog_11_method_15_code (4 : Nat) (Option.some Jvm.ClassFile.FieldType.boolean) ∈ gTb := gtb6 143 rfl rfl
theorem gw6_144 : Jvm.Cond.methodLink "PressureNetModel" (127 : Nat) ({ cls := "PressureNetModel", name := "isGood", desc := "()Z" } : Jvm.MethodName) ∈ gTb := gtb6 144 rfl rfl
theorem gw6_146 : Jvm.Cond.instanceMethod ({ cls := "PressureNetModel", name := "isGood", desc := "()Z" } : Jvm.MethodName) ∈ gTb := gtb6 146 rfl rfl
theorem gw6_147 : Jvm.Cond.code ({ cls := "PressureNetModel", name := "isGood", desc := "()Z" } : Jvm.MethodName) prog_11_method_14_code (1 : Nat) (Option.some Jvm.ClassFile.FieldType.boolean) ∈ gTb := gtb6 147 rfl rfl
theorem gw6_148 : Jvm.Cond.methodLink "PressureNetModel" (131 : Nat) ({ cls := "java/lang/String", name := "length", desc := "()I" } : Jvm.MethodName) ∈ gTb := gtb6 148 rfl rfl
theorem gw6_149 : Jvm.Cond.methodLink "PressureNetModel" (136 : Nat) ({ cls := "java/lang/String", name := "charAt", desc := "(I)C" } : Jvm.MethodName) ∈ gTb := gtb6 149 rfl rfl
theorem gw6_150 : Jvm.Cond.methodLink "PressureNetModel" (156 : Nat) ({ cls := "PressureNetModel", name := "takeNumber", desc := "(II)I" } : Jvm.MethodName) ∈ gTb := gtb6 150 rfl rfl
theorem gw6_152 : Jvm.Cond.instanceMethod ({ cls := "PressureNetModel", name := "takeNumber", desc := "(II)I" } : Jvm.MethodName) ∈ gTb := gtb6 152 rfl rfl
theorem gw6_153 : Jvm.Cond.code ({ cls := "PressureNetModel", name := "takeNumber", desc := "(II)I" } : Jvm.MethodName) prog_11_method_17_code (4 : Nat) (Option.some Jvm.ClassFile.FieldType.int) ∈ gTb := gtb6 153 rfl rfl
theorem gw6_154 : Jvm.Cond.methodLink "PressureNetModel" (140 : Nat) ({ cls := "PressureNetModel", name := "isNumber", desc := "(II)Z" } : Jvm.MethodName) ∈ gTb := gtb6 154 rfl rfl
theorem gw6_156 : Jvm.Cond.instanceMethod ({ cls := "PressureNetModel", name := "isNumber", desc := "(II)Z" } : Jvm.MethodName) ∈ gTb := gtb6 156 rfl rfl
theorem gw6_157 : Jvm.Cond.code ({ cls := "PressureNetModel", name := "isNumber", desc := "(II)Z" } : Jvm.MethodName) prog_11_method_16_code (3 : Nat) (Option.some Jvm.ClassFile.FieldType.boolean) ∈ gTb := gtb6 157 rfl rfl
theorem gw6_158 : Jvm.Cond.methodLink "PressureNetModel" (144 : Nat) ({ cls := "PressureNetModel", name := "fail", desc := "()V" } : Jvm.MethodName) ∈ gTb := gtb6 158 rfl rfl
theorem gw6_160 : Jvm.Cond.instanceMethod ({ cls := "PressureNetModel", name := "fail", desc := "()V" } : Jvm.MethodName) ∈ gTb := gtb6 160 rfl rfl
theorem gw6_161 : Jvm.Cond.code ({ cls := "PressureNetModel", name := "fail", desc := "()V" } : Jvm.MethodName) prog_11_method_13_code (1 : Nat) (Option.none : Option Jvm.ClassFile.FieldType) ∈ gTb := gtb6 161 rfl rfl
theorem gw6_162 : Jvm.Cond.methodLink "PressureNetModel" (220 : Nat) ({ cls := "PressureNetModel", name := "readStatement", desc := "()V" } : Jvm.MethodName) ∈ gTb := gtb6 162 rfl rfl
theorem gw6_164 : Jvm.Cond.instanceMethod ({ cls := "PressureNetModel", name := "readStatement", desc := "()V" } : Jvm.MethodName) ∈ gTb := gtb6 164 rfl rfl
theorem gw6_165 : Jvm.Cond.code ({ cls := "PressureNetModel", name := "readStatement", desc := "()V" } : Jvm.MethodName) prog_11_method_29_code (1 : Nat) (Option.none : Option Jvm.ClassFile.FieldType) ∈ gTb := gtb6 165 rfl rfl
theorem gw6_167 : Jvm.Cond.methodLink "PressureNetModel" (181 : Nat) ({ cls := "PressureNetModel", name := "linkStatement", desc := "()V" } : Jvm.MethodName) ∈ gTb := gtb6 167 rfl rfl
theorem gw6_169 : Jvm.Cond.instanceMethod ({ cls := "PressureNetModel", name := "linkStatement", desc := "()V" } : Jvm.MethodName) ∈ gTb := gtb6 169 rfl rfl
theorem gw6_170 : Jvm.Cond.code ({ cls := "PressureNetModel", name := "linkStatement", desc := "()V" } : Jvm.MethodName) prog_11_method_24_code (3 : Nat) (Option.none : Option Jvm.ClassFile.FieldType) ∈ gTb := gtb6 170 rfl rfl
theorem gw6_171 : Jvm.Cond.methodLink "PressureNetModel" (159 : Nat) ({ cls := "PressureNetModel", name := "takeNode", desc := "()I" } : Jvm.MethodName) ∈ gTb := gtb6 171 rfl rfl
theorem gw6_173 : Jvm.Cond.instanceMethod ({ cls := "PressureNetModel", name := "takeNode", desc := "()I" } : Jvm.MethodName) ∈ gTb := gtb6 173 rfl rfl
theorem gw6_174 : Jvm.Cond.code ({ cls := "PressureNetModel", name := "takeNode", desc := "()I" } : Jvm.MethodName) prog_11_method_23_code (1 : Nat) (Option.some Jvm.ClassFile.FieldType.int) ∈ gTb := gtb6 174 rfl rfl
theorem gw6_175 : Jvm.Cond.methodLink "PressureNetModel" (162 : Nat) ({ cls := "PressureNetModel", name := "linkIn", desc := "([III)I" } : Jvm.MethodName) ∈ gTb := gtb6 175 rfl rfl
theorem gw6_176 : Jvm.Cond.static ({ cls := "PressureNetModel", name := "linkIn", desc := "([III)I" } : Jvm.MethodName) ∈ gTb := gtb6 176 rfl rfl
theorem gw6_177 : Jvm.Cond.code ({ cls := "PressureNetModel", name := "linkIn", desc := "([III)I" } : Jvm.MethodName) prog_11_method_19_code (4 : Nat) (Option.some Jvm.ClassFile.FieldType.int) ∈ gTb := gtb6 177 rfl rfl
theorem gw6_178 : Jvm.Cond.methodLink "PressureNetModel" (166 : Nat) ({ cls := "PressureNetModel", name := "takeOther", desc := "(III)I" } : Jvm.MethodName) ∈ gTb := gtb6 178 rfl rfl
theorem gw6_180 : Jvm.Cond.instanceMethod ({ cls := "PressureNetModel", name := "takeOther", desc := "(III)I" } : Jvm.MethodName) ∈ gTb := gtb6 180 rfl rfl
theorem gw6_181 : Jvm.Cond.code ({ cls := "PressureNetModel", name := "takeOther", desc := "(III)I" } : Jvm.MethodName) prog_11_method_22_code (4 : Nat) (Option.some Jvm.ClassFile.FieldType.int) ∈ gTb := gtb6 181 rfl rfl
theorem gw6_183 : Jvm.Cond.methodLink "PressureNetModel" (186 : Nat) ({ cls := "PressureNetModel", name := "conflictStatement", desc := "()V" } : Jvm.MethodName) ∈ gTb := gtb6 183 rfl rfl
theorem gw6_185 : Jvm.Cond.instanceMethod ({ cls := "PressureNetModel", name := "conflictStatement", desc := "()V" } : Jvm.MethodName) ∈ gTb := gtb6 185 rfl rfl
theorem gw6_186 : Jvm.Cond.code ({ cls := "PressureNetModel", name := "conflictStatement", desc := "()V" } : Jvm.MethodName) prog_11_method_25_code (3 : Nat) (Option.none : Option Jvm.ClassFile.FieldType) ∈ gTb := gtb6 186 rfl rfl
theorem gw6_187 : Jvm.Cond.methodLink "PressureNetModel" (170 : Nat) ({ cls := "PressureNetModel", name := "has", desc := "(II)Z" } : Jvm.MethodName) ∈ gTb := gtb6 187 rfl rfl
theorem gw6_188 : Jvm.Cond.static ({ cls := "PressureNetModel", name := "has", desc := "(II)Z" } : Jvm.MethodName) ∈ gTb := gtb6 188 rfl rfl
theorem gw6_189 : Jvm.Cond.code ({ cls := "PressureNetModel", name := "has", desc := "(II)Z" } : Jvm.MethodName) prog_11_method_5_code (2 : Nat) (Option.some Jvm.ClassFile.FieldType.boolean) ∈ gTb := gtb6 189 rfl rfl
theorem gw6_191 : Jvm.Cond.methodLink "PressureNetModel" (191 : Nat) ({ cls := "PressureNetModel", name := "flowStatement", desc := "()V" } : Jvm.MethodName) ∈ gTb := gtb6 191 rfl rfl
theorem gw6_193 : Jvm.Cond.instanceMethod ({ cls := "PressureNetModel", name := "flowStatement", desc := "()V" } : Jvm.MethodName) ∈ gTb := gtb6 193 rfl rfl
theorem gw6_194 : Jvm.Cond.code ({ cls := "PressureNetModel", name := "flowStatement", desc := "()V" } : Jvm.MethodName) prog_11_method_26_code (5 : Nat) (Option.none : Option Jvm.ClassFile.FieldType) ∈ gTb := gtb6 194 rfl rfl
theorem gw6_197 : Jvm.Cond.methodLink "PressureNetModel" (196 : Nat) ({ cls := "PressureNetModel", name := "once", desc := "(Ljava/lang/String;I)Z" } : Jvm.MethodName) ∈ gTb := gtb6 197 rfl rfl
theorem gw6_199 : Jvm.Cond.instanceMethod ({ cls := "PressureNetModel", name := "once", desc := "(Ljava/lang/String;I)Z" } : Jvm.MethodName) ∈ gTb := gtb6 199 rfl rfl
theorem gw6_200 : Jvm.Cond.code ({ cls := "PressureNetModel", name := "once", desc := "(Ljava/lang/String;I)Z" } : Jvm.MethodName) prog_11_method_27_code (3 : Nat) (Option.some Jvm.ClassFile.FieldType.boolean) ∈ gTb := gtb6 200 rfl rfl
theorem gw6_203 : Jvm.Cond.methodLink "PressureNetModel" (204 : Nat) ({ cls := "PressureNetModel", name := "takeWord", desc := "(Ljava/lang/String;Ljava/lang/String;)I" } : Jvm.MethodName) ∈ gTb := gtb6 203 rfl rfl
theorem gw6_205 : Jvm.Cond.instanceMethod ({ cls := "PressureNetModel", name := "takeWord", desc := "(Ljava/lang/String;Ljava/lang/String;)I" } : Jvm.MethodName) ∈ gTb := gtb6 205 rfl rfl
theorem gw6_206 : Jvm.Cond.code ({ cls := "PressureNetModel", name := "takeWord", desc := "(Ljava/lang/String;Ljava/lang/String;)I" } : Jvm.MethodName) prog_11_method_28_code (4 : Nat) (Option.some Jvm.ClassFile.FieldType.int) ∈ gTb := gtb6 206 rfl rfl
theorem gw6_236 : Jvm.Cond.methodLink "PressureNetModel" (340 : Nat) ({ cls := "PressureNetModel", name := "areNodes", desc := "(II)Z" } : Jvm.MethodName) ∈ gTb := gtb6 236 rfl rfl
theorem gw6_238 : Jvm.Cond.instanceMethod ({ cls := "PressureNetModel", name := "areNodes", desc := "(II)Z" } : Jvm.MethodName) ∈ gTb := gtb6 238 rfl rfl
theorem gw6_239 : Jvm.Cond.code ({ cls := "PressureNetModel", name := "areNodes", desc := "(II)Z" } : Jvm.MethodName) prog_11_method_74_code (3 : Nat) (Option.some Jvm.ClassFile.FieldType.boolean) ∈ gTb := gtb6 239 rfl rfl
theorem gw7_0 : Jvm.Cond.methodLink "PressureNetModel" (337 : Nat) ({ cls := "PressureNetModel", name := "isNode", desc := "(I)Z" } : Jvm.MethodName) ∈ gTb := gtb7 0 rfl rfl
theorem gw7_2 : Jvm.Cond.instanceMethod ({ cls := "PressureNetModel", name := "isNode", desc := "(I)Z" } : Jvm.MethodName) ∈ gTb := gtb7 2 rfl rfl
theorem gw7_3 : Jvm.Cond.code ({ cls := "PressureNetModel", name := "isNode", desc := "(I)Z" } : Jvm.MethodName) prog_11_method_71_code (2 : Nat) (Option.some Jvm.ClassFile.FieldType.boolean) ∈ gTb := gtb7 3 rfl rfl
theorem gw7_4 : Jvm.Cond.constantLong "PressureNetModel" (343 : Nat) (5 : Int64) ∈ gTb := gtb7 4 rfl rfl
theorem gw7_5 : Jvm.Cond.methodLink "PressureNetModel" (345 : Nat) ({ cls := "PressureNetModel", name := "record", desc := "()V" } : Jvm.MethodName) ∈ gTb := gtb7 5 rfl rfl
theorem gw7_7 : Jvm.Cond.instanceMethod ({ cls := "PressureNetModel", name := "record", desc := "()V" } : Jvm.MethodName) ∈ gTb := gtb7 7 rfl rfl
theorem gw7_8 : Jvm.Cond.code ({ cls := "PressureNetModel", name := "record", desc := "()V" } : Jvm.MethodName) prog_11_method_35_code (2 : Nat) (Option.none : Option Jvm.ClassFile.FieldType) ∈ gTb := gtb7 8 rfl rfl
theorem gw7_13 : Jvm.Cond.methodLink "PressureNetModel" (348 : Nat) ({ cls := "PressureNetModel", name := "isLink", desc := "(I)Z" } : Jvm.MethodName) ∈ gTb := gtb7 13 rfl rfl
theorem gw7_15 : Jvm.Cond.instanceMethod ({ cls := "PressureNetModel", name := "isLink", desc := "(I)Z" } : Jvm.MethodName) ∈ gTb := gtb7 15 rfl rfl
theorem gw7_16 : Jvm.Cond.code ({ cls := "PressureNetModel", name := "isLink", desc := "(I)Z" } : Jvm.MethodName) prog_11_method_72_code (2 : Nat) (Option.some Jvm.ClassFile.FieldType.boolean) ∈ gTb := gtb7 16 rfl rfl
theorem gw7_17 : Jvm.Cond.methodLink "PressureNetModel" (351 : Nat) ({ cls := "PressureNetModel", name := "become", desc := "(II)I" } : Jvm.MethodName) ∈ gTb := gtb7 17 rfl rfl
theorem gw7_19 : Jvm.Cond.instanceMethod ({ cls := "PressureNetModel", name := "become", desc := "(II)I" } : Jvm.MethodName) ∈ gTb := gtb7 19 rfl rfl
theorem gw7_20 : Jvm.Cond.code ({ cls := "PressureNetModel", name := "become", desc := "(II)I" } : Jvm.MethodName) prog_11_method_76_code (4 : Nat) (Option.some Jvm.ClassFile.FieldType.int) ∈ gTb := gtb7 20 rfl rfl
theorem gw7_29 : Jvm.Cond.constantLong "PressureNetModel" (354 : Nat) (300 : Int64) ∈ gTb := gtb7 29 rfl rfl
theorem gw7_30 : Jvm.Cond.constantLong "PressureNetModel" (356 : Nat) (200 : Int64) ∈ gTb := gtb7 30 rfl rfl
theorem gw7_35 : Jvm.Cond.methodLink "PressureNetModel" (358 : Nat) ({ cls := "PressureNetModel", name := "isFlow", desc := "(I)Z" } : Jvm.MethodName) ∈ gTb := gtb7 35 rfl rfl
theorem gw7_37 : Jvm.Cond.instanceMethod ({ cls := "PressureNetModel", name := "isFlow", desc := "(I)Z" } : Jvm.MethodName) ∈ gTb := gtb7 37 rfl rfl
theorem gw7_38 : Jvm.Cond.code ({ cls := "PressureNetModel", name := "isFlow", desc := "(I)Z" } : Jvm.MethodName) prog_11_method_73_code (2 : Nat) (Option.some Jvm.ClassFile.FieldType.boolean) ∈ gTb := gtb7 38 rfl rfl
theorem gw7_47 : Jvm.Cond.constantLong "PressureNetModel" (361 : Nat) (3 : Int64) ∈ gTb := gtb7 47 rfl rfl
theorem gw7_48 : Jvm.Cond.methodLink "PressureNetModel" (363 : Nat) ({ cls := "PressureNetModel", name := "mostOf", desc := "(I)I" } : Jvm.MethodName) ∈ gTb := gtb7 48 rfl rfl
theorem gw7_49 : Jvm.Cond.static ({ cls := "PressureNetModel", name := "mostOf", desc := "(I)I" } : Jvm.MethodName) ∈ gTb := gtb7 49 rfl rfl
theorem gw7_50 : Jvm.Cond.code ({ cls := "PressureNetModel", name := "mostOf", desc := "(I)I" } : Jvm.MethodName) prog_11_method_82_code (1 : Nat) (Option.some Jvm.ClassFile.FieldType.int) ∈ gTb := gtb7 50 rfl rfl
theorem gw7_55 : Jvm.Cond.constantLong "PressureNetModel" (366 : Nat) (100 : Int64) ∈ gTb := gtb7 55 rfl rfl
theorem gw7_56 : Jvm.Cond.methodLink "PressureNetModel" (300 : Nat) ({ cls := "PressureNetModel", name := "arrive", desc := "(II)I" } : Jvm.MethodName) ∈ gTb := gtb7 56 rfl rfl
theorem gw7_58 : Jvm.Cond.instanceMethod ({ cls := "PressureNetModel", name := "arrive", desc := "(II)I" } : Jvm.MethodName) ∈ gTb := gtb7 58 rfl rfl
theorem gw7_59 : Jvm.Cond.code ({ cls := "PressureNetModel", name := "arrive", desc := "(II)I" } : Jvm.MethodName) prog_11_method_62_code (5 : Nat) (Option.some Jvm.ClassFile.FieldType.int) ∈ gTb := gtb7 59 rfl rfl
theorem gw7_60 : Jvm.Cond.methodLink "PressureNetModel" (289 : Nat) ({ cls := "PressureNetModel", name := "count", desc := "(III)V" } : Jvm.MethodName) ∈ gTb := gtb7 60 rfl rfl
theorem gw7_62 : Jvm.Cond.instanceMethod ({ cls := "PressureNetModel", name := "count", desc := "(III)V" } : Jvm.MethodName) ∈ gTb := gtb7 62 rfl rfl
theorem gw7_63 : Jvm.Cond.code ({ cls := "PressureNetModel", name := "count", desc := "(III)V" } : Jvm.MethodName) prog_11_method_42_code (4 : Nat) (Option.none : Option Jvm.ClassFile.FieldType) ∈ gTb := gtb7 63 rfl rfl
theorem gw7_64 : Jvm.Cond.methodLink "PressureNetModel" (240 : Nat) ({ cls := "PressureNetModel", name := "flowPart", desc := "(II)I" } : Jvm.MethodName) ∈ gTb := gtb7 64 rfl rfl
theorem gw7_66 : Jvm.Cond.instanceMethod ({ cls := "PressureNetModel", name := "flowPart", desc := "(II)I" } : Jvm.MethodName) ∈ gTb := gtb7 66 rfl rfl
theorem gw7_67 : Jvm.Cond.code ({ cls := "PressureNetModel", name := "flowPart", desc := "(II)I" } : Jvm.MethodName) prog_11_method_41_code (3 : Nat) (Option.some Jvm.ClassFile.FieldType.int) ∈ gTb := gtb7 67 rfl rfl
theorem gw7_68 : Jvm.Cond.methodLink "PressureNetModel" (293 : Nat) ({ cls := "PressureNetModel", name := "come", desc := "(IIIII)V" } : Jvm.MethodName) ∈ gTb := gtb7 68 rfl rfl
theorem gw7_70 : Jvm.Cond.instanceMethod ({ cls := "PressureNetModel", name := "come", desc := "(IIIII)V" } : Jvm.MethodName) ∈ gTb := gtb7 70 rfl rfl
theorem gw7_71 : Jvm.Cond.code ({ cls := "PressureNetModel", name := "come", desc := "(IIIII)V" } : Jvm.MethodName) prog_11_method_50_code (7 : Nat) (Option.none : Option Jvm.ClassFile.FieldType) ∈ gTb := gtb7 71 rfl rfl
theorem gw7_76 : Jvm.Cond.methodLink "PressureNetModel" (310 : Nat) ({ cls := "PressureNetModel", name := "stayAll", desc := "()V" } : Jvm.MethodName) ∈ gTb := gtb7 76 rfl rfl
theorem gw7_78 : Jvm.Cond.instanceMethod ({ cls := "PressureNetModel", name := "stayAll", desc := "()V" } : Jvm.MethodName) ∈ gTb := gtb7 78 rfl rfl
theorem gw7_79 : Jvm.Cond.code ({ cls := "PressureNetModel", name := "stayAll", desc := "()V" } : Jvm.MethodName) prog_11_method_48_code (2 : Nat) (Option.none : Option Jvm.ClassFile.FieldType) ∈ gTb := gtb7 79 rfl rfl
theorem gw7_80 : Jvm.Cond.methodLink "PressureNetModel" (246 : Nat) ({ cls := "PressureNetModel", name := "isQueued", desc := "(III)Z" } : Jvm.MethodName) ∈ gTb := gtb7 80 rfl rfl
theorem gw7_82 : Jvm.Cond.instanceMethod ({ cls := "PressureNetModel", name := "isQueued", desc := "(III)Z" } : Jvm.MethodName) ∈ gTb := gtb7 82 rfl rfl
theorem gw7_83 : Jvm.Cond.code ({ cls := "PressureNetModel", name := "isQueued", desc := "(III)Z" } : Jvm.MethodName) prog_11_method_45_code (4 : Nat) (Option.some Jvm.ClassFile.FieldType.boolean) ∈ gTb := gtb7 83 rfl rfl
theorem gw7_84 : Jvm.Cond.methodLink "PressureNetModel" (237 : Nat) ({ cls := "PressureNetModel", name := "packetPart", desc := "(II)I" } : Jvm.MethodName) ∈ gTb := gtb7 84 rfl rfl
theorem gw7_86 : Jvm.Cond.instanceMethod ({ cls := "PressureNetModel", name := "packetPart", desc := "(II)I" } : Jvm.MethodName) ∈ gTb := gtb7 86 rfl rfl
theorem gw7_87 : Jvm.Cond.code ({ cls := "PressureNetModel", name := "packetPart", desc := "(II)I" } : Jvm.MethodName) prog_11_method_43_code (3 : Nat) (Option.some Jvm.ClassFile.FieldType.int) ∈ gTb := gtb7 87 rfl rfl
theorem gw7_88 : Jvm.Cond.methodLink "PressureNetModel" (243 : Nat) ({ cls := "PressureNetModel", name := "goalOf", desc := "(I)I" } : Jvm.MethodName) ∈ gTb := gtb7 88 rfl rfl
theorem gw7_90 : Jvm.Cond.instanceMethod ({ cls := "PressureNetModel", name := "goalOf", desc := "(I)I" } : Jvm.MethodName) ∈ gTb := gtb7 90 rfl rfl
theorem gw7_91 : Jvm.Cond.code ({ cls := "PressureNetModel", name := "goalOf", desc := "(I)I" } : Jvm.MethodName) prog_11_method_44_code (2 : Nat) (Option.some Jvm.ClassFile.FieldType.int) ∈ gTb := gtb7 91 rfl rfl
theorem gw7_92 : Jvm.Cond.methodLink "PressureNetModel" (316 : Nat) ({ cls := "PressureNetModel", name := "closeUp", desc := "()I" } : Jvm.MethodName) ∈ gTb := gtb7 92 rfl rfl
theorem gw7_94 : Jvm.Cond.instanceMethod ({ cls := "PressureNetModel", name := "closeUp", desc := "()I" } : Jvm.MethodName) ∈ gTb := gtb7 94 rfl rfl
theorem gw7_95 : Jvm.Cond.code ({ cls := "PressureNetModel", name := "closeUp", desc := "()I" } : Jvm.MethodName) prog_11_method_49_code (4 : Nat) (Option.some Jvm.ClassFile.FieldType.int) ∈ gTb := gtb7 95 rfl rfl
theorem gw7_100 : Jvm.Cond.methodLink "PressureNetModel" (368 : Nat) ({ cls := "PressureNetModel", name := "shadows", desc := "(Z)J" } : Jvm.MethodName) ∈ gTb := gtb7 100 rfl rfl
theorem gw7_102 : Jvm.Cond.instanceMethod ({ cls := "PressureNetModel", name := "shadows", desc := "(Z)J" } : Jvm.MethodName) ∈ gTb := gtb7 102 rfl rfl
theorem gw7_103 : Jvm.Cond.code ({ cls := "PressureNetModel", name := "shadows", desc := "(Z)J" } : Jvm.MethodName) prog_11_method_86_code (7 : Nat) (Option.some Jvm.ClassFile.FieldType.long) ∈ gTb := gtb7 103 rfl rfl
theorem gw7_108 : Jvm.Cond.methodLink "PressureNetModel" (374 : Nat) ({ cls := "PressureNetModel", name := "areSlots", desc := "(I)Z" } : Jvm.MethodName) ∈ gTb := gtb7 108 rfl rfl
theorem gw7_109 : Jvm.Cond.static ({ cls := "PressureNetModel", name := "areSlots", desc := "(I)Z" } : Jvm.MethodName) ∈ gTb := gtb7 109 rfl rfl
theorem gw7_110 : Jvm.Cond.code ({ cls := "PressureNetModel", name := "areSlots", desc := "(I)Z" } : Jvm.MethodName) prog_11_method_88_code (1 : Nat) (Option.some Jvm.ClassFile.FieldType.boolean) ∈ gTb := gtb7 110 rfl rfl
theorem gw7_111 : Jvm.Cond.constantLong "PressureNetModel" (372 : Nat) (50 : Int64) ∈ gTb := gtb7 111 rfl rfl
theorem gw7_112 : Jvm.Cond.methodLink "PressureNetModel" (377 : Nat) ({ cls := "PressureNetModel", name := "slots", desc := "(I)V" } : Jvm.MethodName) ∈ gTb := gtb7 112 rfl rfl
theorem gw7_114 : Jvm.Cond.instanceMethod ({ cls := "PressureNetModel", name := "slots", desc := "(I)V" } : Jvm.MethodName) ∈ gTb := gtb7 114 rfl rfl
theorem gw7_115 : Jvm.Cond.code ({ cls := "PressureNetModel", name := "slots", desc := "(I)V" } : Jvm.MethodName) prog_11_method_70_code (3 : Nat) (Option.none : Option Jvm.ClassFile.FieldType) ∈ gTb := gtb7 115 rfl rfl
theorem gw7_116 : Jvm.Cond.methodLink "PressureNetModel" (334 : Nat) ({ cls := "PressureNetModel", name := "slot", desc := "()V" } : Jvm.MethodName) ∈ gTb := gtb7 116 rfl rfl
theorem gw7_118 : Jvm.Cond.instanceMethod ({ cls := "PressureNetModel", name := "slot", desc := "()V" } : Jvm.MethodName) ∈ gTb := gtb7 118 rfl rfl
theorem gw7_119 : Jvm.Cond.code ({ cls := "PressureNetModel", name := "slot", desc := "()V" } : Jvm.MethodName) prog_11_method_69_code (1 : Nat) (Option.none : Option Jvm.ClassFile.FieldType) ∈ gTb := gtb7 119 rfl rfl
theorem gw7_120 : Jvm.Cond.methodLink "PressureNetModel" (322 : Nat) ({ cls := "PressureNetModel", name := "arrivals", desc := "()V" } : Jvm.MethodName) ∈ gTb := gtb7 120 rfl rfl
theorem gw7_122 : Jvm.Cond.instanceMethod ({ cls := "PressureNetModel", name := "arrivals", desc := "()V" } : Jvm.MethodName) ∈ gTb := gtb7 122 rfl rfl
theorem gw7_123 : Jvm.Cond.code ({ cls := "PressureNetModel", name := "arrivals", desc := "()V" } : Jvm.MethodName) prog_11_method_63_code (4 : Nat) (Option.none : Option Jvm.ClassFile.FieldType) ∈ gTb := gtb7 123 rfl rfl
theorem gw7_124 : Jvm.Cond.methodLink "PressureNetModel" (297 : Nat) ({ cls := "PressureNetModel", name := "grown", desc := "(III)I" } : Jvm.MethodName) ∈ gTb := gtb7 124 rfl rfl
theorem gw7_125 : Jvm.Cond.static ({ cls := "PressureNetModel", name := "grown", desc := "(III)I" } : Jvm.MethodName) ∈ gTb := gtb7 125 rfl rfl
theorem gw7_126 : Jvm.Cond.code ({ cls := "PressureNetModel", name := "grown", desc := "(III)I" } : Jvm.MethodName) prog_11_method_61_code (3 : Nat) (Option.some Jvm.ClassFile.FieldType.int) ∈ gTb := gtb7 126 rfl rfl
theorem gw7_127 : Jvm.Cond.methodLink "PressureNetModel" (325 : Nat) ({ cls := "PressureNetModel", name := "scheduleBy", desc := "(I)I" } : Jvm.MethodName) ∈ gTb := gtb7 127 rfl rfl
theorem gw7_129 : Jvm.Cond.instanceMethod ({ cls := "PressureNetModel", name := "scheduleBy", desc := "(I)I" } : Jvm.MethodName) ∈ gTb := gtb7 129 rfl rfl
theorem gw7_130 : Jvm.Cond.code ({ cls := "PressureNetModel", name := "scheduleBy", desc := "(I)I" } : Jvm.MethodName) prog_11_method_60_code (2 : Nat) (Option.some Jvm.ClassFile.FieldType.int) ∈ gTb := gtb7 130 rfl rfl
theorem gw7_131 : Jvm.Cond.methodLink "PressureNetModel" (282 : Nat) ({ cls := "PressureNetModel", name := "layWeights", desc := "()V" } : Jvm.MethodName) ∈ gTb := gtb7 131 rfl rfl
theorem gw7_133 : Jvm.Cond.instanceMethod ({ cls := "PressureNetModel", name := "layWeights", desc := "()V" } : Jvm.MethodName) ∈ gTb := gtb7 133 rfl rfl
theorem gw7_134 : Jvm.Cond.code ({ cls := "PressureNetModel", name := "layWeights", desc := "()V" } : Jvm.MethodName) prog_11_method_55_code (2 : Nat) (Option.none : Option Jvm.ClassFile.FieldType) ∈ gTb := gtb7 134 rfl rfl
theorem gw7_135 : Jvm.Cond.methodLink "PressureNetModel" (262 : Nat) ({ cls := "PressureNetModel", name := "layPressures", desc := "()V" } : Jvm.MethodName) ∈ gTb := gtb7 135 rfl rfl
theorem gw7_137 : Jvm.Cond.instanceMethod ({ cls := "PressureNetModel", name := "layPressures", desc := "()V" } : Jvm.MethodName) ∈ gTb := gtb7 137 rfl rfl
theorem gw7_138 : Jvm.Cond.code ({ cls := "PressureNetModel", name := "layPressures", desc := "()V" } : Jvm.MethodName) prog_11_method_52_code (3 : Nat) (Option.none : Option Jvm.ClassFile.FieldType) ∈ gTb := gtb7 138 rfl rfl
theorem gw7_139 : Jvm.Cond.methodLink "PressureNetModel" (253 : Nat) ({ cls := "PressureNetModel", name := "layHops", desc := "()V" } : Jvm.MethodName) ∈ gTb := gtb7 139 rfl rfl
theorem gw7_141 : Jvm.Cond.instanceMethod ({ cls := "PressureNetModel", name := "layHops", desc := "()V" } : Jvm.MethodName) ∈ gTb := gtb7 141 rfl rfl
theorem gw7_142 : Jvm.Cond.code ({ cls := "PressureNetModel", name := "layHops", desc := "()V" } : Jvm.MethodName) prog_11_method_51_code (7 : Nat) (Option.none : Option Jvm.ClassFile.FieldType) ∈ gTb := gtb7 142 rfl rfl
theorem gw7_143 : Jvm.Cond.methodLink "PressureNetModel" (250 : Nat) ({ cls := "PressureNetModel", name := "linkPart", desc := "(II)I" } : Jvm.MethodName) ∈ gTb := gtb7 143 rfl rfl
theorem gw7_145 : Jvm.Cond.instanceMethod ({ cls := "PressureNetModel", name := "linkPart", desc := "(II)I" } : Jvm.MethodName) ∈ gTb := gtb7 145 rfl rfl
theorem gw7_146 : Jvm.Cond.code ({ cls := "PressureNetModel", name := "linkPart", desc := "(II)I" } : Jvm.MethodName) prog_11_method_40_code (3 : Nat) (Option.some Jvm.ClassFile.FieldType.int) ∈ gTb := gtb7 146 rfl rfl
theorem gw7_147 : Jvm.Cond.methodLink "PressureNetModel" (265 : Nat) ({ cls := "PressureNetModel", name := "layWeight", desc := "(I)V" } : Jvm.MethodName) ∈ gTb := gtb7 147 rfl rfl
theorem gw7_149 : Jvm.Cond.instanceMethod ({ cls := "PressureNetModel", name := "layWeight", desc := "(I)V" } : Jvm.MethodName) ∈ gTb := gtb7 149 rfl rfl
theorem gw7_150 : Jvm.Cond.code ({ cls := "PressureNetModel", name := "layWeight", desc := "(I)V" } : Jvm.MethodName) prog_11_method_54_code (8 : Nat) (Option.none : Option Jvm.ClassFile.FieldType) ∈ gTb := gtb7 150 rfl rfl
theorem gw7_151 : Jvm.Cond.methodLink "PressureNetModel" (256 : Nat) ({ cls := "PressureNetModel", name := "isPossible", desc := "(II)Z" } : Jvm.MethodName) ∈ gTb := gtb7 151 rfl rfl
theorem gw7_153 : Jvm.Cond.instanceMethod ({ cls := "PressureNetModel", name := "isPossible", desc := "(II)Z" } : Jvm.MethodName) ∈ gTb := gtb7 153 rfl rfl
theorem gw7_154 : Jvm.Cond.code ({ cls := "PressureNetModel", name := "isPossible", desc := "(II)Z" } : Jvm.MethodName) prog_11_method_53_code (4 : Nat) (Option.some Jvm.ClassFile.FieldType.boolean) ∈ gTb := gtb7 154 rfl rfl
theorem gw7_155 : Jvm.Cond.methodLink "PressureNetModel" (259 : Nat) ({ cls := "java/lang/Math", name := "max", desc := "(II)I" } : Jvm.MethodName) ∈ gTb := gtb7 155 rfl rfl
theorem gw7_156 : Jvm.Cond.methodLink "PressureNetModel" (285 : Nat) ({ cls := "PressureNetModel", name := "greedy", desc := "()I" } : Jvm.MethodName) ∈ gTb := gtb7 156 rfl rfl
theorem gw7_158 : Jvm.Cond.instanceMethod ({ cls := "PressureNetModel", name := "greedy", desc := "()I" } : Jvm.MethodName) ∈ gTb := gtb7 158 rfl rfl
theorem gw7_159 : Jvm.Cond.code ({ cls := "PressureNetModel", name := "greedy", desc := "()I" } : Jvm.MethodName) prog_11_method_56_code (6 : Nat) (Option.some Jvm.ClassFile.FieldType.int) ∈ gTb := gtb7 159 rfl rfl
theorem gw7_160 : Jvm.Cond.methodLink "PressureNetModel" (287 : Nat) ({ cls := "PressureNetModel", name := "exact", desc := "()I" } : Jvm.MethodName) ∈ gTb := gtb7 160 rfl rfl
theorem gw7_162 : Jvm.Cond.instanceMethod ({ cls := "PressureNetModel", name := "exact", desc := "()I" } : Jvm.MethodName) ∈ gTb := gtb7 162 rfl rfl
theorem gw7_163 : Jvm.Cond.code ({ cls := "PressureNetModel", name := "exact", desc := "()I" } : Jvm.MethodName) prog_11_method_59_code (3 : Nat) (Option.some Jvm.ClassFile.FieldType.int) ∈ gTb := gtb7 163 rfl rfl
theorem gw7_164 : Jvm.Cond.methodLink "PressureNetModel" (278 : Nat) ({ cls := "PressureNetModel", name := "search", desc := "(IIII)V" } : Jvm.MethodName) ∈ gTb := gtb7 164 rfl rfl
theorem gw7_166 : Jvm.Cond.instanceMethod ({ cls := "PressureNetModel", name := "search", desc := "(IIII)V" } : Jvm.MethodName) ∈ gTb := gtb7 166 rfl rfl
theorem gw7_167 : Jvm.Cond.code ({ cls := "PressureNetModel", name := "search", desc := "(IIII)V" } : Jvm.MethodName) prog_11_method_57_code (8 : Nat) (Option.none : Option Jvm.ClassFile.FieldType) ∈ gTb := gtb7 167 rfl rfl
theorem gw7_168 : Jvm.Cond.methodLink "PressureNetModel" (275 : Nat) ({ cls := "PressureNetModel", name := "hasRival", desc := "(I)Z" } : Jvm.MethodName) ∈ gTb := gtb7 168 rfl rfl
theorem gw7_170 : Jvm.Cond.instanceMethod ({ cls := "PressureNetModel", name := "hasRival", desc := "(I)Z" } : Jvm.MethodName) ∈ gTb := gtb7 170 rfl rfl
theorem gw7_171 : Jvm.Cond.code ({ cls := "PressureNetModel", name := "hasRival", desc := "(I)Z" } : Jvm.MethodName) prog_11_method_58_code (4 : Nat) (Option.some Jvm.ClassFile.FieldType.boolean) ∈ gTb := gtb7 171 rfl rfl
theorem gw7_172 : Jvm.Cond.methodLink "PressureNetModel" (328 : Nat) ({ cls := "PressureNetModel", name := "transmit", desc := "(I)V" } : Jvm.MethodName) ∈ gTb := gtb7 172 rfl rfl
theorem gw7_174 : Jvm.Cond.instanceMethod ({ cls := "PressureNetModel", name := "transmit", desc := "(I)V" } : Jvm.MethodName) ∈ gTb := gtb7 174 rfl rfl
theorem gw7_175 : Jvm.Cond.code ({ cls := "PressureNetModel", name := "transmit", desc := "(I)V" } : Jvm.MethodName) prog_11_method_67_code (4 : Nat) (Option.none : Option Jvm.ClassFile.FieldType) ∈ gTb := gtb7 175 rfl rfl
theorem gw7_176 : Jvm.Cond.methodLink "PressureNetModel" (313 : Nat) ({ cls := "PressureNetModel", name := "take", desc := "(I)V" } : Jvm.MethodName) ∈ gTb := gtb7 176 rfl rfl
theorem gw7_178 : Jvm.Cond.instanceMethod ({ cls := "PressureNetModel", name := "take", desc := "(I)V" } : Jvm.MethodName) ∈ gTb := gtb7 178 rfl rfl
theorem gw7_179 : Jvm.Cond.code ({ cls := "PressureNetModel", name := "take", desc := "(I)V" } : Jvm.MethodName) prog_11_method_64_code (7 : Nat) (Option.none : Option Jvm.ClassFile.FieldType) ∈ gTb := gtb7 179 rfl rfl
theorem gw7_180 : Jvm.Cond.methodLink "PressureNetModel" (319 : Nat) ({ cls := "PressureNetModel", name := "land", desc := "(I)V" } : Jvm.MethodName) ∈ gTb := gtb7 180 rfl rfl
theorem gw7_182 : Jvm.Cond.instanceMethod ({ cls := "PressureNetModel", name := "land", desc := "(I)V" } : Jvm.MethodName) ∈ gTb := gtb7 182 rfl rfl
theorem gw7_183 : Jvm.Cond.code ({ cls := "PressureNetModel", name := "land", desc := "(I)V" } : Jvm.MethodName) prog_11_method_66_code (5 : Nat) (Option.none : Option Jvm.ClassFile.FieldType) ∈ gTb := gtb7 183 rfl rfl
theorem gw7_184 : Jvm.Cond.methodLink "PressureNetModel" (306 : Nat) ({ cls := "PressureNetModel", name := "deliver", desc := "(II)V" } : Jvm.MethodName) ∈ gTb := gtb7 184 rfl rfl
theorem gw7_186 : Jvm.Cond.instanceMethod ({ cls := "PressureNetModel", name := "deliver", desc := "(II)V" } : Jvm.MethodName) ∈ gTb := gtb7 186 rfl rfl
theorem gw7_187 : Jvm.Cond.code ({ cls := "PressureNetModel", name := "deliver", desc := "(II)V" } : Jvm.MethodName) prog_11_method_65_code (3 : Nat) (Option.none : Option Jvm.ClassFile.FieldType) ∈ gTb := gtb7 187 rfl rfl
theorem gw7_188 : Jvm.Cond.methodLink "PressureNetModel" (331 : Nat) ({ cls := "PressureNetModel", name := "expire", desc := "()V" } : Jvm.MethodName) ∈ gTb := gtb7 188 rfl rfl
theorem gw7_190 : Jvm.Cond.instanceMethod ({ cls := "PressureNetModel", name := "expire", desc := "()V" } : Jvm.MethodName) ∈ gTb := gtb7 190 rfl rfl
theorem gw7_191 : Jvm.Cond.code ({ cls := "PressureNetModel", name := "expire", desc := "()V" } : Jvm.MethodName) prog_11_method_68_code (4 : Nat) (Option.none : Option Jvm.ClassFile.FieldType) ∈ gTb := gtb7 191 rfl rfl
theorem gw7_196 : Jvm.Cond.constantLong "PressureNetModel" (380 : Nat) (6 : Int64) ∈ gTb := gtb7 196 rfl rfl
theorem gw7_201 : Jvm.Cond.constantLong "PressureNetModel" (382 : Nat) (7 : Int64) ∈ gTb := gtb7 201 rfl rfl
theorem gw7_202 : Jvm.Cond.methodLink "PressureNetModel" (384 : Nat) ({ cls := "PressureNetModel", name := "carries", desc := "(I)I" } : Jvm.MethodName) ∈ gTb := gtb7 202 rfl rfl
theorem gw7_204 : Jvm.Cond.instanceMethod ({ cls := "PressureNetModel", name := "carries", desc := "(I)I" } : Jvm.MethodName) ∈ gTb := gtb7 204 rfl rfl
theorem gw7_205 : Jvm.Cond.code ({ cls := "PressureNetModel", name := "carries", desc := "(I)I" } : Jvm.MethodName) prog_11_method_92_code (6 : Nat) (Option.some Jvm.ClassFile.FieldType.int) ∈ gTb := gtb7 205 rfl rfl
theorem gw7_214 : Jvm.Cond.constantLong "PressureNetModel" (387 : Nat) (10 : Int64) ∈ gTb := gtb7 214 rfl rfl
theorem gw7_223 : Jvm.Cond.methodLink "PressureNetModel" (395 : Nat) ({ cls := "PressureNetModel", name := "greatestFlow", desc := "(II)I" } : Jvm.MethodName) ∈ gTb := gtb7 223 rfl rfl
theorem gw7_225 : Jvm.Cond.instanceMethod ({ cls := "PressureNetModel", name := "greatestFlow", desc := "(II)I" } : Jvm.MethodName) ∈ gTb := gtb7 225 rfl rfl
theorem gw7_226 : Jvm.Cond.code ({ cls := "PressureNetModel", name := "greatestFlow", desc := "(II)I" } : Jvm.MethodName) prog_11_method_97_code (5 : Nat) (Option.some Jvm.ClassFile.FieldType.int) ∈ gTb := gtb7 226 rfl rfl
theorem gw7_227 : Jvm.Cond.methodLink "PressureNetModel" (392 : Nat) ({ cls := "PressureNetModel", name := "reach", desc := "(I)V" } : Jvm.MethodName) ∈ gTb := gtb7 227 rfl rfl
theorem gw7_229 : Jvm.Cond.instanceMethod ({ cls := "PressureNetModel", name := "reach", desc := "(I)V" } : Jvm.MethodName) ∈ gTb := gtb7 229 rfl rfl
theorem gw7_230 : Jvm.Cond.code ({ cls := "PressureNetModel", name := "reach", desc := "(I)V" } : Jvm.MethodName) prog_11_method_96_code (4 : Nat) (Option.none : Option Jvm.ClassFile.FieldType) ∈ gTb := gtb7 230 rfl rfl
theorem gw8_3 : Jvm.Cond.methodLink "PressureNetModel" (398 : Nat) ({ cls := "PressureNetModel", name := "queued", desc := "(II)I" } : Jvm.MethodName) ∈ gTb := gtb8 3 rfl rfl
theorem gw8_5 : Jvm.Cond.instanceMethod ({ cls := "PressureNetModel", name := "queued", desc := "(II)I" } : Jvm.MethodName) ∈ gTb := gtb8 5 rfl rfl
theorem gw8_6 : Jvm.Cond.code ({ cls := "PressureNetModel", name := "queued", desc := "(II)I" } : Jvm.MethodName) prog_11_method_46_code (5 : Nat) (Option.some Jvm.ClassFile.FieldType.int) ∈ gTb := gtb8 6 rfl rfl
theorem gw8_11 : Jvm.Cond.methodLink "PressureNetModel" (401 : Nat) ({ cls := "PressureNetModel", name := "shadowOf", desc := "(II)I" } : Jvm.MethodName) ∈ gTb := gtb8 11 rfl rfl
theorem gw8_13 : Jvm.Cond.instanceMethod ({ cls := "PressureNetModel", name := "shadowOf", desc := "(II)I" } : Jvm.MethodName) ∈ gTb := gtb8 13 rfl rfl
theorem gw8_14 : Jvm.Cond.code ({ cls := "PressureNetModel", name := "shadowOf", desc := "(II)I" } : Jvm.MethodName) prog_11_method_47_code (3 : Nat) (Option.some Jvm.ClassFile.FieldType.int) ∈ gTb := gtb8 14 rfl rfl
theorem gw8_23 : Jvm.Cond.methodLink "PressureNetModel" (408 : Nat) ({ cls := "PressureNetModel", name := "totalOf", desc := "(I)J" } : Jvm.MethodName) ∈ gTb := gtb8 23 rfl rfl
theorem gw8_25 : Jvm.Cond.instanceMethod ({ cls := "PressureNetModel", name := "totalOf", desc := "(I)J" } : Jvm.MethodName) ∈ gTb := gtb8 25 rfl rfl
theorem gw8_26 : Jvm.Cond.code ({ cls := "PressureNetModel", name := "totalOf", desc := "(I)J" } : Jvm.MethodName) prog_11_method_105_code (2 : Nat) (Option.some Jvm.ClassFile.FieldType.long) ∈ gTb := gtb8 26 rfl rfl
theorem gw8_27 : Jvm.Cond.methodLink "PressureNetModel" (404 : Nat) ({ cls := "PressureNetModel", name := "squares", desc := "()J" } : Jvm.MethodName) ∈ gTb := gtb8 27 rfl rfl
theorem gw8_29 : Jvm.Cond.instanceMethod ({ cls := "PressureNetModel", name := "squares", desc := "()J" } : Jvm.MethodName) ∈ gTb := gtb8 29 rfl rfl
theorem gw8_30 : Jvm.Cond.code ({ cls := "PressureNetModel", name := "squares", desc := "()J" } : Jvm.MethodName) prog_11_method_104_code (7 : Nat) (Option.some Jvm.ClassFile.FieldType.long) ∈ gTb := gtb8 30 rfl rfl
theorem gw8_43 : Jvm.Cond.methodLink "PressureNetModel" (412 : Nat) ({ cls := "PressureNetModel", name := "common", desc := "(II)I" } : Jvm.MethodName) ∈ gTb := gtb8 43 rfl rfl
theorem gw8_44 : Jvm.Cond.static ({ cls := "PressureNetModel", name := "common", desc := "(II)I" } : Jvm.MethodName) ∈ gTb := gtb8 44 rfl rfl
theorem gw8_45 : Jvm.Cond.code ({ cls := "PressureNetModel", name := "common", desc := "(II)I" } : Jvm.MethodName) prog_11_method_109_code (2 : Nat) (Option.some Jvm.ClassFile.FieldType.int) ∈ gTb := gtb8 45 rfl rfl
theorem gw8_66 : Jvm.Cond.constantLong "PressureNetModel" (415 : Nat) (500 : Int64) ∈ gTb := gtb8 66 rfl rfl
theorem gw8_71 : Jvm.Cond.methodLink "PressureNetModel" (417 : Nat) ({ cls := "PressureNetModel", name := "sumOf", desc := "(I)I" } : Jvm.MethodName) ∈ gTb := gtb8 71 rfl rfl
theorem gw8_73 : Jvm.Cond.instanceMethod ({ cls := "PressureNetModel", name := "sumOf", desc := "(I)I" } : Jvm.MethodName) ∈ gTb := gtb8 73 rfl rfl
theorem gw8_74 : Jvm.Cond.code ({ cls := "PressureNetModel", name := "sumOf", desc := "(I)I" } : Jvm.MethodName) prog_11_method_116_code (4 : Nat) (Option.some Jvm.ClassFile.FieldType.int) ∈ gTb := gtb8 74 rfl rfl
theorem gw8_87 : Jvm.Cond.constantLong "PressureNetModel" (420 : Nat) (20 : Int64) ∈ gTb := gtb8 87 rfl rfl
theorem gw8_88 : Jvm.Cond.methodLink "PressureNetModel" (422 : Nat) ({ cls := "PressureNetModel", name := "holds", desc := "(III)Z" } : Jvm.MethodName) ∈ gTb := gtb8 88 rfl rfl
theorem gw8_90 : Jvm.Cond.instanceMethod ({ cls := "PressureNetModel", name := "holds", desc := "(III)Z" } : Jvm.MethodName) ∈ gTb := gtb8 90 rfl rfl
theorem gw8_91 : Jvm.Cond.code ({ cls := "PressureNetModel", name := "holds", desc := "(III)Z" } : Jvm.MethodName) prog_11_method_120_code (6 : Nat) (Option.some Jvm.ClassFile.FieldType.boolean) ∈ gTb := gtb8 91 rfl rfl
theorem gw8_110 : Jvm.Cond.fieldLink "java/lang/String" (9 : Nat) "java/lang/String" "value" "[B" ∈ gTb := gtb8 110 rfl rfl
theorem gw8_111 : Jvm.Cond.fieldLink "java/lang/String" (15 : Nat) "java/lang/String" "coder" "B" ∈ gTb := gtb8 111 rfl rfl
/-! the fields of the classes lie as the tables say -/
theorem gin_0 : ∀ w ∈ u_ws RX0 TX0 4, w ∈ gTb := fun w h => gTb_of (List.mem_append_right _ (of_decide_eq_true (Bool.and_eq_true_iff.mp (List.all_eq_true.mp (show (u_ws RX0 TX0 4).all (fun w => decide (w ∈ tables_1) && goodWord w) = true by decide +kernel) w h)).1)) (Bool.and_eq_true_iff.mp (List.all_eq_true.mp (show (u_ws RX0 TX0 4).all (fun w => decide (w ∈ tables_1) && goodWord w) = true by decide +kernel) w h)).2
theorem gin_1 : ∀ w ∈ u_ws RX1 TX1 2, w ∈ gTb := fun w h => gTb_of (List.mem_append_right _ (of_decide_eq_true (Bool.and_eq_true_iff.mp (List.all_eq_true.mp (show (u_ws RX1 TX1 2).all (fun w => decide (w ∈ tables_1) && goodWord w) = true by decide +kernel) w h)).1)) (Bool.and_eq_true_iff.mp (List.all_eq_true.mp (show (u_ws RX1 TX1 2).all (fun w => decide (w ∈ tables_1) && goodWord w) = true by decide +kernel) w h)).2
theorem gin_2 : ∀ w ∈ u_ws RX2 TX2 11, w ∈ gTb := fun w h => gTb_of (List.mem_append_right _ (of_decide_eq_true (Bool.and_eq_true_iff.mp (List.all_eq_true.mp (show (u_ws RX2 TX2 11).all (fun w => decide (w ∈ tables_1) && goodWord w) = true by decide +kernel) w h)).1)) (Bool.and_eq_true_iff.mp (List.all_eq_true.mp (show (u_ws RX2 TX2 11).all (fun w => decide (w ∈ tables_1) && goodWord w) = true by decide +kernel) w h)).2
theorem gin_3 : ∀ w ∈ u_ws RX3 TX3 2, w ∈ gTb := fun w h => gTb_of (List.mem_append_right _ (of_decide_eq_true (Bool.and_eq_true_iff.mp (List.all_eq_true.mp (show (u_ws RX3 TX3 2).all (fun w => decide (w ∈ tables_1) && goodWord w) = true by decide +kernel) w h)).1)) (Bool.and_eq_true_iff.mp (List.all_eq_true.mp (show (u_ws RX3 TX3 2).all (fun w => decide (w ∈ tables_1) && goodWord w) = true by decide +kernel) w h)).2
theorem gin_4 : ∀ w ∈ u_ws RX4 TX4 12, w ∈ gTb := fun w h => gTb_of (List.mem_append_right _ (of_decide_eq_true (Bool.and_eq_true_iff.mp (List.all_eq_true.mp (show (u_ws RX4 TX4 12).all (fun w => decide (w ∈ tables_1) && goodWord w) = true by decide +kernel) w h)).1)) (Bool.and_eq_true_iff.mp (List.all_eq_true.mp (show (u_ws RX4 TX4 12).all (fun w => decide (w ∈ tables_1) && goodWord w) = true by decide +kernel) w h)).2
theorem gin_5 : ∀ w ∈ u_ws RX5 TX5 9, w ∈ gTb := fun w h => gTb_of (List.mem_append_right _ (of_decide_eq_true (Bool.and_eq_true_iff.mp (List.all_eq_true.mp (show (u_ws RX5 TX5 9).all (fun w => decide (w ∈ tables_1) && goodWord w) = true by decide +kernel) w h)).1)) (Bool.and_eq_true_iff.mp (List.all_eq_true.mp (show (u_ws RX5 TX5 9).all (fun w => decide (w ∈ tables_1) && goodWord w) = true by decide +kernel) w h)).2
theorem gin_6 : ∀ w ∈ u_ws RX6 TX6 4, w ∈ gTb := fun w h => gTb_of (List.mem_append_right _ (of_decide_eq_true (Bool.and_eq_true_iff.mp (List.all_eq_true.mp (show (u_ws RX6 TX6 4).all (fun w => decide (w ∈ tables_1) && goodWord w) = true by decide +kernel) w h)).1)) (Bool.and_eq_true_iff.mp (List.all_eq_true.mp (show (u_ws RX6 TX6 4).all (fun w => decide (w ∈ tables_1) && goodWord w) = true by decide +kernel) w h)).2
theorem gin_7 : ∀ w ∈ u_ws RX7 TX7 4, w ∈ gTb := fun w h => gTb_of (List.mem_append_right _ (of_decide_eq_true (Bool.and_eq_true_iff.mp (List.all_eq_true.mp (show (u_ws RX7 TX7 4).all (fun w => decide (w ∈ tables_1) && goodWord w) = true by decide +kernel) w h)).1)) (Bool.and_eq_true_iff.mp (List.all_eq_true.mp (show (u_ws RX7 TX7 4).all (fun w => decide (w ∈ tables_1) && goodWord w) = true by decide +kernel) w h)).2
theorem gin_8 : ∀ w ∈ u_ws RX8 TX8 8, w ∈ gTb := fun w h => gTb_of (List.mem_append_right _ (of_decide_eq_true (Bool.and_eq_true_iff.mp (List.all_eq_true.mp (show (u_ws RX8 TX8 8).all (fun w => decide (w ∈ tables_1) && goodWord w) = true by decide +kernel) w h)).1)) (Bool.and_eq_true_iff.mp (List.all_eq_true.mp (show (u_ws RX8 TX8 8).all (fun w => decide (w ∈ tables_1) && goodWord w) = true by decide +kernel) w h)).2
theorem gin_9 : ∀ w ∈ u_ws RX9 TX9 32, w ∈ gTb := fun w h => gTb_of (List.mem_append_right _ (of_decide_eq_true (Bool.and_eq_true_iff.mp (List.all_eq_true.mp (show (u_ws RX9 TX9 32).all (fun w => decide (w ∈ tables_1) && goodWord w) = true by decide +kernel) w h)).1)) (Bool.and_eq_true_iff.mp (List.all_eq_true.mp (show (u_ws RX9 TX9 32).all (fun w => decide (w ∈ tables_1) && goodWord w) = true by decide +kernel) w h)).2
