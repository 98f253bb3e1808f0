def kTb : List Cond := lw_tbl.filter goodWord
theorem kTb_good : GoodIn kTb kTb := fun _ h => ⟨h, good_of_word (List.mem_filter.mp h).2⟩
theorem kTb_lw {w : Cond} (h : w ∈ kTb) : w ∈ lw_tbl := (List.mem_filter.mp h).1
theorem kwm_0 (i : Nat) {w : Cond} (h : (k2_sels lw_privs)[i]? = some w) (hg : goodWord w = true) : w ∈ kTb := List.mem_filter.mpr ⟨List.mem_append_left _ (List.mem_of_getElem? h), hg⟩
theorem kwm_1 (i : Nat) {w : Cond} (h : tables_1_1[i]? = some w) (hg : goodWord w = true) : w ∈ kTb := List.mem_filter.mpr ⟨List.mem_append_right _ (List.mem_append_left _ (List.mem_of_getElem? h)), hg⟩
theorem kwm_2 (i : Nat) {w : Cond} (h : tables_1_2[i]? = some w) (hg : goodWord w = true) : w ∈ kTb := List.mem_filter.mpr ⟨List.mem_append_right _ (List.mem_append_right _ (List.mem_append_left _ (List.mem_of_getElem? h))), hg⟩
theorem kwm_3 (i : Nat) {w : Cond} (h : tables_1_3[i]? = some w) (hg : goodWord w = true) : w ∈ kTb := List.mem_filter.mpr ⟨List.mem_append_right _ (List.mem_append_right _ (List.mem_append_right _ (List.mem_append_left _ (List.mem_of_getElem? h)))), hg⟩
theorem kwm_4 (i : Nat) {w : Cond} (h : tables_1_4[i]? = some w) (hg : goodWord w = true) : w ∈ kTb := List.mem_filter.mpr ⟨List.mem_append_right _ (List.mem_append_right _ (List.mem_append_right _ (List.mem_append_right _ (List.mem_append_left _ (List.mem_of_getElem? h))))), hg⟩
theorem kwm_5 (i : Nat) {w : Cond} (h : tables_1_5[i]? = some w) (hg : goodWord w = true) : w ∈ kTb := List.mem_filter.mpr ⟨List.mem_append_right _ (List.mem_append_right _ (List.mem_append_right _ (List.mem_append_right _ (List.mem_append_right _ (List.mem_append_left _ (List.mem_of_getElem? h)))))), hg⟩
theorem kwm_6 (i : Nat) {w : Cond} (h : tables_1_6[i]? = some w) (hg : goodWord w = true) : w ∈ kTb := List.mem_filter.mpr ⟨List.mem_append_right _ (List.mem_append_right _ (List.mem_append_right _ (List.mem_append_right _ (List.mem_append_right _ (List.mem_append_right _ (List.mem_append_left _ (List.mem_of_getElem? h))))))), hg⟩
theorem kwm_7 (i : Nat) {w : Cond} (h : tables_1_7[i]? = some w) (hg : goodWord w = true) : w ∈ kTb := List.mem_filter.mpr ⟨List.mem_append_right _ (List.mem_append_right _ (List.mem_append_right _ (List.mem_append_right _ (List.mem_append_right _ (List.mem_append_right _ (List.mem_append_right _ (List.mem_append_left _ (List.mem_of_getElem? h)))))))), hg⟩
theorem kwm_8 (i : Nat) {w : Cond} (h : tables_1_8[i]? = some w) (hg : goodWord w = true) : w ∈ kTb := List.mem_filter.mpr ⟨List.mem_append_right _ (List.mem_append_right _ (List.mem_append_right _ (List.mem_append_right _ (List.mem_append_right _ (List.mem_append_right _ (List.mem_append_right _ (List.mem_append_right _ (List.mem_of_getElem? h)))))))), hg⟩
theorem kw_0_0 : Cond.selects "MarkChains$ItemReader" ⟨"MarkChains$ItemReader", "readItem", "(I)Z"⟩ ⟨"MarkChains$ItemReader", "readItem", "(I)Z"⟩ ∈ kTb := kwm_0 0 rfl rfl
theorem kw_0_1 : Cond.selects "MarkChains$ItemReader" ⟨"MarkChains$ItemReader", "canBe", "(IIII)Z"⟩ ⟨"MarkChains$ItemReader", "canBe", "(IIII)Z"⟩ ∈ kTb := kwm_0 1 rfl rfl
theorem kw_0_2 : Cond.selects "MarkChains$ItemReader" ⟨"MarkChains$ItemReader", "isToldAhead", "(III)Z"⟩ ⟨"MarkChains$ItemReader", "isToldAhead", "(III)Z"⟩ ∈ kTb := kwm_0 2 rfl rfl
theorem kw_0_3 : Cond.selects "MarkChains$Book" ⟨"MarkChains$Book", "draftMark", "(II)V"⟩ ⟨"MarkChains$Book", "draftMark", "(II)V"⟩ ∈ kTb := kwm_0 3 rfl rfl
theorem kw_0_4 : Cond.selects "MarkChains$Book" ⟨"MarkChains$Book", "settleMark", "()V"⟩ ⟨"MarkChains$Book", "settleMark", "()V"⟩ ∈ kTb := kwm_0 4 rfl rfl
theorem kw_0_5 : Cond.selects "MarkChains$FormulaReader" ⟨"MarkChains$FormulaReader", "begin", "(I)V"⟩ ⟨"MarkChains$FormulaReader", "begin", "(I)V"⟩ ∈ kTb := kwm_0 5 rfl rfl
theorem kw_0_6 : Cond.selects "MarkChains$FormulaReader" ⟨"MarkChains$FormulaReader", "readNext", "()Z"⟩ ⟨"MarkChains$FormulaReader", "readNext", "()Z"⟩ ∈ kTb := kwm_0 6 rfl rfl
theorem kw_0_7 : Cond.selects "MarkChains$FormulaReader" ⟨"MarkChains$FormulaReader", "readAtTest", "(I)Z"⟩ ⟨"MarkChains$FormulaReader", "readAtTest", "(I)Z"⟩ ∈ kTb := kwm_0 7 rfl rfl
theorem kw_0_8 : Cond.selects "MarkChains$FormulaReader" ⟨"MarkChains$FormulaReader", "readThing", "()Z"⟩ ⟨"MarkChains$FormulaReader", "readThing", "()Z"⟩ ∈ kTb := kwm_0 8 rfl rfl
theorem kw_0_9 : Cond.selects "MarkChains$FormulaReader" ⟨"MarkChains$FormulaReader", "emit", "(I)V"⟩ ⟨"MarkChains$FormulaReader", "emit", "(I)V"⟩ ∈ kTb := kwm_0 9 rfl rfl
theorem kw_0_10 : Cond.selects "MarkChains$FormulaReader" ⟨"MarkChains$FormulaReader", "await", "(II)Z"⟩ ⟨"MarkChains$FormulaReader", "await", "(II)Z"⟩ ∈ kTb := kwm_0 10 rfl rfl
theorem kw_0_11 : Cond.selects "MarkChains$FormulaReader" ⟨"MarkChains$FormulaReader", "readArithmetic", "(I)Z"⟩ ⟨"MarkChains$FormulaReader", "readArithmetic", "(I)Z"⟩ ∈ kTb := kwm_0 11 rfl rfl
theorem kw_0_12 : Cond.selects "MarkChains$FormulaReader" ⟨"MarkChains$FormulaReader", "release", "(I)V"⟩ ⟨"MarkChains$FormulaReader", "release", "(I)V"⟩ ∈ kTb := kwm_0 12 rfl rfl
theorem kw_0_13 : Cond.selects "MarkChains$FormulaReader" ⟨"MarkChains$FormulaReader", "readComparing", "(I)Z"⟩ ⟨"MarkChains$FormulaReader", "readComparing", "(I)Z"⟩ ∈ kTb := kwm_0 13 rfl rfl
theorem kw_0_14 : Cond.selects "MarkChains$FormulaReader" ⟨"MarkChains$FormulaReader", "readBehindTest", "(I)Z"⟩ ⟨"MarkChains$FormulaReader", "readBehindTest", "(I)Z"⟩ ∈ kTb := kwm_0 14 rfl rfl
theorem kw_0_15 : Cond.selects "MarkChains$FormulaReader" ⟨"MarkChains$FormulaReader", "closeBracket", "()Z"⟩ ⟨"MarkChains$FormulaReader", "closeBracket", "()Z"⟩ ∈ kTb := kwm_0 15 rfl rfl
theorem kw_0_16 : Cond.selects "MarkChains$FormulaReader" ⟨"MarkChains$FormulaReader", "closeCond", "()Z"⟩ ⟨"MarkChains$FormulaReader", "closeCond", "()Z"⟩ ∈ kTb := kwm_0 16 rfl rfl
theorem kw_0_17 : Cond.selects "MarkChains$FormulaReader" ⟨"MarkChains$FormulaReader", "endPart", "()V"⟩ ⟨"MarkChains$FormulaReader", "endPart", "()V"⟩ ∈ kTb := kwm_0 17 rfl rfl
theorem kw_0_18 : Cond.selects "MarkChains$FormulaReader" ⟨"MarkChains$FormulaReader", "finished", "(I)LMarkChains$Formula;"⟩ ⟨"MarkChains$FormulaReader", "finished", "(I)LMarkChains$Formula;"⟩ ∈ kTb := kwm_0 18 rfl rfl
theorem kw_0_19 : Cond.selects "MarkChains" ⟨"MarkChains", "countGood", "()I"⟩ ⟨"MarkChains", "countGood", "()I"⟩ ∈ kTb := kwm_0 19 rfl rfl
theorem kw_0_20 : Cond.selects "MarkChains" ⟨"MarkChains", "lackOf", "(II)I"⟩ ⟨"MarkChains", "lackOf", "(II)I"⟩ ∈ kTb := kwm_0 20 rfl rfl
theorem kw_0_21 : Cond.selects "MarkChains$Formula" ⟨"MarkChains$Formula", "push", "(I)V"⟩ ⟨"MarkChains$Formula", "push", "(I)V"⟩ ∈ kTb := kwm_0 21 rfl rfl
theorem kw_0_22 : Cond.selects "MarkChains$Formula" ⟨"MarkChains$Formula", "pop", "()I"⟩ ⟨"MarkChains$Formula", "pop", "()I"⟩ ∈ kTb := kwm_0 22 rfl rfl
theorem kw_0_23 : Cond.selects "MarkChains" ⟨"MarkChains", "isMarkAndScope", "(II)Z"⟩ ⟨"MarkChains", "isMarkAndScope", "(II)Z"⟩ ∈ kTb := kwm_0 23 rfl rfl
theorem kw_0_24 : Cond.selects "MarkChains" ⟨"MarkChains", "fillChain", "(III)Z"⟩ ⟨"MarkChains", "fillChain", "(III)Z"⟩ ∈ kTb := kwm_0 24 rfl rfl
theorem kw_0_25 : Cond.selects "MarkChains" ⟨"MarkChains", "isAsked", "(III)Z"⟩ ⟨"MarkChains", "isAsked", "(III)Z"⟩ ∈ kTb := kwm_0 25 rfl rfl
theorem kw_0_26 : Cond.selects "MarkChains$Line" ⟨"MarkChains$Line", "append", "(I)V"⟩ ⟨"MarkChains$Line", "append", "(I)V"⟩ ∈ kTb := kwm_0 26 rfl rfl
theorem kw_0_27 : Cond.selects "MarkChains$Line" ⟨"MarkChains$Line", "levelEnd", "(I)I"⟩ ⟨"MarkChains$Line", "levelEnd", "(I)I"⟩ ∈ kTb := kwm_0 27 rfl rfl
theorem kw_0_28 : Cond.selects "MarkChains$Line" ⟨"MarkChains$Line", "dayAt", "(II)I"⟩ ⟨"MarkChains$Line", "dayAt", "(II)I"⟩ ∈ kTb := kwm_0 28 rfl rfl
theorem kw_0_29 : Cond.selects "MarkChains$Line" ⟨"MarkChains$Line", "insertByValue", "(I)V"⟩ ⟨"MarkChains$Line", "insertByValue", "(I)V"⟩ ∈ kTb := kwm_0 29 rfl rfl
theorem kw_0_30 : Cond.selects "MarkChains" ⟨"MarkChains", "pointsOf", "(I)I"⟩ ⟨"MarkChains", "pointsOf", "(I)I"⟩ ∈ kTb := kwm_0 30 rfl rfl
theorem kw_0_31 : Cond.selects "MarkChains" ⟨"MarkChains", "sumOfBest", "(III)I"⟩ ⟨"MarkChains", "sumOfBest", "(III)I"⟩ ∈ kTb := kwm_0 31 rfl rfl
theorem kw_0_32 : Cond.selects "MarkChains$Acts" ⟨"MarkChains$Acts", "readAct", "(LMarkChains$Tape;I)Z"⟩ ⟨"MarkChains$Acts", "readAct", "(LMarkChains$Tape;I)Z"⟩ ∈ kTb := kwm_0 32 rfl rfl
theorem kw_0_33 : Cond.selects "MarkChains" ⟨"MarkChains", "perform", "(I)I"⟩ ⟨"MarkChains", "perform", "(I)I"⟩ ∈ kTb := kwm_0 33 rfl rfl
theorem kw_0_34 : Cond.selects "MarkChains" ⟨"MarkChains", "isPlacedSo", "(III)Z"⟩ ⟨"MarkChains", "isPlacedSo", "(III)Z"⟩ ∈ kTb := kwm_0 34 rfl rfl
theorem kw_0_35 : Cond.selects "MarkChains" ⟨"MarkChains", "holdersInAnyScope", "(I)I"⟩ ⟨"MarkChains", "holdersInAnyScope", "(I)I"⟩ ∈ kTb := kwm_0 35 rfl rfl
theorem kw_0_36 : Cond.selects "MarkChains" ⟨"MarkChains", "undo", "(LMarkChains$Deed;)V"⟩ ⟨"MarkChains", "undo", "(LMarkChains$Deed;)V"⟩ ∈ kTb := kwm_0 36 rfl rfl
theorem kw_0_37 : Cond.selects "MarkChainsModel" ⟨"MarkChainsModel", "four", "(I)V"⟩ ⟨"MarkChainsModel", "four", "(I)V"⟩ ∈ kTb := kwm_0 37 rfl rfl
theorem kw_0_38 : Cond.selects "MarkChainsModel" ⟨"MarkChainsModel", "countItems", "()I"⟩ ⟨"MarkChainsModel", "countItems", "()I"⟩ ∈ kTb := kwm_0 38 rfl rfl
theorem kw_0_39 : Cond.selects "MarkChainsModel" ⟨"MarkChainsModel", "beginText", "()V"⟩ ⟨"MarkChainsModel", "beginText", "()V"⟩ ∈ kTb := kwm_0 39 rfl rfl
theorem kw_0_40 : Cond.selects "MarkChainsModel" ⟨"MarkChainsModel", "readItem", "()Z"⟩ ⟨"MarkChainsModel", "readItem", "()Z"⟩ ∈ kTb := kwm_0 40 rfl rfl
theorem kw_0_41 : Cond.selects "MarkChainsModel" ⟨"MarkChainsModel", "here", "()I"⟩ ⟨"MarkChainsModel", "here", "()I"⟩ ∈ kTb := kwm_0 41 rfl rfl
theorem kw_0_42 : Cond.selects "MarkChainsModel" ⟨"MarkChainsModel", "readTwo", "(IIIIIII)Z"⟩ ⟨"MarkChainsModel", "readTwo", "(IIIIIII)Z"⟩ ∈ kTb := kwm_0 42 rfl rfl
theorem kw_0_43 : Cond.selects "MarkChainsModel" ⟨"MarkChainsModel", "fails", "(I)Z"⟩ ⟨"MarkChainsModel", "fails", "(I)Z"⟩ ∈ kTb := kwm_0 43 rfl rfl
theorem kw_0_44 : Cond.selects "MarkChainsModel" ⟨"MarkChainsModel", "readNumber", "(III)Z"⟩ ⟨"MarkChainsModel", "readNumber", "(III)Z"⟩ ∈ kTb := kwm_0 44 rfl rfl
theorem kw_0_45 : Cond.selects "MarkChainsModel" ⟨"MarkChainsModel", "readDigits", "()Z"⟩ ⟨"MarkChainsModel", "readDigits", "()Z"⟩ ∈ kTb := kwm_0 45 rfl rfl
theorem kw_0_46 : Cond.selects "MarkChainsModel" ⟨"MarkChainsModel", "takes", "(I)Z"⟩ ⟨"MarkChainsModel", "takes", "(I)Z"⟩ ∈ kTb := kwm_0 46 rfl rfl
theorem kw_0_47 : Cond.selects "MarkChainsModel" ⟨"MarkChainsModel", "readMark", "()Z"⟩ ⟨"MarkChainsModel", "readMark", "()Z"⟩ ∈ kTb := kwm_0 47 rfl rfl
theorem kw_0_48 : Cond.selects "MarkChainsModel" ⟨"MarkChainsModel", "lowOf", "(I)I"⟩ ⟨"MarkChainsModel", "lowOf", "(I)I"⟩ ∈ kTb := kwm_0 48 rfl rfl
theorem kw_0_49 : Cond.selects "MarkChainsModel" ⟨"MarkChainsModel", "highOf", "(I)I"⟩ ⟨"MarkChainsModel", "highOf", "(I)I"⟩ ∈ kTb := kwm_0 49 rfl rfl
theorem kw_0_50 : Cond.selects "MarkChainsModel" ⟨"MarkChainsModel", "deed", "()V"⟩ ⟨"MarkChainsModel", "deed", "()V"⟩ ∈ kTb := kwm_0 50 rfl rfl
theorem kw_0_51 : Cond.selects "MarkChainsModel" ⟨"MarkChainsModel", "beginCode", "()V"⟩ ⟨"MarkChainsModel", "beginCode", "()V"⟩ ∈ kTb := kwm_0 51 rfl rfl
theorem kw_0_52 : Cond.selects "MarkChainsModel" ⟨"MarkChainsModel", "readCond", "()Z"⟩ ⟨"MarkChainsModel", "readCond", "()Z"⟩ ∈ kTb := kwm_0 52 rfl rfl
theorem kw_0_53 : Cond.selects "MarkChainsModel" ⟨"MarkChainsModel", "readOpen", "()Z"⟩ ⟨"MarkChainsModel", "readOpen", "()Z"⟩ ∈ kTb := kwm_0 53 rfl rfl
theorem kw_0_54 : Cond.selects "MarkChainsModel" ⟨"MarkChainsModel", "readCompared", "()Z"⟩ ⟨"MarkChainsModel", "readCompared", "()Z"⟩ ∈ kTb := kwm_0 54 rfl rfl
theorem kw_0_55 : Cond.selects "MarkChainsModel" ⟨"MarkChainsModel", "readSum", "()Z"⟩ ⟨"MarkChainsModel", "readSum", "()Z"⟩ ∈ kTb := kwm_0 55 rfl rfl
theorem kw_0_56 : Cond.selects "MarkChainsModel" ⟨"MarkChainsModel", "readProduct", "()Z"⟩ ⟨"MarkChainsModel", "readProduct", "()Z"⟩ ∈ kTb := kwm_0 56 rfl rfl
theorem kw_0_57 : Cond.selects "MarkChainsModel" ⟨"MarkChainsModel", "readThing", "()Z"⟩ ⟨"MarkChainsModel", "readThing", "()Z"⟩ ∈ kTb := kwm_0 57 rfl rfl
theorem kw_0_58 : Cond.selects "MarkChainsModel" ⟨"MarkChainsModel", "does", "(I)V"⟩ ⟨"MarkChainsModel", "does", "(I)V"⟩ ∈ kTb := kwm_0 58 rfl rfl
theorem kw_0_59 : Cond.selects "MarkChainsModel" ⟨"MarkChainsModel", "behindTest", "()I"⟩ ⟨"MarkChainsModel", "behindTest", "()I"⟩ ∈ kTb := kwm_0 59 rfl rfl
theorem kw_0_60 : Cond.selects "MarkChainsModel" ⟨"MarkChainsModel", "isMark", "(I)Z"⟩ ⟨"MarkChainsModel", "isMark", "(I)Z"⟩ ∈ kTb := kwm_0 60 rfl rfl
theorem kw_0_61 : Cond.selects "MarkChainsModel" ⟨"MarkChainsModel", "whyNotGood", "(I)I"⟩ ⟨"MarkChainsModel", "whyNotGood", "(I)I"⟩ ∈ kTb := kwm_0 61 rfl rfl
theorem kw_0_62 : Cond.selects "MarkChainsModel" ⟨"MarkChainsModel", "worked", "(III)I"⟩ ⟨"MarkChainsModel", "worked", "(III)I"⟩ ∈ kTb := kwm_0 62 rfl rfl
theorem kw_0_63 : Cond.selects "MarkChainsModel" ⟨"MarkChainsModel", "nameNow", "(II)I"⟩ ⟨"MarkChainsModel", "nameNow", "(II)I"⟩ ∈ kTb := kwm_0 63 rfl rfl
theorem kw_0_64 : Cond.selects "MarkChainsModel" ⟨"MarkChainsModel", "of", "(II)I"⟩ ⟨"MarkChainsModel", "of", "(II)I"⟩ ∈ kTb := kwm_0 64 rfl rfl
theorem kw_0_65 : Cond.selects "MarkChainsModel" ⟨"MarkChainsModel", "ageOf", "(I)I"⟩ ⟨"MarkChainsModel", "ageOf", "(I)I"⟩ ∈ kTb := kwm_0 65 rfl rfl
theorem kw_0_66 : Cond.selects "MarkChainsModel" ⟨"MarkChainsModel", "eventOf", "(II)I"⟩ ⟨"MarkChainsModel", "eventOf", "(II)I"⟩ ∈ kTb := kwm_0 66 rfl rfl
theorem kw_0_67 : Cond.selects "MarkChainsModel" ⟨"MarkChainsModel", "isSuch", "(II)Z"⟩ ⟨"MarkChainsModel", "isSuch", "(II)Z"⟩ ∈ kTb := kwm_0 67 rfl rfl
theorem kw_0_68 : Cond.selects "MarkChainsModel" ⟨"MarkChainsModel", "standsOn", "(II)Z"⟩ ⟨"MarkChainsModel", "standsOn", "(II)Z"⟩ ∈ kTb := kwm_0 68 rfl rfl
theorem kw_0_69 : Cond.selects "MarkChainsModel" ⟨"MarkChainsModel", "isAthlete", "(I)Z"⟩ ⟨"MarkChainsModel", "isAthlete", "(I)Z"⟩ ∈ kTb := kwm_0 69 rfl rfl
theorem kw_0_70 : Cond.selects "MarkChainsModel" ⟨"MarkChainsModel", "isWithin", "(II)Z"⟩ ⟨"MarkChainsModel", "isWithin", "(II)Z"⟩ ∈ kTb := kwm_0 70 rfl rfl
theorem kw_0_71 : Cond.selects "MarkChainsModel" ⟨"MarkChainsModel", "canAsk", "(III)Z"⟩ ⟨"MarkChainsModel", "canAsk", "(III)Z"⟩ ∈ kTb := kwm_0 71 rfl rfl
theorem kw_0_72 : Cond.selects "MarkChainsModel" ⟨"MarkChainsModel", "layChain", "(III)V"⟩ ⟨"MarkChainsModel", "layChain", "(III)V"⟩ ∈ kTb := kwm_0 72 rfl rfl
theorem kw_0_73 : Cond.selects "MarkChainsModel" ⟨"MarkChainsModel", "layOrder", "(III)V"⟩ ⟨"MarkChainsModel", "layOrder", "(III)V"⟩ ∈ kTb := kwm_0 73 rfl rfl
theorem kw_0_74 : Cond.selects "MarkChainsModel" ⟨"MarkChainsModel", "isAhead", "(II)Z"⟩ ⟨"MarkChainsModel", "isAhead", "(II)Z"⟩ ∈ kTb := kwm_0 74 rfl rfl
theorem kw_0_75 : Cond.selects "MarkChainsModel" ⟨"MarkChainsModel", "isBetter", "(III)Z"⟩ ⟨"MarkChainsModel", "isBetter", "(III)Z"⟩ ∈ kTb := kwm_0 75 rfl rfl
theorem kw_0_76 : Cond.selects "MarkChainsModel" ⟨"MarkChainsModel", "recordNow", "()I"⟩ ⟨"MarkChainsModel", "recordNow", "()I"⟩ ∈ kTb := kwm_0 76 rfl rfl
theorem kw_0_77 : Cond.selects "MarkChainsModel" ⟨"MarkChainsModel", "value", "(I)I"⟩ ⟨"MarkChainsModel", "value", "(I)I"⟩ ∈ kTb := kwm_0 77 rfl rfl
theorem kw_0_78 : Cond.selects "MarkChainsModel" ⟨"MarkChainsModel", "holdersNow", "()I"⟩ ⟨"MarkChainsModel", "holdersNow", "()I"⟩ ∈ kTb := kwm_0 78 rfl rfl
theorem kw_0_79 : Cond.selects "MarkChainsModel" ⟨"MarkChainsModel", "endOf", "(II)I"⟩ ⟨"MarkChainsModel", "endOf", "(II)I"⟩ ∈ kTb := kwm_0 79 rfl rfl
theorem kw_0_80 : Cond.selects "MarkChainsModel" ⟨"MarkChainsModel", "noteLinks", "()V"⟩ ⟨"MarkChainsModel", "noteLinks", "()V"⟩ ∈ kTb := kwm_0 80 rfl rfl
theorem kw_0_81 : Cond.selects "MarkChainsModel" ⟨"MarkChainsModel", "isLinked", "(I)Z"⟩ ⟨"MarkChainsModel", "isLinked", "(I)Z"⟩ ∈ kTb := kwm_0 81 rfl rfl
theorem kw_0_82 : Cond.selects "MarkChainsModel" ⟨"MarkChainsModel", "countFresh", "()V"⟩ ⟨"MarkChainsModel", "countFresh", "()V"⟩ ∈ kTb := kwm_0 82 rfl rfl
theorem kw_0_83 : Cond.selects "MarkChainsModel" ⟨"MarkChainsModel", "layList", "(III)V"⟩ ⟨"MarkChainsModel", "layList", "(III)V"⟩ ∈ kTb := kwm_0 83 rfl rfl
theorem kw_0_84 : Cond.selects "MarkChainsModel" ⟨"MarkChainsModel", "isFore", "(III)Z"⟩ ⟨"MarkChainsModel", "isFore", "(III)Z"⟩ ∈ kTb := kwm_0 84 rfl rfl
theorem kw_0_85 : Cond.selects "MarkChainsModel" ⟨"MarkChainsModel", "pointsOf", "(I)I"⟩ ⟨"MarkChainsModel", "pointsOf", "(I)I"⟩ ∈ kTb := kwm_0 85 rfl rfl
theorem kw_0_86 : Cond.selects "MarkChainsModel" ⟨"MarkChainsModel", "sumPoints", "(III)I"⟩ ⟨"MarkChainsModel", "sumPoints", "(III)I"⟩ ∈ kTb := kwm_0 86 rfl rfl
theorem kw_0_87 : Cond.selects "MarkChainsModel" ⟨"MarkChainsModel", "bestPoints", "(IIII)I"⟩ ⟨"MarkChainsModel", "bestPoints", "(IIII)I"⟩ ∈ kTb := kwm_0 87 rfl rfl
theorem kw_0_88 : Cond.selects "MarkChainsModel" ⟨"MarkChainsModel", "isMeeting", "(II)Z"⟩ ⟨"MarkChainsModel", "isMeeting", "(II)Z"⟩ ∈ kTb := kwm_0 88 rfl rfl
theorem kw_0_89 : Cond.selects "MarkChainsModel" ⟨"MarkChainsModel", "isFirstOfMeeting", "(I)Z"⟩ ⟨"MarkChainsModel", "isFirstOfMeeting", "(I)Z"⟩ ∈ kTb := kwm_0 89 rfl rfl
theorem kw_0_90 : Cond.selects "MarkChainsModel" ⟨"MarkChainsModel", "bestAt", "(II)I"⟩ ⟨"MarkChainsModel", "bestAt", "(II)I"⟩ ∈ kTb := kwm_0 90 rfl rfl
theorem kw_0_91 : Cond.selects "MarkChainsModel" ⟨"MarkChainsModel", "isInChain", "(III)Z"⟩ ⟨"MarkChainsModel", "isInChain", "(III)Z"⟩ ∈ kTb := kwm_0 91 rfl rfl
theorem kw_0_92 : Cond.selects "MarkChainsModel" ⟨"MarkChainsModel", "readAct", "()Z"⟩ ⟨"MarkChainsModel", "readAct", "()Z"⟩ ∈ kTb := kwm_0 92 rfl rfl
theorem kw_0_93 : Cond.selects "MarkChainsModel" ⟨"MarkChainsModel", "readAny", "(I)Z"⟩ ⟨"MarkChainsModel", "readAny", "(I)Z"⟩ ∈ kTb := kwm_0 93 rfl rfl
theorem kw_0_94 : Cond.selects "MarkChainsModel" ⟨"MarkChainsModel", "doAct", "(I)I"⟩ ⟨"MarkChainsModel", "doAct", "(I)I"⟩ ∈ kTb := kwm_0 94 rfl rfl
theorem kw_0_95 : Cond.selects "MarkChainsModel" ⟨"MarkChainsModel", "writes", "(I)V"⟩ ⟨"MarkChainsModel", "writes", "(I)V"⟩ ∈ kTb := kwm_0 95 rfl rfl
theorem kw_0_96 : Cond.selects "MarkChainsModel" ⟨"MarkChainsModel", "writeNumber", "(I)V"⟩ ⟨"MarkChainsModel", "writeNumber", "(I)V"⟩ ∈ kTb := kwm_0 96 rfl rfl
theorem kw_1_0 : (Jvm.Cond.initialized "MarkChainsLaw") ∈ kTb := kwm_1 0 rfl rfl
theorem kw_1_1 : (Jvm.Cond.initialized "MarkChains") ∈ kTb := kwm_1 1 rfl rfl
theorem kw_1_2 : (Jvm.Cond.initialized "MarkChains$Tape") ∈ kTb := kwm_1 2 rfl rfl
theorem kw_1_3 : (Jvm.Cond.initialized "MarkChains$Book") ∈ kTb := kwm_1 3 rfl rfl
theorem kw_1_4 : (Jvm.Cond.initialized "MarkChains$Pairs") ∈ kTb := kwm_1 4 rfl rfl
theorem kw_1_5 : (Jvm.Cond.initialized "java/lang/Math") ∈ kTb := kwm_1 5 rfl rfl
theorem kw_1_6 : (Jvm.Cond.initialized "MarkChains$ItemReader") ∈ kTb := kwm_1 6 rfl rfl
theorem kw_1_7 : (Jvm.Cond.initialized "MarkChains$FormulaReader") ∈ kTb := kwm_1 7 rfl rfl
theorem kw_1_8 : (Jvm.Cond.initialized "MarkChains$Acts") ∈ kTb := kwm_1 8 rfl rfl
theorem kw_1_9 : (Jvm.Cond.initialized "MarkChains$Deeds") ∈ kTb := kwm_1 9 rfl rfl
theorem kw_1_10 : (Jvm.Cond.initialized "MarkChains$Line") ∈ kTb := kwm_1 10 rfl rfl
theorem kw_1_11 : (Jvm.Cond.initialized "MarkChains$Sheet") ∈ kTb := kwm_1 11 rfl rfl
theorem kw_1_12 : (Jvm.Cond.initialized "MarkChains$Formula") ∈ kTb := kwm_1 12 rfl rfl
theorem kw_1_13 : (Jvm.Cond.initialized "MarkChainsModel") ∈ kTb := kwm_1 13 rfl rfl
theorem kw_1_14 : (Jvm.Cond.initialized "java/lang/String") ∈ kTb := kwm_1 14 rfl rfl
theorem kw_1_15 : (Jvm.Cond.initialized "java/lang/StringLatin1") ∈ kTb := kwm_1 15 rfl rfl
theorem kw_1_16 : (Jvm.Cond.initialized "java/lang/StringUTF16") ∈ kTb := kwm_1 16 rfl rfl
theorem kw_1_17 : (Jvm.Cond.initialized "jdk/internal/util/Preconditions") ∈ kTb := kwm_1 17 rfl rfl
theorem kw_1_18 : (Jvm.Cond.initialized "java/lang/Character") ∈ kTb := kwm_1 18 rfl rfl
theorem kw_1_19 : (Jvm.Cond.initialized "MarkChains$Deed") ∈ kTb := kwm_1 19 rfl rfl
theorem kw_1_20 : (Jvm.Cond.initialized "java/util/Arrays") ∈ kTb := kwm_1 20 rfl rfl
theorem kw_1_21 : (Jvm.Cond.initialized "java/lang/System") ∈ kTb := kwm_1 21 rfl rfl
theorem kw_1_22 : (Jvm.Cond.classLink "MarkChainsLaw" (7 : Nat) "MarkChains") ∈ kTb := kwm_1 22 rfl rfl
theorem kw_1_23 : (Jvm.Cond.instantiable "MarkChains" (13 : Nat)) ∈ kTb := kwm_1 23 rfl rfl
theorem kw_1_24 : (Jvm.Cond.methodLink "MarkChainsLaw" (9 : Nat) ({ cls := "MarkChains", name := "<init>", desc := "()V" } : Jvm.MethodName)) ∈ kTb := kwm_1 24 rfl rfl
theorem kw_1_25 : (Jvm.Cond.instanceMethod ({ cls := "MarkChains", name := "<init>", desc := "()V" } : Jvm.MethodName)) ∈ kTb := kwm_1 25 rfl rfl
theorem kw_1_26 : (Jvm.Cond.code ({ cls := "MarkChains", name := "<init>", desc := "()V" } : Jvm.MethodName) prog_1_method_1_code (1 : Nat) (Option.none : Option Jvm.ClassFile.FieldType)) ∈ kTb := kwm_1 26 rfl rfl
theorem kw_1_27 : (Jvm.Cond.methodLink "MarkChains" (1 : Nat) ({ cls := "java/lang/Object", name := "<init>", desc := "()V" } : Jvm.MethodName)) ∈ kTb := kwm_1 27 rfl rfl
theorem kw_1_28 : (Jvm.Cond.instanceMethod ({ cls := "java/lang/Object", name := "<init>", desc := "()V" } : Jvm.MethodName)) ∈ kTb := kwm_1 28 rfl rfl
theorem kw_1_29 : (Jvm.Cond.code ({ cls := "java/lang/Object", name := "<init>", desc := "()V" } : Jvm.MethodName) object_method_1_code (1 : Nat) (Option.none : Option Jvm.ClassFile.FieldType)) ∈ kTb := kwm_1 29 rfl rfl
theorem kw_1_30 : (Jvm.Cond.classLink "MarkChains" (7 : Nat) "MarkChains$Tape") ∈ kTb := kwm_1 30 rfl rfl
theorem kw_1_31 : (Jvm.Cond.instantiable "MarkChains$Tape" (6 : Nat)) ∈ kTb := kwm_1 31 rfl rfl
theorem kw_1_33 : (Jvm.Cond.instanceMethod ({ cls := "MarkChains$Tape", name := "<init>", desc := "()V" } : Jvm.MethodName)) ∈ kTb := kwm_1 33 rfl rfl
theorem kw_1_34 : (Jvm.Cond.code ({ cls := "MarkChains$Tape", name := "<init>", desc := "()V" } : Jvm.MethodName) prog_12_method_1_code (1 : Nat) (Option.none : Option Jvm.ClassFile.FieldType)) ∈ kTb := kwm_1 34 rfl rfl
theorem kw_1_35 : (Jvm.Cond.methodLink "MarkChains$Tape" (3 : Nat) ({ cls := "java/lang/Object", name := "<init>", desc := "()V" } : Jvm.MethodName)) ∈ kTb := kwm_1 35 rfl rfl
theorem kw_1_36 : (Jvm.Cond.fieldLink "MarkChains$Tape" (9 : Nat) "MarkChains$Tape" "bytes" "[I") ∈ kTb := kwm_1 36 rfl rfl
theorem kw_1_37 : (Jvm.Cond.fieldLink "MarkChains$Tape" (15 : Nat) "MarkChains$Tape" "length" "I") ∈ kTb := kwm_1 37 rfl rfl
theorem kw_1_39 : (Jvm.Cond.fieldLink "MarkChains$Tape" (19 : Nat) "MarkChains$Tape" "place" "I") ∈ kTb := kwm_1 39 rfl rfl
theorem kw_1_40 : (Jvm.Cond.fieldLink "MarkChains$Tape" (22 : Nat) "MarkChains$Tape" "number" "I") ∈ kTb := kwm_1 40 rfl rfl
theorem kw_1_44 : (Jvm.Cond.fieldLink "MarkChains$Tape" (25 : Nat) "MarkChains$Tape" "numberPlace" "I") ∈ kTb := kwm_1 44 rfl rfl
theorem kw_1_45 : (Jvm.Cond.fieldLink "MarkChains$Tape" (28 : Nat) "MarkChains$Tape" "fault" "I") ∈ kTb := kwm_1 45 rfl rfl
theorem kw_1_47 : (Jvm.Cond.laysFinal "MarkChains$Tape" "MarkChains$Tape" "bytes" "[I") ∈ kTb := kwm_1 47 rfl rfl
theorem kw_1_49 : (Jvm.Cond.lays "MarkChains$Tape" "MarkChains$Tape" "length" "I") ∈ kTb := kwm_1 49 rfl rfl
theorem kw_1_51 : (Jvm.Cond.lays "MarkChains$Tape" "MarkChains$Tape" "place" "I") ∈ kTb := kwm_1 51 rfl rfl
theorem kw_1_53 : (Jvm.Cond.lays "MarkChains$Tape" "MarkChains$Tape" "number" "I") ∈ kTb := kwm_1 53 rfl rfl
theorem kw_1_55 : (Jvm.Cond.lays "MarkChains$Tape" "MarkChains$Tape" "numberPlace" "I") ∈ kTb := kwm_1 55 rfl rfl
theorem kw_1_57 : (Jvm.Cond.lays "MarkChains$Tape" "MarkChains$Tape" "fault" "I") ∈ kTb := kwm_1 57 rfl rfl
theorem kw_1_60 : (Jvm.Cond.arrayClass Jvm.ClassFile.FieldType.int) ∈ kTb := kwm_1 60 rfl rfl
theorem kw_1_61 : (Jvm.Cond.classLink "MarkChains" (16 : Nat) "MarkChains$Book") ∈ kTb := kwm_1 61 rfl rfl
theorem kw_1_62 : (Jvm.Cond.instantiable "MarkChains$Book" (16 : Nat)) ∈ kTb := kwm_1 62 rfl rfl
theorem kw_1_64 : (Jvm.Cond.instanceMethod ({ cls := "MarkChains$Book", name := "<init>", desc := "()V" } : Jvm.MethodName)) ∈ kTb := kwm_1 64 rfl rfl
theorem kw_1_65 : (Jvm.Cond.code ({ cls := "MarkChains$Book", name := "<init>", desc := "()V" } : Jvm.MethodName) prog_3_method_1_code (1 : Nat) (Option.none : Option Jvm.ClassFile.FieldType)) ∈ kTb := kwm_1 65 rfl rfl
theorem kw_1_66 : (Jvm.Cond.methodLink "MarkChains$Book" (3 : Nat) ({ cls := "java/lang/Object", name := "<init>", desc := "()V" } : Jvm.MethodName)) ∈ kTb := kwm_1 66 rfl rfl
theorem kw_1_67 : (Jvm.Cond.classLink "MarkChains$Book" (9 : Nat) "MarkChains$Pairs") ∈ kTb := kwm_1 67 rfl rfl
theorem kw_1_68 : (Jvm.Cond.instantiable "MarkChains$Pairs" (3 : Nat)) ∈ kTb := kwm_1 68 rfl rfl
theorem kw_1_69 : (Jvm.Cond.methodLink "MarkChains$Book" (11 : Nat) ({ cls := "MarkChains$Pairs", name := "<init>", desc := "(I)V" } : Jvm.MethodName)) ∈ kTb := kwm_1 69 rfl rfl
theorem kw_1_70 : (Jvm.Cond.instanceMethod ({ cls := "MarkChains$Pairs", name := "<init>", desc := "(I)V" } : Jvm.MethodName)) ∈ kTb := kwm_1 70 rfl rfl
theorem kw_1_71 : (Jvm.Cond.code ({ cls := "MarkChains$Pairs", name := "<init>", desc := "(I)V" } : Jvm.MethodName) prog_10_method_1_code (3 : Nat) (Option.none : Option Jvm.ClassFile.FieldType)) ∈ kTb := kwm_1 71 rfl rfl
theorem kw_1_72 : (Jvm.Cond.methodLink "MarkChains$Pairs" (1 : Nat) ({ cls := "java/lang/Object", name := "<init>", desc := "()V" } : Jvm.MethodName)) ∈ kTb := kwm_1 72 rfl rfl
theorem kw_1_73 : (Jvm.Cond.methodLink "MarkChains$Pairs" (13 : Nat) ({ cls := "java/lang/Math", name := "max", desc := "(II)I" } : Jvm.MethodName)) ∈ kTb := kwm_1 73 rfl rfl
theorem kw_1_74 : (Jvm.Cond.static ({ cls := "java/lang/Math", name := "max", desc := "(II)I" } : Jvm.MethodName)) ∈ kTb := kwm_1 74 rfl rfl
theorem kw_1_75 : (Jvm.Cond.code ({ cls := "java/lang/Math", name := "max", desc := "(II)I" } : Jvm.MethodName) prog_17_method_65_code (2 : Nat) (Option.some Jvm.ClassFile.FieldType.int)) ∈ kTb := kwm_1 75 rfl rfl
theorem kw_1_76 : (Jvm.Cond.fieldLink "MarkChains$Pairs" (19 : Nat) "MarkChains$Pairs" "first" "[I") ∈ kTb := kwm_1 76 rfl rfl
theorem kw_1_79 : (Jvm.Cond.fieldLink "MarkChains$Pairs" (23 : Nat) "MarkChains$Pairs" "second" "[I") ∈ kTb := kwm_1 79 rfl rfl
theorem kw_1_82 : (Jvm.Cond.fieldLink "MarkChains$Pairs" (7 : Nat) "MarkChains$Pairs" "size" "I") ∈ kTb := kwm_1 82 rfl rfl
theorem kw_1_85 : (Jvm.Cond.laysFinal "MarkChains$Pairs" "MarkChains$Pairs" "first" "[I") ∈ kTb := kwm_1 85 rfl rfl
theorem kw_1_87 : (Jvm.Cond.laysFinal "MarkChains$Pairs" "MarkChains$Pairs" "second" "[I") ∈ kTb := kwm_1 87 rfl rfl
theorem kw_1_89 : (Jvm.Cond.lays "MarkChains$Pairs" "MarkChains$Pairs" "size" "I") ∈ kTb := kwm_1 89 rfl rfl
theorem kw_1_92 : (Jvm.Cond.fieldLink "MarkChains$Book" (14 : Nat) "MarkChains$Book" "events" "LMarkChains$Pairs;") ∈ kTb := kwm_1 92 rfl rfl
theorem kw_1_95 : (Jvm.Cond.fieldLink "MarkChains$Book" (20 : Nat) "MarkChains$Book" "places" "LMarkChains$Pairs;") ∈ kTb := kwm_1 95 rfl rfl
theorem kw_1_98 : (Jvm.Cond.fieldLink "MarkChains$Book" (23 : Nat) "MarkChains$Book" "athletes" "LMarkChains$Pairs;") ∈ kTb := kwm_1 98 rfl rfl
theorem kw_1_101 : (Jvm.Cond.fieldLink "MarkChains$Book" (26 : Nat) "MarkChains$Book" "event" "[I") ∈ kTb := kwm_1 101 rfl rfl
theorem kw_1_103 : (Jvm.Cond.fieldLink "MarkChains$Book" (30 : Nat) "MarkChains$Book" "athlete" "[I") ∈ kTb := kwm_1 103 rfl rfl
theorem kw_1_106 : (Jvm.Cond.fieldLink "MarkChains$Book" (33 : Nat) "MarkChains$Book" "place" "[I") ∈ kTb := kwm_1 106 rfl rfl
theorem kw_1_107 : (Jvm.Cond.fieldLink "MarkChains$Book" (36 : Nat) "MarkChains$Book" "day" "[I") ∈ kTb := kwm_1 107 rfl rfl
theorem kw_1_110 : (Jvm.Cond.fieldLink "MarkChains$Book" (39 : Nat) "MarkChains$Book" "minute" "[I") ∈ kTb := kwm_1 110 rfl rfl
theorem kw_1_112 : (Jvm.Cond.fieldLink "MarkChains$Book" (42 : Nat) "MarkChains$Book" "value" "[I") ∈ kTb := kwm_1 112 rfl rfl
theorem kw_1_115 : (Jvm.Cond.fieldLink "MarkChains$Book" (45 : Nat) "MarkChains$Book" "wind" "[I") ∈ kTb := kwm_1 115 rfl rfl
theorem kw_1_116 : (Jvm.Cond.fieldLink "MarkChains$Book" (48 : Nat) "MarkChains$Book" "shoe" "[I") ∈ kTb := kwm_1 116 rfl rfl
theorem kw_1_117 : (Jvm.Cond.fieldLink "MarkChains$Book" (51 : Nat) "MarkChains$Book" "papers" "[I") ∈ kTb := kwm_1 117 rfl rfl
theorem kw_1_119 : (Jvm.Cond.fieldLink "MarkChains$Book" (54 : Nat) "MarkChains$Book" "ratified" "[I") ∈ kTb := kwm_1 119 rfl rfl
theorem kw_1_121 : (Jvm.Cond.fieldLink "MarkChains$Book" (57 : Nat) "MarkChains$Book" "struck" "[I") ∈ kTb := kwm_1 121 rfl rfl
theorem kw_1_123 : (Jvm.Cond.fieldLink "MarkChains$Book" (60 : Nat) "MarkChains$Book" "order" "[I") ∈ kTb := kwm_1 123 rfl rfl
theorem kw_1_125 : (Jvm.Cond.fieldLink "MarkChains$Book" (63 : Nat) "MarkChains$Book" "size" "I") ∈ kTb := kwm_1 125 rfl rfl
theorem kw_1_128 : (Jvm.Cond.laysFinal "MarkChains$Book" "MarkChains$Book" "events" "LMarkChains$Pairs;") ∈ kTb := kwm_1 128 rfl rfl
theorem kw_1_130 : (Jvm.Cond.laysFinal "MarkChains$Book" "MarkChains$Book" "places" "LMarkChains$Pairs;") ∈ kTb := kwm_1 130 rfl rfl
theorem kw_1_132 : (Jvm.Cond.laysFinal "MarkChains$Book" "MarkChains$Book" "athletes" "LMarkChains$Pairs;") ∈ kTb := kwm_1 132 rfl rfl
theorem kw_1_134 : (Jvm.Cond.laysFinal "MarkChains$Book" "MarkChains$Book" "event" "[I") ∈ kTb := kwm_1 134 rfl rfl
theorem kw_1_136 : (Jvm.Cond.laysFinal "MarkChains$Book" "MarkChains$Book" "athlete" "[I") ∈ kTb := kwm_1 136 rfl rfl
theorem kw_1_138 : (Jvm.Cond.laysFinal "MarkChains$Book" "MarkChains$Book" "place" "[I") ∈ kTb := kwm_1 138 rfl rfl
theorem kw_1_140 : (Jvm.Cond.laysFinal "MarkChains$Book" "MarkChains$Book" "day" "[I") ∈ kTb := kwm_1 140 rfl rfl
theorem kw_1_142 : (Jvm.Cond.laysFinal "MarkChains$Book" "MarkChains$Book" "minute" "[I") ∈ kTb := kwm_1 142 rfl rfl
theorem kw_1_144 : (Jvm.Cond.laysFinal "MarkChains$Book" "MarkChains$Book" "value" "[I") ∈ kTb := kwm_1 144 rfl rfl
theorem kw_1_146 : (Jvm.Cond.laysFinal "MarkChains$Book" "MarkChains$Book" "wind" "[I") ∈ kTb := kwm_1 146 rfl rfl
theorem kw_1_148 : (Jvm.Cond.laysFinal "MarkChains$Book" "MarkChains$Book" "shoe" "[I") ∈ kTb := kwm_1 148 rfl rfl
theorem kw_1_150 : (Jvm.Cond.laysFinal "MarkChains$Book" "MarkChains$Book" "papers" "[I") ∈ kTb := kwm_1 150 rfl rfl
theorem kw_1_152 : (Jvm.Cond.laysFinal "MarkChains$Book" "MarkChains$Book" "ratified" "[I") ∈ kTb := kwm_1 152 rfl rfl
theorem kw_1_154 : (Jvm.Cond.laysFinal "MarkChains$Book" "MarkChains$Book" "struck" "[I") ∈ kTb := kwm_1 154 rfl rfl
theorem kw_1_156 : (Jvm.Cond.laysFinal "MarkChains$Book" "MarkChains$Book" "order" "[I") ∈ kTb := kwm_1 156 rfl rfl
theorem kw_1_158 : (Jvm.Cond.lays "MarkChains$Book" "MarkChains$Book" "size" "I") ∈ kTb := kwm_1 158 rfl rfl
theorem kw_1_161 : (Jvm.Cond.classLink "MarkChains" (23 : Nat) "MarkChains$ItemReader") ∈ kTb := kwm_1 161 rfl rfl
theorem kw_1_162 : (Jvm.Cond.instantiable "MarkChains$ItemReader" (2 : Nat)) ∈ kTb := kwm_1 162 rfl rfl
theorem kw_1_163 : (Jvm.Cond.methodLink "MarkChains" (25 : Nat) ({ cls := "MarkChains$ItemReader", name := "<init>", desc := "(LMarkChains$Tape;LMarkChains$Book;)V" } : Jvm.MethodName)) ∈ kTb := kwm_1 163 rfl rfl
theorem kw_1_164 : (Jvm.Cond.instanceMethod ({ cls := "MarkChains$ItemReader", name := "<init>", desc := "(LMarkChains$Tape;LMarkChains$Book;)V" } : Jvm.MethodName)) ∈ kTb := kwm_1 164 rfl rfl
theorem kw_1_165 : (Jvm.Cond.code ({ cls := "MarkChains$ItemReader", name := "<init>", desc := "(LMarkChains$Tape;LMarkChains$Book;)V" } : Jvm.MethodName) prog_8_method_1_code (3 : Nat) (Option.none : Option Jvm.ClassFile.FieldType)) ∈ kTb := kwm_1 165 rfl rfl
theorem kw_1_166 : (Jvm.Cond.methodLink "MarkChains$ItemReader" (3 : Nat) ({ cls := "java/lang/Object", name := "<init>", desc := "()V" } : Jvm.MethodName)) ∈ kTb := kwm_1 166 rfl rfl
theorem kw_1_167 : (Jvm.Cond.fieldLink "MarkChains$ItemReader" (9 : Nat) "MarkChains$ItemReader" "tape" "LMarkChains$Tape;") ∈ kTb := kwm_1 167 rfl rfl
theorem kw_1_168 : (Jvm.Cond.fieldLink "MarkChains$ItemReader" (15 : Nat) "MarkChains$ItemReader" "book" "LMarkChains$Book;") ∈ kTb := kwm_1 168 rfl rfl
theorem kw_1_169 : (Jvm.Cond.laysFinal "MarkChains$ItemReader" "MarkChains$ItemReader" "tape" "LMarkChains$Tape;") ∈ kTb := kwm_1 169 rfl rfl
theorem kw_1_171 : (Jvm.Cond.laysFinal "MarkChains$ItemReader" "MarkChains$ItemReader" "book" "LMarkChains$Book;") ∈ kTb := kwm_1 171 rfl rfl
theorem kw_1_174 : (Jvm.Cond.classLink "MarkChains" (32 : Nat) "MarkChains$FormulaReader") ∈ kTb := kwm_1 174 rfl rfl
theorem kw_1_175 : (Jvm.Cond.instantiable "MarkChains$FormulaReader" (11 : Nat)) ∈ kTb := kwm_1 175 rfl rfl
theorem kw_1_176 : (Jvm.Cond.methodLink "MarkChains" (34 : Nat) ({ cls := "MarkChains$FormulaReader", name := "<init>", desc := "(LMarkChains$Tape;)V" } : Jvm.MethodName)) ∈ kTb := kwm_1 176 rfl rfl
theorem kw_1_177 : (Jvm.Cond.instanceMethod ({ cls := "MarkChains$FormulaReader", name := "<init>", desc := "(LMarkChains$Tape;)V" } : Jvm.MethodName)) ∈ kTb := kwm_1 177 rfl rfl
theorem kw_1_178 : (Jvm.Cond.code ({ cls := "MarkChains$FormulaReader", name := "<init>", desc := "(LMarkChains$Tape;)V" } : Jvm.MethodName) prog_7_method_1_code (2 : Nat) (Option.none : Option Jvm.ClassFile.FieldType)) ∈ kTb := kwm_1 178 rfl rfl
theorem kw_1_179 : (Jvm.Cond.methodLink "MarkChains$FormulaReader" (3 : Nat) ({ cls := "java/lang/Object", name := "<init>", desc := "()V" } : Jvm.MethodName)) ∈ kTb := kwm_1 179 rfl rfl
theorem kw_1_180 : (Jvm.Cond.fieldLink "MarkChains$FormulaReader" (44 : Nat) "MarkChains$FormulaReader" "tape" "LMarkChains$Tape;") ∈ kTb := kwm_1 180 rfl rfl
theorem kw_1_181 : (Jvm.Cond.fieldLink "MarkChains$FormulaReader" (9 : Nat) "MarkChains$FormulaReader" "code" "[I") ∈ kTb := kwm_1 181 rfl rfl
theorem kw_1_182 : (Jvm.Cond.fieldLink "MarkChains$FormulaReader" (15 : Nat) "MarkChains$FormulaReader" "waiting" "[I") ∈ kTb := kwm_1 182 rfl rfl
theorem kw_1_183 : (Jvm.Cond.fieldLink "MarkChains$FormulaReader" (18 : Nat) "MarkChains$FormulaReader" "ends" "[I") ∈ kTb := kwm_1 183 rfl rfl
theorem kw_1_184 : (Jvm.Cond.fieldLink "MarkChains$FormulaReader" (21 : Nat) "MarkChains$FormulaReader" "codeSize" "I") ∈ kTb := kwm_1 184 rfl rfl
theorem kw_1_185 : (Jvm.Cond.fieldLink "MarkChains$FormulaReader" (25 : Nat) "MarkChains$FormulaReader" "waitingSize" "I") ∈ kTb := kwm_1 185 rfl rfl
theorem kw_1_186 : (Jvm.Cond.fieldLink "MarkChains$FormulaReader" (28 : Nat) "MarkChains$FormulaReader" "conds" "I") ∈ kTb := kwm_1 186 rfl rfl
theorem kw_1_187 : (Jvm.Cond.fieldLink "MarkChains$FormulaReader" (31 : Nat) "MarkChains$FormulaReader" "things" "I") ∈ kTb := kwm_1 187 rfl rfl
theorem kw_1_189 : (Jvm.Cond.fieldLink "MarkChains$FormulaReader" (34 : Nat) "MarkChains$FormulaReader" "nested" "I") ∈ kTb := kwm_1 189 rfl rfl
theorem kw_1_190 : (Jvm.Cond.fieldLink "MarkChains$FormulaReader" (37 : Nat) "MarkChains$FormulaReader" "state" "I") ∈ kTb := kwm_1 190 rfl rfl
theorem kw_1_191 : (Jvm.Cond.fieldLink "MarkChains$FormulaReader" (40 : Nat) "MarkChains$FormulaReader" "isCompared" "Z") ∈ kTb := kwm_1 191 rfl rfl
theorem kw_1_192 : (Jvm.Cond.laysFinal "MarkChains$FormulaReader" "MarkChains$FormulaReader" "tape" "LMarkChains$Tape;") ∈ kTb := kwm_1 192 rfl rfl
theorem kw_1_194 : (Jvm.Cond.laysFinal "MarkChains$FormulaReader" "MarkChains$FormulaReader" "code" "[I") ∈ kTb := kwm_1 194 rfl rfl
theorem kw_1_196 : (Jvm.Cond.laysFinal "MarkChains$FormulaReader" "MarkChains$FormulaReader" "waiting" "[I") ∈ kTb := kwm_1 196 rfl rfl
theorem kw_1_198 : (Jvm.Cond.laysFinal "MarkChains$FormulaReader" "MarkChains$FormulaReader" "ends" "[I") ∈ kTb := kwm_1 198 rfl rfl
theorem kw_1_200 : (Jvm.Cond.lays "MarkChains$FormulaReader" "MarkChains$FormulaReader" "codeSize" "I") ∈ kTb := kwm_1 200 rfl rfl
theorem kw_1_202 : (Jvm.Cond.lays "MarkChains$FormulaReader" "MarkChains$FormulaReader" "waitingSize" "I") ∈ kTb := kwm_1 202 rfl rfl
theorem kw_1_204 : (Jvm.Cond.lays "MarkChains$FormulaReader" "MarkChains$FormulaReader" "conds" "I") ∈ kTb := kwm_1 204 rfl rfl
theorem kw_1_206 : (Jvm.Cond.lays "MarkChains$FormulaReader" "MarkChains$FormulaReader" "things" "I") ∈ kTb := kwm_1 206 rfl rfl
theorem kw_1_208 : (Jvm.Cond.lays "MarkChains$FormulaReader" "MarkChains$FormulaReader" "nested" "I") ∈ kTb := kwm_1 208 rfl rfl
theorem kw_1_210 : (Jvm.Cond.lays "MarkChains$FormulaReader" "MarkChains$FormulaReader" "state" "I") ∈ kTb := kwm_1 210 rfl rfl
theorem kw_1_212 : (Jvm.Cond.lays "MarkChains$FormulaReader" "MarkChains$FormulaReader" "isCompared" "Z") ∈ kTb := kwm_1 212 rfl rfl
theorem kw_1_215 : (Jvm.Cond.classLink "MarkChains" (41 : Nat) "MarkChains$Acts") ∈ kTb := kwm_1 215 rfl rfl
theorem kw_1_216 : (Jvm.Cond.instantiable "MarkChains$Acts" (5 : Nat)) ∈ kTb := kwm_1 216 rfl rfl
theorem kw_1_218 : (Jvm.Cond.instanceMethod ({ cls := "MarkChains$Acts", name := "<init>", desc := "()V" } : Jvm.MethodName)) ∈ kTb := kwm_1 218 rfl rfl
theorem kw_1_219 : (Jvm.Cond.code ({ cls := "MarkChains$Acts", name := "<init>", desc := "()V" } : Jvm.MethodName) prog_2_method_1_code (1 : Nat) (Option.none : Option Jvm.ClassFile.FieldType)) ∈ kTb := kwm_1 219 rfl rfl
theorem kw_1_220 : (Jvm.Cond.methodLink "MarkChains$Acts" (3 : Nat) ({ cls := "java/lang/Object", name := "<init>", desc := "()V" } : Jvm.MethodName)) ∈ kTb := kwm_1 220 rfl rfl
theorem kw_1_221 : (Jvm.Cond.fieldLink "MarkChains$Acts" (9 : Nat) "MarkChains$Acts" "letters" "[I") ∈ kTb := kwm_1 221 rfl rfl
theorem kw_1_222 : (Jvm.Cond.fieldLink "MarkChains$Acts" (15 : Nat) "MarkChains$Acts" "numbers" "[I") ∈ kTb := kwm_1 222 rfl rfl
theorem kw_1_223 : (Jvm.Cond.fieldLink "MarkChains$Acts" (18 : Nat) "MarkChains$Acts" "answers" "[I") ∈ kTb := kwm_1 223 rfl rfl
theorem kw_1_225 : (Jvm.Cond.fieldLink "MarkChains$Acts" (21 : Nat) "MarkChains$Acts" "done" "I") ∈ kTb := kwm_1 225 rfl rfl
theorem kw_1_227 : (Jvm.Cond.fieldLink "MarkChains$Acts" (25 : Nat) "MarkChains$Acts" "endedBy" "I") ∈ kTb := kwm_1 227 rfl rfl
theorem kw_1_229 : (Jvm.Cond.laysFinal "MarkChains$Acts" "MarkChains$Acts" "letters" "[I") ∈ kTb := kwm_1 229 rfl rfl
theorem kw_1_231 : (Jvm.Cond.laysFinal "MarkChains$Acts" "MarkChains$Acts" "numbers" "[I") ∈ kTb := kwm_1 231 rfl rfl
theorem kw_1_233 : (Jvm.Cond.laysFinal "MarkChains$Acts" "MarkChains$Acts" "answers" "[I") ∈ kTb := kwm_1 233 rfl rfl
theorem kw_1_235 : (Jvm.Cond.lays "MarkChains$Acts" "MarkChains$Acts" "done" "I") ∈ kTb := kwm_1 235 rfl rfl
theorem kw_1_237 : (Jvm.Cond.lays "MarkChains$Acts" "MarkChains$Acts" "endedBy" "I") ∈ kTb := kwm_1 237 rfl rfl
theorem kw_2_0 : (Jvm.Cond.classLink "MarkChains" (48 : Nat) "MarkChains$Deeds") ∈ kTb := kwm_2 0 rfl rfl
theorem kw_2_1 : (Jvm.Cond.instantiable "MarkChains$Deeds" (3 : Nat)) ∈ kTb := kwm_2 1 rfl rfl
theorem kw_2_3 : (Jvm.Cond.instanceMethod ({ cls := "MarkChains$Deeds", name := "<init>", desc := "()V" } : Jvm.MethodName)) ∈ kTb := kwm_2 3 rfl rfl
theorem kw_2_4 : (Jvm.Cond.code ({ cls := "MarkChains$Deeds", name := "<init>", desc := "()V" } : Jvm.MethodName) prog_5_method_1_code (1 : Nat) (Option.none : Option Jvm.ClassFile.FieldType)) ∈ kTb := kwm_2 4 rfl rfl
theorem kw_2_5 : (Jvm.Cond.methodLink "MarkChains$Deeds" (3 : Nat) ({ cls := "java/lang/Object", name := "<init>", desc := "()V" } : Jvm.MethodName)) ∈ kTb := kwm_2 5 rfl rfl
theorem kw_2_6 : (Jvm.Cond.classLink "MarkChains$Deeds" (9 : Nat) "MarkChains$Deed") ∈ kTb := kwm_2 6 rfl rfl
theorem kw_2_8 : (Jvm.Cond.fieldLink "MarkChains$Deeds" (11 : Nat) "MarkChains$Deeds" "ring" "[LMarkChains$Deed;") ∈ kTb := kwm_2 8 rfl rfl
theorem kw_2_9 : (Jvm.Cond.fieldLink "MarkChains$Deeds" (17 : Nat) "MarkChains$Deeds" "next" "I") ∈ kTb := kwm_2 9 rfl rfl
theorem kw_2_10 : (Jvm.Cond.fieldLink "MarkChains$Deeds" (21 : Nat) "MarkChains$Deeds" "size" "I") ∈ kTb := kwm_2 10 rfl rfl
theorem kw_2_12 : (Jvm.Cond.laysFinal "MarkChains$Deeds" "MarkChains$Deeds" "ring" "[LMarkChains$Deed;") ∈ kTb := kwm_2 12 rfl rfl
theorem kw_2_14 : (Jvm.Cond.lays "MarkChains$Deeds" "MarkChains$Deeds" "next" "I") ∈ kTb := kwm_2 14 rfl rfl
theorem kw_2_16 : (Jvm.Cond.lays "MarkChains$Deeds" "MarkChains$Deeds" "size" "I") ∈ kTb := kwm_2 16 rfl rfl
theorem kw_2_19 : (Jvm.Cond.classLink "MarkChains" (55 : Nat) "MarkChains$Line") ∈ kTb := kwm_2 19 rfl rfl
theorem kw_2_20 : (Jvm.Cond.instantiable "MarkChains$Line" (4 : Nat)) ∈ kTb := kwm_2 20 rfl rfl
theorem kw_2_21 : (Jvm.Cond.methodLink "MarkChains" (57 : Nat) ({ cls := "MarkChains$Line", name := "<init>", desc := "(LMarkChains$Book;)V" } : Jvm.MethodName)) ∈ kTb := kwm_2 21 rfl rfl
theorem kw_2_22 : (Jvm.Cond.instanceMethod ({ cls := "MarkChains$Line", name := "<init>", desc := "(LMarkChains$Book;)V" } : Jvm.MethodName)) ∈ kTb := kwm_2 22 rfl rfl
theorem kw_2_23 : (Jvm.Cond.code ({ cls := "MarkChains$Line", name := "<init>", desc := "(LMarkChains$Book;)V" } : Jvm.MethodName) prog_9_method_1_code (2 : Nat) (Option.none : Option Jvm.ClassFile.FieldType)) ∈ kTb := kwm_2 23 rfl rfl
theorem kw_2_24 : (Jvm.Cond.methodLink "MarkChains$Line" (3 : Nat) ({ cls := "java/lang/Object", name := "<init>", desc := "()V" } : Jvm.MethodName)) ∈ kTb := kwm_2 24 rfl rfl
theorem kw_2_25 : (Jvm.Cond.fieldLink "MarkChains$Line" (22 : Nat) "MarkChains$Line" "book" "LMarkChains$Book;") ∈ kTb := kwm_2 25 rfl rfl
theorem kw_2_26 : (Jvm.Cond.fieldLink "MarkChains$Line" (9 : Nat) "MarkChains$Line" "numbers" "[I") ∈ kTb := kwm_2 26 rfl rfl
theorem kw_2_28 : (Jvm.Cond.fieldLink "MarkChains$Line" (15 : Nat) "MarkChains$Line" "bestOf" "[I") ∈ kTb := kwm_2 28 rfl rfl
theorem kw_2_29 : (Jvm.Cond.fieldLink "MarkChains$Line" (18 : Nat) "MarkChains$Line" "size" "I") ∈ kTb := kwm_2 29 rfl rfl
theorem kw_2_31 : (Jvm.Cond.laysFinal "MarkChains$Line" "MarkChains$Line" "book" "LMarkChains$Book;") ∈ kTb := kwm_2 31 rfl rfl
theorem kw_2_33 : (Jvm.Cond.laysFinal "MarkChains$Line" "MarkChains$Line" "numbers" "[I") ∈ kTb := kwm_2 33 rfl rfl
theorem kw_2_35 : (Jvm.Cond.laysFinal "MarkChains$Line" "MarkChains$Line" "bestOf" "[I") ∈ kTb := kwm_2 35 rfl rfl
theorem kw_2_37 : (Jvm.Cond.lays "MarkChains$Line" "MarkChains$Line" "size" "I") ∈ kTb := kwm_2 37 rfl rfl
theorem kw_2_40 : (Jvm.Cond.classLink "MarkChains" (67 : Nat) "MarkChains$Sheet") ∈ kTb := kwm_2 40 rfl rfl
theorem kw_2_41 : (Jvm.Cond.instantiable "MarkChains$Sheet" (2 : Nat)) ∈ kTb := kwm_2 41 rfl rfl
theorem kw_2_43 : (Jvm.Cond.instanceMethod ({ cls := "MarkChains$Sheet", name := "<init>", desc := "()V" } : Jvm.MethodName)) ∈ kTb := kwm_2 43 rfl rfl
theorem kw_2_44 : (Jvm.Cond.code ({ cls := "MarkChains$Sheet", name := "<init>", desc := "()V" } : Jvm.MethodName) prog_11_method_1_code (1 : Nat) (Option.none : Option Jvm.ClassFile.FieldType)) ∈ kTb := kwm_2 44 rfl rfl
theorem kw_2_45 : (Jvm.Cond.methodLink "MarkChains$Sheet" (3 : Nat) ({ cls := "java/lang/Object", name := "<init>", desc := "()V" } : Jvm.MethodName)) ∈ kTb := kwm_2 45 rfl rfl
theorem kw_2_46 : (Jvm.Cond.fieldLink "MarkChains$Sheet" (9 : Nat) "MarkChains$Sheet" "bytes" "[I") ∈ kTb := kwm_2 46 rfl rfl
theorem kw_2_48 : (Jvm.Cond.fieldLink "MarkChains$Sheet" (15 : Nat) "MarkChains$Sheet" "size" "I") ∈ kTb := kwm_2 48 rfl rfl
theorem kw_2_50 : (Jvm.Cond.laysFinal "MarkChains$Sheet" "MarkChains$Sheet" "bytes" "[I") ∈ kTb := kwm_2 50 rfl rfl
theorem kw_2_52 : (Jvm.Cond.lays "MarkChains$Sheet" "MarkChains$Sheet" "size" "I") ∈ kTb := kwm_2 52 rfl rfl
theorem kw_2_55 : (Jvm.Cond.classLink "MarkChains" (78 : Nat) "MarkChains$Formula") ∈ kTb := kwm_2 55 rfl rfl
theorem kw_2_56 : (Jvm.Cond.instantiable "MarkChains$Formula" (4 : Nat)) ∈ kTb := kwm_2 56 rfl rfl
theorem kw_2_57 : (Jvm.Cond.methodLink "MarkChains" (80 : Nat) ({ cls := "MarkChains$Formula", name := "<init>", desc := "([I[I)V" } : Jvm.MethodName)) ∈ kTb := kwm_2 57 rfl rfl
theorem kw_2_58 : (Jvm.Cond.instanceMethod ({ cls := "MarkChains$Formula", name := "<init>", desc := "([I[I)V" } : Jvm.MethodName)) ∈ kTb := kwm_2 58 rfl rfl
theorem kw_2_59 : (Jvm.Cond.code ({ cls := "MarkChains$Formula", name := "<init>", desc := "([I[I)V" } : Jvm.MethodName) prog_6_method_1_code (3 : Nat) (Option.none : Option Jvm.ClassFile.FieldType)) ∈ kTb := kwm_2 59 rfl rfl
theorem kw_2_60 : (Jvm.Cond.methodLink "MarkChains$Formula" (3 : Nat) ({ cls := "java/lang/Object", name := "<init>", desc := "()V" } : Jvm.MethodName)) ∈ kTb := kwm_2 60 rfl rfl
theorem kw_2_61 : (Jvm.Cond.fieldLink "MarkChains$Formula" (19 : Nat) "MarkChains$Formula" "code" "[I") ∈ kTb := kwm_2 61 rfl rfl
theorem kw_2_62 : (Jvm.Cond.fieldLink "MarkChains$Formula" (22 : Nat) "MarkChains$Formula" "ends" "[I") ∈ kTb := kwm_2 62 rfl rfl
theorem kw_2_63 : (Jvm.Cond.fieldLink "MarkChains$Formula" (9 : Nat) "MarkChains$Formula" "stack" "[I") ∈ kTb := kwm_2 63 rfl rfl
theorem kw_2_64 : (Jvm.Cond.fieldLink "MarkChains$Formula" (15 : Nat) "MarkChains$Formula" "height" "I") ∈ kTb := kwm_2 64 rfl rfl
theorem kw_2_65 : (Jvm.Cond.laysFinal "MarkChains$Formula" "MarkChains$Formula" "code" "[I") ∈ kTb := kwm_2 65 rfl rfl
theorem kw_2_67 : (Jvm.Cond.laysFinal "MarkChains$Formula" "MarkChains$Formula" "ends" "[I") ∈ kTb := kwm_2 67 rfl rfl
theorem kw_2_69 : (Jvm.Cond.laysFinal "MarkChains$Formula" "MarkChains$Formula" "stack" "[I") ∈ kTb := kwm_2 69 rfl rfl
theorem kw_2_71 : (Jvm.Cond.lays "MarkChains$Formula" "MarkChains$Formula" "height" "I") ∈ kTb := kwm_2 71 rfl rfl
theorem kw_2_74 : (Jvm.Cond.fieldLink "MarkChains" (10 : Nat) "MarkChains" "tape" "LMarkChains$Tape;") ∈ kTb := kwm_2 74 rfl rfl
theorem kw_2_75 : (Jvm.Cond.fieldLink "MarkChains" (19 : Nat) "MarkChains" "book" "LMarkChains$Book;") ∈ kTb := kwm_2 75 rfl rfl
theorem kw_2_76 : (Jvm.Cond.fieldLink "MarkChains" (28 : Nat) "MarkChains" "itemReader" "LMarkChains$ItemReader;") ∈ kTb := kwm_2 76 rfl rfl
theorem kw_2_77 : (Jvm.Cond.fieldLink "MarkChains" (37 : Nat) "MarkChains" "formulaReader" "LMarkChains$FormulaReader;") ∈ kTb := kwm_2 77 rfl rfl
theorem kw_2_78 : (Jvm.Cond.fieldLink "MarkChains" (44 : Nat) "MarkChains" "plan" "LMarkChains$Acts;") ∈ kTb := kwm_2 78 rfl rfl
theorem kw_2_79 : (Jvm.Cond.fieldLink "MarkChains" (51 : Nat) "MarkChains" "deeds" "LMarkChains$Deeds;") ∈ kTb := kwm_2 79 rfl rfl
theorem kw_2_80 : (Jvm.Cond.fieldLink "MarkChains" (60 : Nat) "MarkChains" "line" "LMarkChains$Line;") ∈ kTb := kwm_2 80 rfl rfl
theorem kw_2_81 : (Jvm.Cond.fieldLink "MarkChains" (64 : Nat) "MarkChains" "secondLine" "LMarkChains$Line;") ∈ kTb := kwm_2 81 rfl rfl
theorem kw_2_82 : (Jvm.Cond.fieldLink "MarkChains" (70 : Nat) "MarkChains" "sheet" "LMarkChains$Sheet;") ∈ kTb := kwm_2 82 rfl rfl
theorem kw_2_83 : (Jvm.Cond.fieldLink "MarkChains" (74 : Nat) "MarkChains" "bestPoints" "[I") ∈ kTb := kwm_2 83 rfl rfl
theorem kw_2_84 : (Jvm.Cond.fieldLink "MarkChains" (83 : Nat) "MarkChains" "needed" "LMarkChains$Formula;") ∈ kTb := kwm_2 84 rfl rfl
theorem kw_2_85 : (Jvm.Cond.fieldLink "MarkChains" (87 : Nat) "MarkChains" "scored" "LMarkChains$Formula;") ∈ kTb := kwm_2 85 rfl rfl
theorem kw_2_86 : (Jvm.Cond.fieldLink "MarkChains" (90 : Nat) "MarkChains" "today" "I") ∈ kTb := kwm_2 86 rfl rfl
theorem kw_2_87 : (Jvm.Cond.laysFinal "MarkChains" "MarkChains" "tape" "LMarkChains$Tape;") ∈ kTb := kwm_2 87 rfl rfl
theorem kw_2_89 : (Jvm.Cond.laysFinal "MarkChains" "MarkChains" "book" "LMarkChains$Book;") ∈ kTb := kwm_2 89 rfl rfl
theorem kw_2_91 : (Jvm.Cond.laysFinal "MarkChains" "MarkChains" "itemReader" "LMarkChains$ItemReader;") ∈ kTb := kwm_2 91 rfl rfl
theorem kw_2_93 : (Jvm.Cond.laysFinal "MarkChains" "MarkChains" "formulaReader" "LMarkChains$FormulaReader;") ∈ kTb := kwm_2 93 rfl rfl
theorem kw_2_95 : (Jvm.Cond.laysFinal "MarkChains" "MarkChains" "plan" "LMarkChains$Acts;") ∈ kTb := kwm_2 95 rfl rfl
theorem kw_2_97 : (Jvm.Cond.laysFinal "MarkChains" "MarkChains" "deeds" "LMarkChains$Deeds;") ∈ kTb := kwm_2 97 rfl rfl
theorem kw_2_99 : (Jvm.Cond.laysFinal "MarkChains" "MarkChains" "line" "LMarkChains$Line;") ∈ kTb := kwm_2 99 rfl rfl
theorem kw_2_101 : (Jvm.Cond.laysFinal "MarkChains" "MarkChains" "secondLine" "LMarkChains$Line;") ∈ kTb := kwm_2 101 rfl rfl
theorem kw_2_103 : (Jvm.Cond.laysFinal "MarkChains" "MarkChains" "sheet" "LMarkChains$Sheet;") ∈ kTb := kwm_2 103 rfl rfl
theorem kw_2_105 : (Jvm.Cond.laysFinal "MarkChains" "MarkChains" "bestPoints" "[I") ∈ kTb := kwm_2 105 rfl rfl
theorem kw_2_107 : (Jvm.Cond.lays "MarkChains" "MarkChains" "needed" "LMarkChains$Formula;") ∈ kTb := kwm_2 107 rfl rfl
theorem kw_2_109 : (Jvm.Cond.lays "MarkChains" "MarkChains" "scored" "LMarkChains$Formula;") ∈ kTb := kwm_2 109 rfl rfl
theorem kw_2_111 : (Jvm.Cond.lays "MarkChains" "MarkChains" "today" "I") ∈ kTb := kwm_2 111 rfl rfl
theorem kw_2_114 : (Jvm.Cond.methodLink "MarkChainsLaw" (13 : Nat) ({ cls := "MarkChains", name := "feed", desc := "(IIIII)I" } : Jvm.MethodName)) ∈ kTb := kwm_2 114 rfl rfl
theorem kw_2_115 : (Jvm.Cond.instanceMethod ({ cls := "MarkChains", name := "feed", desc := "(IIIII)I" } : Jvm.MethodName)) ∈ kTb := kwm_2 115 rfl rfl
theorem kw_2_116 : (Jvm.Cond.selects "MarkChains" ({ cls := "MarkChains", name := "feed", desc := "(IIIII)I" } : Jvm.MethodName) ({ cls := "MarkChains", name := "feed", desc := "(IIIII)I" } : Jvm.MethodName)) ∈ kTb := kwm_2 116 rfl rfl
theorem kw_2_117 : (Jvm.Cond.code ({ cls := "MarkChains", name := "feed", desc := "(IIIII)I" } : Jvm.MethodName) prog_1_method_2_code (6 : Nat) (Option.some Jvm.ClassFile.FieldType.int)) ∈ kTb := kwm_2 117 rfl rfl
theorem kw_2_118 : (Jvm.Cond.methodLink "MarkChains" (97 : Nat) ({ cls := "MarkChains$Tape", name := "addWord", desc := "(I)V" } : Jvm.MethodName)) ∈ kTb := kwm_2 118 rfl rfl
theorem kw_2_119 : (Jvm.Cond.instanceMethod ({ cls := "MarkChains$Tape", name := "addWord", desc := "(I)V" } : Jvm.MethodName)) ∈ kTb := kwm_2 119 rfl rfl
theorem kw_2_120 : (Jvm.Cond.selects "MarkChains$Tape" ({ cls := "MarkChains$Tape", name := "addWord", desc := "(I)V" } : Jvm.MethodName) ({ cls := "MarkChains$Tape", name := "addWord", desc := "(I)V" } : Jvm.MethodName)) ∈ kTb := kwm_2 120 rfl rfl
theorem kw_2_121 : (Jvm.Cond.code ({ cls := "MarkChains$Tape", name := "addWord", desc := "(I)V" } : Jvm.MethodName) prog_12_method_2_code (3 : Nat) (Option.none : Option Jvm.ClassFile.FieldType)) ∈ kTb := kwm_2 121 rfl rfl
theorem kw_2_122 : (Jvm.Cond.methodLink "MarkChainsLaw" (18 : Nat) ({ cls := "MarkChains", name := "end", desc := "(I)I" } : Jvm.MethodName)) ∈ kTb := kwm_2 122 rfl rfl
theorem kw_2_123 : (Jvm.Cond.instanceMethod ({ cls := "MarkChains", name := "end", desc := "(I)I" } : Jvm.MethodName)) ∈ kTb := kwm_2 123 rfl rfl
theorem kw_2_124 : (Jvm.Cond.selects "MarkChains" ({ cls := "MarkChains", name := "end", desc := "(I)I" } : Jvm.MethodName) ({ cls := "MarkChains", name := "end", desc := "(I)I" } : Jvm.MethodName)) ∈ kTb := kwm_2 124 rfl rfl
theorem kw_2_125 : (Jvm.Cond.code ({ cls := "MarkChains", name := "end", desc := "(I)I" } : Jvm.MethodName) prog_1_method_3_code (2 : Nat) (Option.some Jvm.ClassFile.FieldType.int)) ∈ kTb := kwm_2 125 rfl rfl
theorem kw_2_126 : (Jvm.Cond.methodLink "MarkChainsLaw" (23 : Nat) ({ cls := "MarkChains", name := "text", desc := "()I" } : Jvm.MethodName)) ∈ kTb := kwm_2 126 rfl rfl
theorem kw_2_127 : (Jvm.Cond.instanceMethod ({ cls := "MarkChains", name := "text", desc := "()I" } : Jvm.MethodName)) ∈ kTb := kwm_2 127 rfl rfl
theorem kw_2_128 : (Jvm.Cond.selects "MarkChains" ({ cls := "MarkChains", name := "text", desc := "()I" } : Jvm.MethodName) ({ cls := "MarkChains", name := "text", desc := "()I" } : Jvm.MethodName)) ∈ kTb := kwm_2 128 rfl rfl
theorem kw_2_129 : (Jvm.Cond.code ({ cls := "MarkChains", name := "text", desc := "()I" } : Jvm.MethodName) prog_1_method_4_code (4 : Nat) (Option.some Jvm.ClassFile.FieldType.int)) ∈ kTb := kwm_2 129 rfl rfl
theorem kw_2_130 : (Jvm.Cond.methodLink "MarkChains" (101 : Nat) ({ cls := "MarkChains$Book", name := "packedSizes", desc := "()J" } : Jvm.MethodName)) ∈ kTb := kwm_2 130 rfl rfl
theorem kw_2_131 : (Jvm.Cond.instanceMethod ({ cls := "MarkChains$Book", name := "packedSizes", desc := "()J" } : Jvm.MethodName)) ∈ kTb := kwm_2 131 rfl rfl
theorem kw_2_132 : (Jvm.Cond.selects "MarkChains$Book" ({ cls := "MarkChains$Book", name := "packedSizes", desc := "()J" } : Jvm.MethodName) ({ cls := "MarkChains$Book", name := "packedSizes", desc := "()J" } : Jvm.MethodName)) ∈ kTb := kwm_2 132 rfl rfl
theorem kw_2_133 : (Jvm.Cond.code ({ cls := "MarkChains$Book", name := "packedSizes", desc := "()J" } : Jvm.MethodName) prog_3_method_9_code (1 : Nat) (Option.some Jvm.ClassFile.FieldType.long)) ∈ kTb := kwm_2 133 rfl rfl
theorem kw_2_134 : (Jvm.Cond.methodLink "MarkChains" (105 : Nat) ({ cls := "MarkChains$Tape", name := "beginReading", desc := "()V" } : Jvm.MethodName)) ∈ kTb := kwm_2 134 rfl rfl
theorem kw_2_135 : (Jvm.Cond.instanceMethod ({ cls := "MarkChains$Tape", name := "beginReading", desc := "()V" } : Jvm.MethodName)) ∈ kTb := kwm_2 135 rfl rfl
theorem kw_2_136 : (Jvm.Cond.selects "MarkChains$Tape" ({ cls := "MarkChains$Tape", name := "beginReading", desc := "()V" } : Jvm.MethodName) ({ cls := "MarkChains$Tape", name := "beginReading", desc := "()V" } : Jvm.MethodName)) ∈ kTb := kwm_2 136 rfl rfl
theorem kw_2_137 : (Jvm.Cond.code ({ cls := "MarkChains$Tape", name := "beginReading", desc := "()V" } : Jvm.MethodName) prog_12_method_3_code (1 : Nat) (Option.none : Option Jvm.ClassFile.FieldType)) ∈ kTb := kwm_2 137 rfl rfl
theorem kw_2_138 : (Jvm.Cond.methodLink "MarkChains" (108 : Nat) ({ cls := "MarkChains$ItemReader", name := "readItems", desc := "(I)I" } : Jvm.MethodName)) ∈ kTb := kwm_2 138 rfl rfl
theorem kw_2_139 : (Jvm.Cond.instanceMethod ({ cls := "MarkChains$ItemReader", name := "readItems", desc := "(I)I" } : Jvm.MethodName)) ∈ kTb := kwm_2 139 rfl rfl
theorem kw_2_140 : (Jvm.Cond.selects "MarkChains$ItemReader" ({ cls := "MarkChains$ItemReader", name := "readItems", desc := "(I)I" } : Jvm.MethodName) ({ cls := "MarkChains$ItemReader", name := "readItems", desc := "(I)I" } : Jvm.MethodName)) ∈ kTb := kwm_2 140 rfl rfl
theorem kw_2_141 : (Jvm.Cond.code ({ cls := "MarkChains$ItemReader", name := "readItems", desc := "(I)I" } : Jvm.MethodName) prog_8_method_2_code (3 : Nat) (Option.some Jvm.ClassFile.FieldType.int)) ∈ kTb := kwm_2 141 rfl rfl
theorem kw_2_142 : (Jvm.Cond.methodLink "MarkChains$ItemReader" (19 : Nat) ({ cls := "MarkChains$Tape", name := "isOver", desc := "()Z" } : Jvm.MethodName)) ∈ kTb := kwm_2 142 rfl rfl
theorem kw_2_143 : (Jvm.Cond.instanceMethod ({ cls := "MarkChains$Tape", name := "isOver", desc := "()Z" } : Jvm.MethodName)) ∈ kTb := kwm_2 143 rfl rfl
theorem kw_2_144 : (Jvm.Cond.selects "MarkChains$Tape" ({ cls := "MarkChains$Tape", name := "isOver", desc := "()Z" } : Jvm.MethodName) ({ cls := "MarkChains$Tape", name := "isOver", desc := "()Z" } : Jvm.MethodName)) ∈ kTb := kwm_2 144 rfl rfl
theorem kw_2_145 : (Jvm.Cond.code ({ cls := "MarkChains$Tape", name := "isOver", desc := "()Z" } : Jvm.MethodName) prog_12_method_4_code (1 : Nat) (Option.some Jvm.ClassFile.FieldType.boolean)) ∈ kTb := kwm_2 145 rfl rfl
theorem kw_2_146 : (Jvm.Cond.methodLink "MarkChains$ItemReader" (25 : Nat) ({ cls := "MarkChains$ItemReader", name := "readItem", desc := "(I)Z" } : Jvm.MethodName)) ∈ kTb := kwm_2 146 rfl rfl
theorem kw_2_148 : (Jvm.Cond.instanceMethod ({ cls := "MarkChains$ItemReader", name := "readItem", desc := "(I)Z" } : Jvm.MethodName)) ∈ kTb := kwm_2 148 rfl rfl
theorem kw_2_149 : (Jvm.Cond.code ({ cls := "MarkChains$ItemReader", name := "readItem", desc := "(I)Z" } : Jvm.MethodName) prog_8_method_3_code (5 : Nat) (Option.some Jvm.ClassFile.FieldType.boolean)) ∈ kTb := kwm_2 149 rfl rfl
theorem kw_2_151 : (Jvm.Cond.methodLink "MarkChains$ItemReader" (31 : Nat) ({ cls := "MarkChains$Tape", name := "peek", desc := "()I" } : Jvm.MethodName)) ∈ kTb := kwm_2 151 rfl rfl
theorem kw_2_152 : (Jvm.Cond.instanceMethod ({ cls := "MarkChains$Tape", name := "peek", desc := "()I" } : Jvm.MethodName)) ∈ kTb := kwm_2 152 rfl rfl
theorem kw_2_153 : (Jvm.Cond.selects "MarkChains$Tape" ({ cls := "MarkChains$Tape", name := "peek", desc := "()I" } : Jvm.MethodName) ({ cls := "MarkChains$Tape", name := "peek", desc := "()I" } : Jvm.MethodName)) ∈ kTb := kwm_2 153 rfl rfl
theorem kw_2_154 : (Jvm.Cond.code ({ cls := "MarkChains$Tape", name := "peek", desc := "()I" } : Jvm.MethodName) prog_12_method_5_code (1 : Nat) (Option.some Jvm.ClassFile.FieldType.int)) ∈ kTb := kwm_2 154 rfl rfl
theorem kw_2_155 : (Jvm.Cond.methodLink "MarkChains$ItemReader" (35 : Nat) ({ cls := "java/lang/String", name := "indexOf", desc := "(I)I" } : Jvm.MethodName)) ∈ kTb := kwm_2 155 rfl rfl
theorem kw_2_156 : (Jvm.Cond.instanceMethod ({ cls := "java/lang/String", name := "indexOf", desc := "(I)I" } : Jvm.MethodName)) ∈ kTb := kwm_2 156 rfl rfl
theorem kw_2_157 : (Jvm.Cond.selects "java/lang/String" ({ cls := "java/lang/String", name := "indexOf", desc := "(I)I" } : Jvm.MethodName) ({ cls := "java/lang/String", name := "indexOf", desc := "(I)I" } : Jvm.MethodName)) ∈ kTb := kwm_2 157 rfl rfl
theorem kw_2_158 : (Jvm.Cond.code ({ cls := "java/lang/String", name := "indexOf", desc := "(I)I" } : Jvm.MethodName) prog_18_method_79_code (2 : Nat) (Option.some Jvm.ClassFile.FieldType.int)) ∈ kTb := kwm_2 158 rfl rfl
theorem kw_2_159 : (Jvm.Cond.methodLink "java/lang/String" (633 : Nat) ({ cls := "java/lang/String", name := "indexOf", desc := "(II)I" } : Jvm.MethodName)) ∈ kTb := kwm_2 159 rfl rfl
theorem kw_2_160 : (Jvm.Cond.instanceMethod ({ cls := "java/lang/String", name := "indexOf", desc := "(II)I" } : Jvm.MethodName)) ∈ kTb := kwm_2 160 rfl rfl
theorem kw_2_161 : (Jvm.Cond.selects "java/lang/String" ({ cls := "java/lang/String", name := "indexOf", desc := "(II)I" } : Jvm.MethodName) ({ cls := "java/lang/String", name := "indexOf", desc := "(II)I" } : Jvm.MethodName)) ∈ kTb := kwm_2 161 rfl rfl
theorem kw_2_162 : (Jvm.Cond.code ({ cls := "java/lang/String", name := "indexOf", desc := "(II)I" } : Jvm.MethodName) prog_18_method_80_code (3 : Nat) (Option.some Jvm.ClassFile.FieldType.int)) ∈ kTb := kwm_2 162 rfl rfl
theorem kw_2_163 : (Jvm.Cond.methodLink "java/lang/String" (492 : Nat) ({ cls := "java/lang/String", name := "isLatin1", desc := "()Z" } : Jvm.MethodName)) ∈ kTb := kwm_2 163 rfl rfl
theorem kw_2_164 : (Jvm.Cond.instanceMethod ({ cls := "java/lang/String", name := "isLatin1", desc := "()Z" } : Jvm.MethodName)) ∈ kTb := kwm_2 164 rfl rfl
theorem kw_2_165 : (Jvm.Cond.selects "java/lang/String" ({ cls := "java/lang/String", name := "isLatin1", desc := "()Z" } : Jvm.MethodName) ({ cls := "java/lang/String", name := "isLatin1", desc := "()Z" } : Jvm.MethodName)) ∈ kTb := kwm_2 165 rfl rfl
theorem kw_2_166 : (Jvm.Cond.code ({ cls := "java/lang/String", name := "isLatin1", desc := "()Z" } : Jvm.MethodName) prog_18_method_154_code (1 : Nat) (Option.some Jvm.ClassFile.FieldType.boolean)) ∈ kTb := kwm_2 166 rfl rfl
theorem kw_2_167 : (Jvm.Cond.fieldLink "java/lang/String" (38 : Nat) "java/lang/String" "COMPACT_STRINGS" "Z") ∈ kTb := kwm_2 167 rfl rfl
theorem kw_2_169 : (Jvm.Cond.methodLink "java/lang/String" (505 : Nat) ({ cls := "java/lang/String", name := "length", desc := "()I" } : Jvm.MethodName)) ∈ kTb := kwm_2 169 rfl rfl
theorem kw_2_170 : (Jvm.Cond.instanceMethod ({ cls := "java/lang/String", name := "length", desc := "()I" } : Jvm.MethodName)) ∈ kTb := kwm_2 170 rfl rfl
theorem kw_2_171 : (Jvm.Cond.selects "java/lang/String" ({ cls := "java/lang/String", name := "length", desc := "()I" } : Jvm.MethodName) ({ cls := "java/lang/String", name := "length", desc := "()I" } : Jvm.MethodName)) ∈ kTb := kwm_2 171 rfl rfl
theorem kw_2_172 : (Jvm.Cond.code ({ cls := "java/lang/String", name := "length", desc := "()I" } : Jvm.MethodName) prog_18_method_54_code (1 : Nat) (Option.some Jvm.ClassFile.FieldType.int)) ∈ kTb := kwm_2 172 rfl rfl
theorem kw_2_173 : (Jvm.Cond.methodLink "java/lang/String" (335 : Nat) ({ cls := "java/lang/String", name := "coder", desc := "()B" } : Jvm.MethodName)) ∈ kTb := kwm_2 173 rfl rfl
theorem kw_2_174 : (Jvm.Cond.instanceMethod ({ cls := "java/lang/String", name := "coder", desc := "()B" } : Jvm.MethodName)) ∈ kTb := kwm_2 174 rfl rfl
theorem kw_2_175 : (Jvm.Cond.selects "java/lang/String" ({ cls := "java/lang/String", name := "coder", desc := "()B" } : Jvm.MethodName) ({ cls := "java/lang/String", name := "coder", desc := "()B" } : Jvm.MethodName)) ∈ kTb := kwm_2 175 rfl rfl
theorem kw_2_176 : (Jvm.Cond.code ({ cls := "java/lang/String", name := "coder", desc := "()B" } : Jvm.MethodName) prog_18_method_152_code (1 : Nat) (Option.some Jvm.ClassFile.FieldType.byte)) ∈ kTb := kwm_2 176 rfl rfl
theorem kw_2_177 : (Jvm.Cond.methodLink "java/lang/String" (637 : Nat) ({ cls := "java/lang/StringLatin1", name := "indexOf", desc := "([BIII)I" } : Jvm.MethodName)) ∈ kTb := kwm_2 177 rfl rfl
theorem kw_2_178 : (Jvm.Cond.static ({ cls := "java/lang/StringLatin1", name := "indexOf", desc := "([BIII)I" } : Jvm.MethodName)) ∈ kTb := kwm_2 178 rfl rfl
theorem kw_2_179 : (Jvm.Cond.code ({ cls := "java/lang/StringLatin1", name := "indexOf", desc := "([BIII)I" } : Jvm.MethodName) prog_19_method_22_code (4 : Nat) (Option.some Jvm.ClassFile.FieldType.int)) ∈ kTb := kwm_2 179 rfl rfl
theorem kw_2_180 : (Jvm.Cond.methodLink "java/lang/StringLatin1" (88 : Nat) ({ cls := "java/lang/StringLatin1", name := "canEncode", desc := "(I)Z" } : Jvm.MethodName)) ∈ kTb := kwm_2 180 rfl rfl
theorem kw_2_181 : (Jvm.Cond.static ({ cls := "java/lang/StringLatin1", name := "canEncode", desc := "(I)Z" } : Jvm.MethodName)) ∈ kTb := kwm_2 181 rfl rfl
theorem kw_2_182 : (Jvm.Cond.code ({ cls := "java/lang/StringLatin1", name := "canEncode", desc := "(I)Z" } : Jvm.MethodName) prog_19_method_4_code (1 : Nat) (Option.some Jvm.ClassFile.FieldType.boolean)) ∈ kTb := kwm_2 182 rfl rfl
theorem kw_2_183 : (Jvm.Cond.methodLink "java/lang/StringLatin1" (92 : Nat) ({ cls := "java/lang/Math", name := "max", desc := "(II)I" } : Jvm.MethodName)) ∈ kTb := kwm_2 183 rfl rfl
theorem kw_2_184 : (Jvm.Cond.methodLink "java/lang/StringLatin1" (38 : Nat) ({ cls := "java/lang/Math", name := "min", desc := "(II)I" } : Jvm.MethodName)) ∈ kTb := kwm_2 184 rfl rfl
theorem kw_2_185 : (Jvm.Cond.static ({ cls := "java/lang/Math", name := "min", desc := "(II)I" } : Jvm.MethodName)) ∈ kTb := kwm_2 185 rfl rfl
theorem kw_2_186 : (Jvm.Cond.code ({ cls := "java/lang/Math", name := "min", desc := "(II)I" } : Jvm.MethodName) prog_17_method_69_code (2 : Nat) (Option.some Jvm.ClassFile.FieldType.int)) ∈ kTb := kwm_2 186 rfl rfl
theorem kw_2_187 : (Jvm.Cond.methodLink "java/lang/StringLatin1" (95 : Nat) ({ cls := "java/lang/StringLatin1", name := "indexOfChar", desc := "([BIII)I" } : Jvm.MethodName)) ∈ kTb := kwm_2 187 rfl rfl
theorem kw_2_188 : (Jvm.Cond.static ({ cls := "java/lang/StringLatin1", name := "indexOfChar", desc := "([BIII)I" } : Jvm.MethodName)) ∈ kTb := kwm_2 188 rfl rfl
theorem kw_2_189 : (Jvm.Cond.code ({ cls := "java/lang/StringLatin1", name := "indexOfChar", desc := "([BIII)I" } : Jvm.MethodName) prog_19_method_23_code (6 : Nat) (Option.some Jvm.ClassFile.FieldType.int)) ∈ kTb := kwm_2 189 rfl rfl
theorem kw_2_190 : (Jvm.Cond.methodLink "java/lang/String" (640 : Nat) ({ cls := "java/lang/StringUTF16", name := "indexOf", desc := "([BIII)I" } : Jvm.MethodName)) ∈ kTb := kwm_2 190 rfl rfl
theorem kw_2_191 : (Jvm.Cond.static ({ cls := "java/lang/StringUTF16", name := "indexOf", desc := "([BIII)I" } : Jvm.MethodName)) ∈ kTb := kwm_2 191 rfl rfl
theorem kw_2_192 : (Jvm.Cond.code ({ cls := "java/lang/StringUTF16", name := "indexOf", desc := "([BIII)I" } : Jvm.MethodName) prog_20_method_40_code (4 : Nat) (Option.some Jvm.ClassFile.FieldType.int)) ∈ kTb := kwm_2 192 rfl rfl
theorem kw_2_193 : (Jvm.Cond.methodLink "java/lang/StringUTF16" (224 : Nat) ({ cls := "java/lang/Math", name := "max", desc := "(II)I" } : Jvm.MethodName)) ∈ kTb := kwm_2 193 rfl rfl
theorem kw_2_194 : (Jvm.Cond.methodLink "java/lang/StringUTF16" (183 : Nat) ({ cls := "java/lang/Math", name := "min", desc := "(II)I" } : Jvm.MethodName)) ∈ kTb := kwm_2 194 rfl rfl
theorem kw_2_195 : (Jvm.Cond.constant "java/lang/StringUTF16" (227 : Nat) (65536 : Int32)) ∈ kTb := kwm_2 195 rfl rfl
theorem kw_2_196 : (Jvm.Cond.methodLink "java/lang/StringUTF16" (228 : Nat) ({ cls := "java/lang/StringUTF16", name := "indexOfChar", desc := "([BIII)I" } : Jvm.MethodName)) ∈ kTb := kwm_2 196 rfl rfl
theorem kw_2_197 : (Jvm.Cond.static ({ cls := "java/lang/StringUTF16", name := "indexOfChar", desc := "([BIII)I" } : Jvm.MethodName)) ∈ kTb := kwm_2 197 rfl rfl
theorem kw_2_198 : (Jvm.Cond.code ({ cls := "java/lang/StringUTF16", name := "indexOfChar", desc := "([BIII)I" } : Jvm.MethodName) prog_20_method_47_code (4 : Nat) (Option.some Jvm.ClassFile.FieldType.int)) ∈ kTb := kwm_2 198 rfl rfl
theorem kw_2_199 : (Jvm.Cond.methodLink "java/lang/StringUTF16" (96 : Nat) ({ cls := "java/lang/StringUTF16", name := "checkBoundsBeginEnd", desc := "(II[B)V" } : Jvm.MethodName)) ∈ kTb := kwm_2 199 rfl rfl
theorem kw_2_200 : (Jvm.Cond.static ({ cls := "java/lang/StringUTF16", name := "checkBoundsBeginEnd", desc := "(II[B)V" } : Jvm.MethodName)) ∈ kTb := kwm_2 200 rfl rfl
theorem kw_2_201 : (Jvm.Cond.code ({ cls := "java/lang/StringUTF16", name := "checkBoundsBeginEnd", desc := "(II[B)V" } : Jvm.MethodName) prog_20_method_93_code (3 : Nat) (Option.none : Option Jvm.ClassFile.FieldType)) ∈ kTb := kwm_2 201 rfl rfl
theorem kw_2_202 : (Jvm.Cond.methodLink "java/lang/StringUTF16" (48 : Nat) ({ cls := "java/lang/StringUTF16", name := "length", desc := "([B)I" } : Jvm.MethodName)) ∈ kTb := kwm_2 202 rfl rfl
theorem kw_2_203 : (Jvm.Cond.static ({ cls := "java/lang/StringUTF16", name := "length", desc := "([B)I" } : Jvm.MethodName)) ∈ kTb := kwm_2 203 rfl rfl
theorem kw_2_204 : (Jvm.Cond.code ({ cls := "java/lang/StringUTF16", name := "length", desc := "([B)I" } : Jvm.MethodName) prog_20_method_6_code (1 : Nat) (Option.some Jvm.ClassFile.FieldType.int)) ∈ kTb := kwm_2 204 rfl rfl
theorem kw_2_205 : (Jvm.Cond.methodLink "java/lang/StringUTF16" (241 : Nat) ({ cls := "java/lang/String", name := "checkBoundsBeginEnd", desc := "(III)V" } : Jvm.MethodName)) ∈ kTb := kwm_2 205 rfl rfl
theorem kw_2_206 : (Jvm.Cond.static ({ cls := "java/lang/String", name := "checkBoundsBeginEnd", desc := "(III)V" } : Jvm.MethodName)) ∈ kTb := kwm_2 206 rfl rfl
theorem kw_2_207 : (Jvm.Cond.code ({ cls := "java/lang/String", name := "checkBoundsBeginEnd", desc := "(III)V" } : Jvm.MethodName) prog_18_method_158_code (3 : Nat) (Option.none : Option Jvm.ClassFile.FieldType)) ∈ kTb := kwm_2 207 rfl rfl
theorem kw_2_208 : (Jvm.Cond.fieldLink "java/lang/String" (1053 : Nat) "jdk/internal/util/Preconditions" "SIOOBE_FORMATTER" "Ljava/util/function/BiFunction;") ∈ kTb := kwm_2 208 rfl rfl
theorem kw_2_210 : (Jvm.Cond.methodLink "java/lang/String" (1062 : Nat) ({ cls := "jdk/internal/util/Preconditions", name := "checkFromToIndex", desc := "(IIILjava/util/function/BiFunction;)I" } : Jvm.MethodName)) ∈ kTb := kwm_2 210 rfl rfl
theorem kw_2_211 : (Jvm.Cond.static ({ cls := "jdk/internal/util/Preconditions", name := "checkFromToIndex", desc := "(IIILjava/util/function/BiFunction;)I" } : Jvm.MethodName)) ∈ kTb := kwm_2 211 rfl rfl
theorem kw_2_212 : (Jvm.Cond.code ({ cls := "jdk/internal/util/Preconditions", name := "checkFromToIndex", desc := "(IIILjava/util/function/BiFunction;)I" } : Jvm.MethodName) prog_23_method_12_code (4 : Nat) (Option.some Jvm.ClassFile.FieldType.int)) ∈ kTb := kwm_2 212 rfl rfl
theorem kw_2_213 : (Jvm.Cond.methodLink "java/lang/StringUTF16" (244 : Nat) ({ cls := "java/lang/StringUTF16", name := "indexOfCharUnsafe", desc := "([BIII)I" } : Jvm.MethodName)) ∈ kTb := kwm_2 213 rfl rfl
theorem kw_2_214 : (Jvm.Cond.static ({ cls := "java/lang/StringUTF16", name := "indexOfCharUnsafe", desc := "([BIII)I" } : Jvm.MethodName)) ∈ kTb := kwm_2 214 rfl rfl
theorem kw_2_215 : (Jvm.Cond.code ({ cls := "java/lang/StringUTF16", name := "indexOfCharUnsafe", desc := "([BIII)I" } : Jvm.MethodName) prog_20_method_48_code (5 : Nat) (Option.some Jvm.ClassFile.FieldType.int)) ∈ kTb := kwm_2 215 rfl rfl
theorem kw_2_216 : (Jvm.Cond.methodLink "java/lang/StringUTF16" (71 : Nat) ({ cls := "java/lang/StringUTF16", name := "getChar", desc := "([BI)C" } : Jvm.MethodName)) ∈ kTb := kwm_2 216 rfl rfl
theorem kw_2_217 : (Jvm.Cond.static ({ cls := "java/lang/StringUTF16", name := "getChar", desc := "([BI)C" } : Jvm.MethodName)) ∈ kTb := kwm_2 217 rfl rfl
theorem kw_2_218 : (Jvm.Cond.code ({ cls := "java/lang/StringUTF16", name := "getChar", desc := "([BI)C" } : Jvm.MethodName) prog_20_method_5_code (2 : Nat) (Option.some Jvm.ClassFile.FieldType.char)) ∈ kTb := kwm_2 218 rfl rfl
theorem kw_2_219 : (Jvm.Cond.fieldLink "java/lang/StringUTF16" (44 : Nat) "java/lang/StringUTF16" "$assertionsDisabled" "Z") ∈ kTb := kwm_2 219 rfl rfl
theorem kw_2_221 : (Jvm.Cond.fieldLink "java/lang/StringUTF16" (59 : Nat) "java/lang/StringUTF16" "HI_BYTE_SHIFT" "I") ∈ kTb := kwm_2 221 rfl rfl
theorem kw_2_223 : (Jvm.Cond.fieldLink "java/lang/StringUTF16" (63 : Nat) "java/lang/StringUTF16" "LO_BYTE_SHIFT" "I") ∈ kTb := kwm_2 223 rfl rfl
theorem kw_2_225 : (Jvm.Cond.methodLink "java/lang/StringUTF16" (232 : Nat) ({ cls := "java/lang/StringUTF16", name := "indexOfSupplementary", desc := "([BIII)I" } : Jvm.MethodName)) ∈ kTb := kwm_2 225 rfl rfl
theorem kw_2_226 : (Jvm.Cond.static ({ cls := "java/lang/StringUTF16", name := "indexOfSupplementary", desc := "([BIII)I" } : Jvm.MethodName)) ∈ kTb := kwm_2 226 rfl rfl
theorem kw_2_227 : (Jvm.Cond.code ({ cls := "java/lang/StringUTF16", name := "indexOfSupplementary", desc := "([BIII)I" } : Jvm.MethodName) prog_20_method_49_code (7 : Nat) (Option.some Jvm.ClassFile.FieldType.int)) ∈ kTb := kwm_2 227 rfl rfl
theorem kw_2_228 : (Jvm.Cond.methodLink "java/lang/StringUTF16" (164 : Nat) ({ cls := "java/lang/Character", name := "isValidCodePoint", desc := "(I)Z" } : Jvm.MethodName)) ∈ kTb := kwm_2 228 rfl rfl
theorem kw_2_229 : (Jvm.Cond.static ({ cls := "java/lang/Character", name := "isValidCodePoint", desc := "(I)Z" } : Jvm.MethodName)) ∈ kTb := kwm_2 229 rfl rfl
theorem kw_2_230 : (Jvm.Cond.code ({ cls := "java/lang/Character", name := "isValidCodePoint", desc := "(I)Z" } : Jvm.MethodName) prog_15_method_11_code (2 : Nat) (Option.some Jvm.ClassFile.FieldType.boolean)) ∈ kTb := kwm_2 230 rfl rfl
theorem kw_2_231 : (Jvm.Cond.methodLink "java/lang/StringUTF16" (157 : Nat) ({ cls := "java/lang/Character", name := "highSurrogate", desc := "(I)C" } : Jvm.MethodName)) ∈ kTb := kwm_2 231 rfl rfl
theorem kw_2_232 : (Jvm.Cond.static ({ cls := "java/lang/Character", name := "highSurrogate", desc := "(I)C" } : Jvm.MethodName)) ∈ kTb := kwm_2 232 rfl rfl
theorem kw_2_233 : (Jvm.Cond.code ({ cls := "java/lang/Character", name := "highSurrogate", desc := "(I)C" } : Jvm.MethodName) prog_15_method_28_code (1 : Nat) (Option.some Jvm.ClassFile.FieldType.char)) ∈ kTb := kwm_2 233 rfl rfl
theorem kw_2_234 : (Jvm.Cond.constant "java/lang/Character" (110 : Nat) (55232 : Int32)) ∈ kTb := kwm_2 234 rfl rfl
theorem kw_2_235 : (Jvm.Cond.methodLink "java/lang/StringUTF16" (161 : Nat) ({ cls := "java/lang/Character", name := "lowSurrogate", desc := "(I)C" } : Jvm.MethodName)) ∈ kTb := kwm_2 235 rfl rfl
theorem kw_2_236 : (Jvm.Cond.static ({ cls := "java/lang/Character", name := "lowSurrogate", desc := "(I)C" } : Jvm.MethodName)) ∈ kTb := kwm_2 236 rfl rfl
theorem kw_2_237 : (Jvm.Cond.code ({ cls := "java/lang/Character", name := "lowSurrogate", desc := "(I)C" } : Jvm.MethodName) prog_15_method_29_code (1 : Nat) (Option.some Jvm.ClassFile.FieldType.char)) ∈ kTb := kwm_2 237 rfl rfl
theorem kw_2_238 : (Jvm.Cond.constant "java/lang/Character" (76 : Nat) (56320 : Int32)) ∈ kTb := kwm_2 238 rfl rfl
theorem kw_2_239 : (Jvm.Cond.methodLink "MarkChains$ItemReader" (41 : Nat) ({ cls := "MarkChains$Book", name := "isFull", desc := "(I)Z" } : Jvm.MethodName)) ∈ kTb := kwm_2 239 rfl rfl
theorem kw_3_0 : (Jvm.Cond.instanceMethod ({ cls := "MarkChains$Book", name := "isFull", desc := "(I)Z" } : Jvm.MethodName)) ∈ kTb := kwm_3 0 rfl rfl
theorem kw_3_1 : (Jvm.Cond.selects "MarkChains$Book" ({ cls := "MarkChains$Book", name := "isFull", desc := "(I)Z" } : Jvm.MethodName) ({ cls := "MarkChains$Book", name := "isFull", desc := "(I)Z" } : Jvm.MethodName)) ∈ kTb := kwm_3 1 rfl rfl
theorem kw_3_2 : (Jvm.Cond.code ({ cls := "MarkChains$Book", name := "isFull", desc := "(I)Z" } : Jvm.MethodName) prog_3_method_4_code (3 : Nat) (Option.some Jvm.ClassFile.FieldType.boolean)) ∈ kTb := kwm_3 2 rfl rfl
theorem kw_3_3 : (Jvm.Cond.methodLink "MarkChains$Book" (67 : Nat) ({ cls := "MarkChains$Book", name := "pairsOf", desc := "(I)LMarkChains$Pairs;" } : Jvm.MethodName)) ∈ kTb := kwm_3 3 rfl rfl
theorem kw_3_4 : (Jvm.Cond.instanceMethod ({ cls := "MarkChains$Book", name := "pairsOf", desc := "(I)LMarkChains$Pairs;" } : Jvm.MethodName)) ∈ kTb := kwm_3 4 rfl rfl
theorem kw_3_5 : (Jvm.Cond.selects "MarkChains$Book" ({ cls := "MarkChains$Book", name := "pairsOf", desc := "(I)LMarkChains$Pairs;" } : Jvm.MethodName) ({ cls := "MarkChains$Book", name := "pairsOf", desc := "(I)LMarkChains$Pairs;" } : Jvm.MethodName)) ∈ kTb := kwm_3 5 rfl rfl
theorem kw_3_6 : (Jvm.Cond.code ({ cls := "MarkChains$Book", name := "pairsOf", desc := "(I)LMarkChains$Pairs;" } : Jvm.MethodName) prog_3_method_3_code (2 : Nat) (Option.some (Jvm.ClassFile.FieldType.object "MarkChains$Pairs"))) ∈ kTb := kwm_3 6 rfl rfl
theorem kw_3_7 : (Jvm.Cond.methodLink "MarkChains$Book" (71 : Nat) ({ cls := "MarkChains$Pairs", name := "isFull", desc := "()Z" } : Jvm.MethodName)) ∈ kTb := kwm_3 7 rfl rfl
theorem kw_3_8 : (Jvm.Cond.instanceMethod ({ cls := "MarkChains$Pairs", name := "isFull", desc := "()Z" } : Jvm.MethodName)) ∈ kTb := kwm_3 8 rfl rfl
theorem kw_3_9 : (Jvm.Cond.selects "MarkChains$Pairs" ({ cls := "MarkChains$Pairs", name := "isFull", desc := "()Z" } : Jvm.MethodName) ({ cls := "MarkChains$Pairs", name := "isFull", desc := "()Z" } : Jvm.MethodName)) ∈ kTb := kwm_3 9 rfl rfl
theorem kw_3_10 : (Jvm.Cond.code ({ cls := "MarkChains$Pairs", name := "isFull", desc := "()Z" } : Jvm.MethodName) prog_10_method_3_code (1 : Nat) (Option.some Jvm.ClassFile.FieldType.boolean)) ∈ kTb := kwm_3 10 rfl rfl
theorem kw_3_11 : (Jvm.Cond.methodLink "MarkChains$ItemReader" (46 : Nat) ({ cls := "MarkChains$Tape", name := "failHere", desc := "()Z" } : Jvm.MethodName)) ∈ kTb := kwm_3 11 rfl rfl
theorem kw_3_12 : (Jvm.Cond.instanceMethod ({ cls := "MarkChains$Tape", name := "failHere", desc := "()Z" } : Jvm.MethodName)) ∈ kTb := kwm_3 12 rfl rfl
theorem kw_3_13 : (Jvm.Cond.selects "MarkChains$Tape" ({ cls := "MarkChains$Tape", name := "failHere", desc := "()Z" } : Jvm.MethodName) ({ cls := "MarkChains$Tape", name := "failHere", desc := "()Z" } : Jvm.MethodName)) ∈ kTb := kwm_3 13 rfl rfl
theorem kw_3_14 : (Jvm.Cond.code ({ cls := "MarkChains$Tape", name := "failHere", desc := "()Z" } : Jvm.MethodName) prog_12_method_7_code (1 : Nat) (Option.some Jvm.ClassFile.FieldType.boolean)) ∈ kTb := kwm_3 14 rfl rfl
theorem kw_3_15 : (Jvm.Cond.methodLink "MarkChains$ItemReader" (49 : Nat) ({ cls := "MarkChains$Tape", name := "step", desc := "()V" } : Jvm.MethodName)) ∈ kTb := kwm_3 15 rfl rfl
theorem kw_3_16 : (Jvm.Cond.instanceMethod ({ cls := "MarkChains$Tape", name := "step", desc := "()V" } : Jvm.MethodName)) ∈ kTb := kwm_3 16 rfl rfl
theorem kw_3_17 : (Jvm.Cond.selects "MarkChains$Tape" ({ cls := "MarkChains$Tape", name := "step", desc := "()V" } : Jvm.MethodName) ({ cls := "MarkChains$Tape", name := "step", desc := "()V" } : Jvm.MethodName)) ∈ kTb := kwm_3 17 rfl rfl
theorem kw_3_18 : (Jvm.Cond.code ({ cls := "MarkChains$Tape", name := "step", desc := "()V" } : Jvm.MethodName) prog_12_method_6_code (1 : Nat) (Option.none : Option Jvm.ClassFile.FieldType)) ∈ kTb := kwm_3 18 rfl rfl
theorem kw_3_19 : (Jvm.Cond.methodLink "MarkChains$ItemReader" (52 : Nat) ({ cls := "MarkChains$Tape", name := "readNumber", desc := "()Z" } : Jvm.MethodName)) ∈ kTb := kwm_3 19 rfl rfl
theorem kw_3_20 : (Jvm.Cond.instanceMethod ({ cls := "MarkChains$Tape", name := "readNumber", desc := "()Z" } : Jvm.MethodName)) ∈ kTb := kwm_3 20 rfl rfl
theorem kw_3_21 : (Jvm.Cond.selects "MarkChains$Tape" ({ cls := "MarkChains$Tape", name := "readNumber", desc := "()Z" } : Jvm.MethodName) ({ cls := "MarkChains$Tape", name := "readNumber", desc := "()Z" } : Jvm.MethodName)) ∈ kTb := kwm_3 21 rfl rfl
theorem kw_3_22 : (Jvm.Cond.code ({ cls := "MarkChains$Tape", name := "readNumber", desc := "()Z" } : Jvm.MethodName) prog_12_method_11_code (2 : Nat) (Option.some Jvm.ClassFile.FieldType.boolean)) ∈ kTb := kwm_3 22 rfl rfl
theorem kw_3_23 : (Jvm.Cond.methodLink "MarkChains$Tape" (31 : Nat) ({ cls := "MarkChains$Tape", name := "peek", desc := "()I" } : Jvm.MethodName)) ∈ kTb := kwm_3 23 rfl rfl
theorem kw_3_24 : (Jvm.Cond.methodLink "MarkChains$Tape" (39 : Nat) ({ cls := "MarkChains$Tape", name := "readDigits", desc := "()Z" } : Jvm.MethodName)) ∈ kTb := kwm_3 24 rfl rfl
theorem kw_3_25 : (Jvm.Cond.instanceMethod ({ cls := "MarkChains$Tape", name := "readDigits", desc := "()Z" } : Jvm.MethodName)) ∈ kTb := kwm_3 25 rfl rfl
theorem kw_3_26 : (Jvm.Cond.selects "MarkChains$Tape" ({ cls := "MarkChains$Tape", name := "readDigits", desc := "()Z" } : Jvm.MethodName) ({ cls := "MarkChains$Tape", name := "readDigits", desc := "()Z" } : Jvm.MethodName)) ∈ kTb := kwm_3 26 rfl rfl
theorem kw_3_27 : (Jvm.Cond.code ({ cls := "MarkChains$Tape", name := "readDigits", desc := "()Z" } : Jvm.MethodName) prog_12_method_12_code (2 : Nat) (Option.some Jvm.ClassFile.FieldType.boolean)) ∈ kTb := kwm_3 27 rfl rfl
theorem kw_3_28 : (Jvm.Cond.methodLink "MarkChains$Tape" (42 : Nat) ({ cls := "MarkChains$Tape", name := "isDigitHere", desc := "()Z" } : Jvm.MethodName)) ∈ kTb := kwm_3 28 rfl rfl
theorem kw_3_29 : (Jvm.Cond.instanceMethod ({ cls := "MarkChains$Tape", name := "isDigitHere", desc := "()Z" } : Jvm.MethodName)) ∈ kTb := kwm_3 29 rfl rfl
theorem kw_3_30 : (Jvm.Cond.selects "MarkChains$Tape" ({ cls := "MarkChains$Tape", name := "isDigitHere", desc := "()Z" } : Jvm.MethodName) ({ cls := "MarkChains$Tape", name := "isDigitHere", desc := "()Z" } : Jvm.MethodName)) ∈ kTb := kwm_3 30 rfl rfl
theorem kw_3_31 : (Jvm.Cond.code ({ cls := "MarkChains$Tape", name := "isDigitHere", desc := "()Z" } : Jvm.MethodName) prog_12_method_10_code (2 : Nat) (Option.some Jvm.ClassFile.FieldType.boolean)) ∈ kTb := kwm_3 31 rfl rfl
theorem kw_3_32 : (Jvm.Cond.methodLink "MarkChains$Tape" (35 : Nat) ({ cls := "MarkChains$Tape", name := "failHere", desc := "()Z" } : Jvm.MethodName)) ∈ kTb := kwm_3 32 rfl rfl
theorem kw_3_33 : (Jvm.Cond.methodLink "MarkChains$ItemReader" (59 : Nat) ({ cls := "MarkChains$ItemReader", name := "canBe", desc := "(IIII)Z" } : Jvm.MethodName)) ∈ kTb := kwm_3 33 rfl rfl
theorem kw_3_35 : (Jvm.Cond.instanceMethod ({ cls := "MarkChains$ItemReader", name := "canBe", desc := "(IIII)Z" } : Jvm.MethodName)) ∈ kTb := kwm_3 35 rfl rfl
theorem kw_3_36 : (Jvm.Cond.code ({ cls := "MarkChains$ItemReader", name := "canBe", desc := "(IIII)Z" } : Jvm.MethodName) prog_8_method_4_code (6 : Nat) (Option.some Jvm.ClassFile.FieldType.boolean)) ∈ kTb := kwm_3 36 rfl rfl
theorem kw_3_37 : (Jvm.Cond.fieldLink "MarkChains$ItemReader" (77 : Nat) "MarkChains$ItemReader" "LOWEST" "[I") ∈ kTb := kwm_3 37 rfl rfl
theorem kw_3_39 : (Jvm.Cond.fieldLink "MarkChains$ItemReader" (81 : Nat) "MarkChains$ItemReader" "HIGHEST" "[I") ∈ kTb := kwm_3 39 rfl rfl
theorem kw_3_41 : (Jvm.Cond.methodLink "MarkChains$ItemReader" (84 : Nat) ({ cls := "MarkChains$ItemReader", name := "isToldAhead", desc := "(III)Z" } : Jvm.MethodName)) ∈ kTb := kwm_3 41 rfl rfl
theorem kw_3_43 : (Jvm.Cond.instanceMethod ({ cls := "MarkChains$ItemReader", name := "isToldAhead", desc := "(III)Z" } : Jvm.MethodName)) ∈ kTb := kwm_3 43 rfl rfl
theorem kw_3_44 : (Jvm.Cond.code ({ cls := "MarkChains$ItemReader", name := "isToldAhead", desc := "(III)Z" } : Jvm.MethodName) prog_8_method_5_code (4 : Nat) (Option.some Jvm.ClassFile.FieldType.boolean)) ∈ kTb := kwm_3 44 rfl rfl
theorem kw_3_45 : (Jvm.Cond.methodLink "MarkChains$ItemReader" (92 : Nat) ({ cls := "MarkChains$Pairs", name := "has", desc := "(I)Z" } : Jvm.MethodName)) ∈ kTb := kwm_3 45 rfl rfl
theorem kw_3_46 : (Jvm.Cond.instanceMethod ({ cls := "MarkChains$Pairs", name := "has", desc := "(I)Z" } : Jvm.MethodName)) ∈ kTb := kwm_3 46 rfl rfl
theorem kw_3_47 : (Jvm.Cond.selects "MarkChains$Pairs" ({ cls := "MarkChains$Pairs", name := "has", desc := "(I)Z" } : Jvm.MethodName) ({ cls := "MarkChains$Pairs", name := "has", desc := "(I)Z" } : Jvm.MethodName)) ∈ kTb := kwm_3 47 rfl rfl
theorem kw_3_48 : (Jvm.Cond.code ({ cls := "MarkChains$Pairs", name := "has", desc := "(I)Z" } : Jvm.MethodName) prog_10_method_2_code (2 : Nat) (Option.some Jvm.ClassFile.FieldType.boolean)) ∈ kTb := kwm_3 48 rfl rfl
theorem kw_3_49 : (Jvm.Cond.methodLink "MarkChains$ItemReader" (63 : Nat) ({ cls := "MarkChains$Tape", name := "failAtNumber", desc := "()Z" } : Jvm.MethodName)) ∈ kTb := kwm_3 49 rfl rfl
theorem kw_3_50 : (Jvm.Cond.instanceMethod ({ cls := "MarkChains$Tape", name := "failAtNumber", desc := "()Z" } : Jvm.MethodName)) ∈ kTb := kwm_3 50 rfl rfl
theorem kw_3_51 : (Jvm.Cond.selects "MarkChains$Tape" ({ cls := "MarkChains$Tape", name := "failAtNumber", desc := "()Z" } : Jvm.MethodName) ({ cls := "MarkChains$Tape", name := "failAtNumber", desc := "()Z" } : Jvm.MethodName)) ∈ kTb := kwm_3 51 rfl rfl
theorem kw_3_52 : (Jvm.Cond.code ({ cls := "MarkChains$Tape", name := "failAtNumber", desc := "()Z" } : Jvm.MethodName) prog_12_method_8_code (1 : Nat) (Option.some Jvm.ClassFile.FieldType.boolean)) ∈ kTb := kwm_3 52 rfl rfl
theorem kw_3_53 : (Jvm.Cond.methodLink "MarkChains$ItemReader" (66 : Nat) ({ cls := "MarkChains$Tape", name := "pass", desc := "(I)Z" } : Jvm.MethodName)) ∈ kTb := kwm_3 53 rfl rfl
theorem kw_3_54 : (Jvm.Cond.instanceMethod ({ cls := "MarkChains$Tape", name := "pass", desc := "(I)Z" } : Jvm.MethodName)) ∈ kTb := kwm_3 54 rfl rfl
theorem kw_3_55 : (Jvm.Cond.selects "MarkChains$Tape" ({ cls := "MarkChains$Tape", name := "pass", desc := "(I)Z" } : Jvm.MethodName) ({ cls := "MarkChains$Tape", name := "pass", desc := "(I)Z" } : Jvm.MethodName)) ∈ kTb := kwm_3 55 rfl rfl
theorem kw_3_56 : (Jvm.Cond.code ({ cls := "MarkChains$Tape", name := "pass", desc := "(I)Z" } : Jvm.MethodName) prog_12_method_9_code (2 : Nat) (Option.some Jvm.ClassFile.FieldType.boolean)) ∈ kTb := kwm_3 56 rfl rfl
theorem kw_3_57 : (Jvm.Cond.methodLink "MarkChains$ItemReader" (69 : Nat) ({ cls := "MarkChains$Book", name := "draft", desc := "(III)V" } : Jvm.MethodName)) ∈ kTb := kwm_3 57 rfl rfl
theorem kw_3_58 : (Jvm.Cond.instanceMethod ({ cls := "MarkChains$Book", name := "draft", desc := "(III)V" } : Jvm.MethodName)) ∈ kTb := kwm_3 58 rfl rfl
theorem kw_3_59 : (Jvm.Cond.selects "MarkChains$Book" ({ cls := "MarkChains$Book", name := "draft", desc := "(III)V" } : Jvm.MethodName) ({ cls := "MarkChains$Book", name := "draft", desc := "(III)V" } : Jvm.MethodName)) ∈ kTb := kwm_3 59 rfl rfl
theorem kw_3_60 : (Jvm.Cond.code ({ cls := "MarkChains$Book", name := "draft", desc := "(III)V" } : Jvm.MethodName) prog_3_method_5_code (5 : Nat) (Option.none : Option Jvm.ClassFile.FieldType)) ∈ kTb := kwm_3 60 rfl rfl
theorem kw_3_61 : (Jvm.Cond.methodLink "MarkChains$Book" (75 : Nat) ({ cls := "MarkChains$Pairs", name := "draft", desc := "(II)V" } : Jvm.MethodName)) ∈ kTb := kwm_3 61 rfl rfl
theorem kw_3_62 : (Jvm.Cond.instanceMethod ({ cls := "MarkChains$Pairs", name := "draft", desc := "(II)V" } : Jvm.MethodName)) ∈ kTb := kwm_3 62 rfl rfl
theorem kw_3_63 : (Jvm.Cond.selects "MarkChains$Pairs" ({ cls := "MarkChains$Pairs", name := "draft", desc := "(II)V" } : Jvm.MethodName) ({ cls := "MarkChains$Pairs", name := "draft", desc := "(II)V" } : Jvm.MethodName)) ∈ kTb := kwm_3 63 rfl rfl
theorem kw_3_64 : (Jvm.Cond.code ({ cls := "MarkChains$Pairs", name := "draft", desc := "(II)V" } : Jvm.MethodName) prog_10_method_4_code (3 : Nat) (Option.none : Option Jvm.ClassFile.FieldType)) ∈ kTb := kwm_3 64 rfl rfl
theorem kw_3_65 : (Jvm.Cond.methodLink "MarkChains$Pairs" (26 : Nat) ({ cls := "MarkChains$Pairs", name := "isFull", desc := "()Z" } : Jvm.MethodName)) ∈ kTb := kwm_3 65 rfl rfl
theorem kw_3_66 : (Jvm.Cond.methodLink "MarkChains$Book" (79 : Nat) ({ cls := "MarkChains$Book", name := "draftMark", desc := "(II)V" } : Jvm.MethodName)) ∈ kTb := kwm_3 66 rfl rfl
theorem kw_3_68 : (Jvm.Cond.instanceMethod ({ cls := "MarkChains$Book", name := "draftMark", desc := "(II)V" } : Jvm.MethodName)) ∈ kTb := kwm_3 68 rfl rfl
theorem kw_3_69 : (Jvm.Cond.code ({ cls := "MarkChains$Book", name := "draftMark", desc := "(II)V" } : Jvm.MethodName) prog_3_method_6_code (3 : Nat) (Option.none : Option Jvm.ClassFile.FieldType)) ∈ kTb := kwm_3 69 rfl rfl
theorem kw_3_70 : (Jvm.Cond.methodLink "MarkChains$ItemReader" (73 : Nat) ({ cls := "MarkChains$Book", name := "settle", desc := "(I)V" } : Jvm.MethodName)) ∈ kTb := kwm_3 70 rfl rfl
theorem kw_3_71 : (Jvm.Cond.instanceMethod ({ cls := "MarkChains$Book", name := "settle", desc := "(I)V" } : Jvm.MethodName)) ∈ kTb := kwm_3 71 rfl rfl
theorem kw_3_72 : (Jvm.Cond.selects "MarkChains$Book" ({ cls := "MarkChains$Book", name := "settle", desc := "(I)V" } : Jvm.MethodName) ({ cls := "MarkChains$Book", name := "settle", desc := "(I)V" } : Jvm.MethodName)) ∈ kTb := kwm_3 72 rfl rfl
theorem kw_3_73 : (Jvm.Cond.code ({ cls := "MarkChains$Book", name := "settle", desc := "(I)V" } : Jvm.MethodName) prog_3_method_7_code (3 : Nat) (Option.none : Option Jvm.ClassFile.FieldType)) ∈ kTb := kwm_3 73 rfl rfl
theorem kw_3_74 : (Jvm.Cond.methodLink "MarkChains$Book" (82 : Nat) ({ cls := "MarkChains$Pairs", name := "settle", desc := "()V" } : Jvm.MethodName)) ∈ kTb := kwm_3 74 rfl rfl
theorem kw_3_75 : (Jvm.Cond.instanceMethod ({ cls := "MarkChains$Pairs", name := "settle", desc := "()V" } : Jvm.MethodName)) ∈ kTb := kwm_3 75 rfl rfl
theorem kw_3_76 : (Jvm.Cond.selects "MarkChains$Pairs" ({ cls := "MarkChains$Pairs", name := "settle", desc := "()V" } : Jvm.MethodName) ({ cls := "MarkChains$Pairs", name := "settle", desc := "()V" } : Jvm.MethodName)) ∈ kTb := kwm_3 76 rfl rfl
theorem kw_3_77 : (Jvm.Cond.code ({ cls := "MarkChains$Pairs", name := "settle", desc := "()V" } : Jvm.MethodName) prog_10_method_5_code (1 : Nat) (Option.none : Option Jvm.ClassFile.FieldType)) ∈ kTb := kwm_3 77 rfl rfl
theorem kw_3_78 : (Jvm.Cond.methodLink "MarkChains$Book" (85 : Nat) ({ cls := "MarkChains$Book", name := "settleMark", desc := "()V" } : Jvm.MethodName)) ∈ kTb := kwm_3 78 rfl rfl
theorem kw_3_80 : (Jvm.Cond.instanceMethod ({ cls := "MarkChains$Book", name := "settleMark", desc := "()V" } : Jvm.MethodName)) ∈ kTb := kwm_3 80 rfl rfl
theorem kw_3_81 : (Jvm.Cond.code ({ cls := "MarkChains$Book", name := "settleMark", desc := "()V" } : Jvm.MethodName) prog_3_method_8_code (2 : Nat) (Option.none : Option Jvm.ClassFile.FieldType)) ∈ kTb := kwm_3 81 rfl rfl
theorem kw_3_82 : (Jvm.Cond.methodLink "MarkChains$Book" (88 : Nat) ({ cls := "MarkChains$Book", name := "isAhead", desc := "(II)Z" } : Jvm.MethodName)) ∈ kTb := kwm_3 82 rfl rfl
theorem kw_3_83 : (Jvm.Cond.instanceMethod ({ cls := "MarkChains$Book", name := "isAhead", desc := "(II)Z" } : Jvm.MethodName)) ∈ kTb := kwm_3 83 rfl rfl
theorem kw_3_84 : (Jvm.Cond.selects "MarkChains$Book" ({ cls := "MarkChains$Book", name := "isAhead", desc := "(II)Z" } : Jvm.MethodName) ({ cls := "MarkChains$Book", name := "isAhead", desc := "(II)Z" } : Jvm.MethodName)) ∈ kTb := kwm_3 84 rfl rfl
theorem kw_3_85 : (Jvm.Cond.code ({ cls := "MarkChains$Book", name := "isAhead", desc := "(II)Z" } : Jvm.MethodName) prog_3_method_18_code (3 : Nat) (Option.some Jvm.ClassFile.FieldType.boolean)) ∈ kTb := kwm_3 85 rfl rfl
theorem kw_3_86 : (Jvm.Cond.methodLink "MarkChains" (112 : Nat) ({ cls := "MarkChains$Book", name := "cutToSizes", desc := "(J)V" } : Jvm.MethodName)) ∈ kTb := kwm_3 86 rfl rfl
theorem kw_3_87 : (Jvm.Cond.instanceMethod ({ cls := "MarkChains$Book", name := "cutToSizes", desc := "(J)V" } : Jvm.MethodName)) ∈ kTb := kwm_3 87 rfl rfl
theorem kw_3_88 : (Jvm.Cond.selects "MarkChains$Book" ({ cls := "MarkChains$Book", name := "cutToSizes", desc := "(J)V" } : Jvm.MethodName) ({ cls := "MarkChains$Book", name := "cutToSizes", desc := "(J)V" } : Jvm.MethodName)) ∈ kTb := kwm_3 88 rfl rfl
theorem kw_3_89 : (Jvm.Cond.code ({ cls := "MarkChains$Book", name := "cutToSizes", desc := "(J)V" } : Jvm.MethodName) prog_3_method_10_code (6 : Nat) (Option.none : Option Jvm.ClassFile.FieldType)) ∈ kTb := kwm_3 89 rfl rfl
theorem kw_3_90 : (Jvm.Cond.constantLong "MarkChains$Book" (93 : Nat) (255 : Int64)) ∈ kTb := kwm_3 90 rfl rfl
theorem kw_3_91 : (Jvm.Cond.methodLink "MarkChains$Book" (95 : Nat) ({ cls := "java/lang/Math", name := "min", desc := "(II)I" } : Jvm.MethodName)) ∈ kTb := kwm_3 91 rfl rfl
theorem kw_3_92 : (Jvm.Cond.classLink "MarkChains" (116 : Nat) "MarkChains$Deed") ∈ kTb := kwm_3 92 rfl rfl
theorem kw_3_93 : (Jvm.Cond.instantiable "MarkChains$Deed" (5 : Nat)) ∈ kTb := kwm_3 93 rfl rfl
theorem kw_3_94 : (Jvm.Cond.methodLink "MarkChains" (118 : Nat) ({ cls := "MarkChains$Deed", name := "<init>", desc := "(IIIJLMarkChains$Formula;)V" } : Jvm.MethodName)) ∈ kTb := kwm_3 94 rfl rfl
theorem kw_3_95 : (Jvm.Cond.instanceMethod ({ cls := "MarkChains$Deed", name := "<init>", desc := "(IIIJLMarkChains$Formula;)V" } : Jvm.MethodName)) ∈ kTb := kwm_3 95 rfl rfl
theorem kw_3_96 : (Jvm.Cond.code ({ cls := "MarkChains$Deed", name := "<init>", desc := "(IIIJLMarkChains$Formula;)V" } : Jvm.MethodName) prog_4_method_1_code (7 : Nat) (Option.none : Option Jvm.ClassFile.FieldType)) ∈ kTb := kwm_3 96 rfl rfl
theorem kw_3_97 : (Jvm.Cond.methodLink "MarkChains$Deed" (1 : Nat) ({ cls := "java/lang/Object", name := "<init>", desc := "()V" } : Jvm.MethodName)) ∈ kTb := kwm_3 97 rfl rfl
theorem kw_3_98 : (Jvm.Cond.fieldLink "MarkChains$Deed" (7 : Nat) "MarkChains$Deed" "kind" "I") ∈ kTb := kwm_3 98 rfl rfl
theorem kw_3_100 : (Jvm.Cond.fieldLink "MarkChains$Deed" (13 : Nat) "MarkChains$Deed" "which" "I") ∈ kTb := kwm_3 100 rfl rfl
theorem kw_3_102 : (Jvm.Cond.fieldLink "MarkChains$Deed" (16 : Nat) "MarkChains$Deed" "old" "I") ∈ kTb := kwm_3 102 rfl rfl
theorem kw_3_104 : (Jvm.Cond.fieldLink "MarkChains$Deed" (19 : Nat) "MarkChains$Deed" "bits" "J") ∈ kTb := kwm_3 104 rfl rfl
theorem kw_3_106 : (Jvm.Cond.fieldLink "MarkChains$Deed" (23 : Nat) "MarkChains$Deed" "formula" "LMarkChains$Formula;") ∈ kTb := kwm_3 106 rfl rfl
theorem kw_3_108 : (Jvm.Cond.laysFinal "MarkChains$Deed" "MarkChains$Deed" "kind" "I") ∈ kTb := kwm_3 108 rfl rfl
theorem kw_3_110 : (Jvm.Cond.laysFinal "MarkChains$Deed" "MarkChains$Deed" "which" "I") ∈ kTb := kwm_3 110 rfl rfl
theorem kw_3_112 : (Jvm.Cond.laysFinal "MarkChains$Deed" "MarkChains$Deed" "old" "I") ∈ kTb := kwm_3 112 rfl rfl
theorem kw_3_114 : (Jvm.Cond.laysFinal "MarkChains$Deed" "MarkChains$Deed" "bits" "J") ∈ kTb := kwm_3 114 rfl rfl
theorem kw_3_116 : (Jvm.Cond.laysFinal "MarkChains$Deed" "MarkChains$Deed" "formula" "LMarkChains$Formula;") ∈ kTb := kwm_3 116 rfl rfl
theorem kw_3_119 : (Jvm.Cond.arrayClass Jvm.ClassFile.FieldType.byte) ∈ kTb := kwm_3 119 rfl rfl
theorem kw_3_120 : (Jvm.Cond.methodLink "MarkChains" (121 : Nat) ({ cls := "MarkChains$Deeds", name := "add", desc := "(LMarkChains$Deed;)V" } : Jvm.MethodName)) ∈ kTb := kwm_3 120 rfl rfl
theorem kw_3_121 : (Jvm.Cond.instanceMethod ({ cls := "MarkChains$Deeds", name := "add", desc := "(LMarkChains$Deed;)V" } : Jvm.MethodName)) ∈ kTb := kwm_3 121 rfl rfl
theorem kw_3_122 : (Jvm.Cond.selects "MarkChains$Deeds" ({ cls := "MarkChains$Deeds", name := "add", desc := "(LMarkChains$Deed;)V" } : Jvm.MethodName) ({ cls := "MarkChains$Deeds", name := "add", desc := "(LMarkChains$Deed;)V" } : Jvm.MethodName)) ∈ kTb := kwm_3 122 rfl rfl
theorem kw_3_123 : (Jvm.Cond.code ({ cls := "MarkChains$Deeds", name := "add", desc := "(LMarkChains$Deed;)V" } : Jvm.MethodName) prog_5_method_2_code (2 : Nat) (Option.none : Option Jvm.ClassFile.FieldType)) ∈ kTb := kwm_3 123 rfl rfl
theorem kw_3_124 : (Jvm.Cond.methodLink "MarkChains$Deeds" (24 : Nat) ({ cls := "java/lang/Math", name := "min", desc := "(II)I" } : Jvm.MethodName)) ∈ kTb := kwm_3 124 rfl rfl
theorem kw_3_125 : (Jvm.Cond.methodLink "MarkChainsLaw" (28 : Nat) ({ cls := "MarkChains", name := "needs", desc := "()I" } : Jvm.MethodName)) ∈ kTb := kwm_3 125 rfl rfl
theorem kw_3_126 : (Jvm.Cond.instanceMethod ({ cls := "MarkChains", name := "needs", desc := "()I" } : Jvm.MethodName)) ∈ kTb := kwm_3 126 rfl rfl
theorem kw_3_127 : (Jvm.Cond.selects "MarkChains" ({ cls := "MarkChains", name := "needs", desc := "()I" } : Jvm.MethodName) ({ cls := "MarkChains", name := "needs", desc := "()I" } : Jvm.MethodName)) ∈ kTb := kwm_3 127 rfl rfl
theorem kw_3_128 : (Jvm.Cond.code ({ cls := "MarkChains", name := "needs", desc := "()I" } : Jvm.MethodName) prog_1_method_5_code (2 : Nat) (Option.some Jvm.ClassFile.FieldType.int)) ∈ kTb := kwm_3 128 rfl rfl
theorem kw_3_129 : (Jvm.Cond.methodLink "MarkChains" (125 : Nat) ({ cls := "MarkChains$FormulaReader", name := "readNeeds", desc := "()LMarkChains$Formula;" } : Jvm.MethodName)) ∈ kTb := kwm_3 129 rfl rfl
theorem kw_3_130 : (Jvm.Cond.instanceMethod ({ cls := "MarkChains$FormulaReader", name := "readNeeds", desc := "()LMarkChains$Formula;" } : Jvm.MethodName)) ∈ kTb := kwm_3 130 rfl rfl
theorem kw_3_131 : (Jvm.Cond.selects "MarkChains$FormulaReader" ({ cls := "MarkChains$FormulaReader", name := "readNeeds", desc := "()LMarkChains$Formula;" } : Jvm.MethodName) ({ cls := "MarkChains$FormulaReader", name := "readNeeds", desc := "()LMarkChains$Formula;" } : Jvm.MethodName)) ∈ kTb := kwm_3 131 rfl rfl
theorem kw_3_132 : (Jvm.Cond.code ({ cls := "MarkChains$FormulaReader", name := "readNeeds", desc := "()LMarkChains$Formula;" } : Jvm.MethodName) prog_7_method_2_code (2 : Nat) (Option.some (Jvm.ClassFile.FieldType.object "MarkChains$Formula"))) ∈ kTb := kwm_3 132 rfl rfl
theorem kw_3_133 : (Jvm.Cond.methodLink "MarkChains$FormulaReader" (48 : Nat) ({ cls := "MarkChains$FormulaReader", name := "begin", desc := "(I)V" } : Jvm.MethodName)) ∈ kTb := kwm_3 133 rfl rfl
theorem kw_3_135 : (Jvm.Cond.instanceMethod ({ cls := "MarkChains$FormulaReader", name := "begin", desc := "(I)V" } : Jvm.MethodName)) ∈ kTb := kwm_3 135 rfl rfl
theorem kw_3_136 : (Jvm.Cond.code ({ cls := "MarkChains$FormulaReader", name := "begin", desc := "(I)V" } : Jvm.MethodName) prog_7_method_4_code (2 : Nat) (Option.none : Option Jvm.ClassFile.FieldType)) ∈ kTb := kwm_3 136 rfl rfl
theorem kw_3_137 : (Jvm.Cond.methodLink "MarkChains$FormulaReader" (52 : Nat) ({ cls := "MarkChains$Tape", name := "isOver", desc := "()Z" } : Jvm.MethodName)) ∈ kTb := kwm_3 137 rfl rfl
theorem kw_3_138 : (Jvm.Cond.methodLink "MarkChains$FormulaReader" (58 : Nat) ({ cls := "MarkChains$FormulaReader", name := "readNext", desc := "()Z" } : Jvm.MethodName)) ∈ kTb := kwm_3 138 rfl rfl
theorem kw_3_140 : (Jvm.Cond.instanceMethod ({ cls := "MarkChains$FormulaReader", name := "readNext", desc := "()Z" } : Jvm.MethodName)) ∈ kTb := kwm_3 140 rfl rfl
theorem kw_3_141 : (Jvm.Cond.code ({ cls := "MarkChains$FormulaReader", name := "readNext", desc := "()Z" } : Jvm.MethodName) prog_7_method_6_code (2 : Nat) (Option.some Jvm.ClassFile.FieldType.boolean)) ∈ kTb := kwm_3 141 rfl rfl
theorem kw_3_142 : (Jvm.Cond.methodLink "MarkChains$FormulaReader" (71 : Nat) ({ cls := "MarkChains$Tape", name := "peek", desc := "()I" } : Jvm.MethodName)) ∈ kTb := kwm_3 142 rfl rfl
theorem kw_3_143 : (Jvm.Cond.methodLink "MarkChains$FormulaReader" (96 : Nat) ({ cls := "MarkChains$FormulaReader", name := "readAtTest", desc := "(I)Z" } : Jvm.MethodName)) ∈ kTb := kwm_3 143 rfl rfl
theorem kw_3_145 : (Jvm.Cond.instanceMethod ({ cls := "MarkChains$FormulaReader", name := "readAtTest", desc := "(I)Z" } : Jvm.MethodName)) ∈ kTb := kwm_3 145 rfl rfl
theorem kw_3_146 : (Jvm.Cond.code ({ cls := "MarkChains$FormulaReader", name := "readAtTest", desc := "(I)Z" } : Jvm.MethodName) prog_7_method_7_code (2 : Nat) (Option.some Jvm.ClassFile.FieldType.boolean)) ∈ kTb := kwm_3 146 rfl rfl
theorem kw_3_147 : (Jvm.Cond.methodLink "MarkChains$FormulaReader" (68 : Nat) ({ cls := "MarkChains$FormulaReader", name := "readThing", desc := "()Z" } : Jvm.MethodName)) ∈ kTb := kwm_3 147 rfl rfl
theorem kw_3_149 : (Jvm.Cond.instanceMethod ({ cls := "MarkChains$FormulaReader", name := "readThing", desc := "()Z" } : Jvm.MethodName)) ∈ kTb := kwm_3 149 rfl rfl
theorem kw_3_150 : (Jvm.Cond.code ({ cls := "MarkChains$FormulaReader", name := "readThing", desc := "()Z" } : Jvm.MethodName) prog_7_method_8_code (2 : Nat) (Option.some Jvm.ClassFile.FieldType.boolean)) ∈ kTb := kwm_3 150 rfl rfl
theorem kw_3_151 : (Jvm.Cond.methodLink "MarkChains$FormulaReader" (109 : Nat) ({ cls := "MarkChains$Tape", name := "isDigitHere", desc := "()Z" } : Jvm.MethodName)) ∈ kTb := kwm_3 151 rfl rfl
theorem kw_3_152 : (Jvm.Cond.methodLink "MarkChains$FormulaReader" (112 : Nat) ({ cls := "MarkChains$Tape", name := "readDigits", desc := "()Z" } : Jvm.MethodName)) ∈ kTb := kwm_3 152 rfl rfl
theorem kw_3_153 : (Jvm.Cond.methodLink "MarkChains$FormulaReader" (118 : Nat) ({ cls := "MarkChains$FormulaReader", name := "emit", desc := "(I)V" } : Jvm.MethodName)) ∈ kTb := kwm_3 153 rfl rfl
theorem kw_3_155 : (Jvm.Cond.instanceMethod ({ cls := "MarkChains$FormulaReader", name := "emit", desc := "(I)V" } : Jvm.MethodName)) ∈ kTb := kwm_3 155 rfl rfl
theorem kw_3_156 : (Jvm.Cond.code ({ cls := "MarkChains$FormulaReader", name := "emit", desc := "(I)V" } : Jvm.MethodName) prog_7_method_15_code (2 : Nat) (Option.none : Option Jvm.ClassFile.FieldType)) ∈ kTb := kwm_3 156 rfl rfl
theorem kw_3_158 : (Jvm.Cond.methodLink "MarkChains$FormulaReader" (123 : Nat) ({ cls := "java/lang/String", name := "indexOf", desc := "(I)I" } : Jvm.MethodName)) ∈ kTb := kwm_3 158 rfl rfl
theorem kw_3_159 : (Jvm.Cond.methodLink "MarkChains$FormulaReader" (129 : Nat) ({ cls := "MarkChains$Tape", name := "step", desc := "()V" } : Jvm.MethodName)) ∈ kTb := kwm_3 159 rfl rfl
theorem kw_3_160 : (Jvm.Cond.methodLink "MarkChains$FormulaReader" (105 : Nat) ({ cls := "MarkChains$FormulaReader", name := "await", desc := "(II)Z" } : Jvm.MethodName)) ∈ kTb := kwm_3 160 rfl rfl
theorem kw_3_162 : (Jvm.Cond.instanceMethod ({ cls := "MarkChains$FormulaReader", name := "await", desc := "(II)Z" } : Jvm.MethodName)) ∈ kTb := kwm_3 162 rfl rfl
theorem kw_3_163 : (Jvm.Cond.code ({ cls := "MarkChains$FormulaReader", name := "await", desc := "(II)Z" } : Jvm.MethodName) prog_7_method_16_code (3 : Nat) (Option.some Jvm.ClassFile.FieldType.boolean)) ∈ kTb := kwm_3 163 rfl rfl
theorem kw_3_164 : (Jvm.Cond.methodLink "MarkChains$FormulaReader" (75 : Nat) ({ cls := "MarkChains$FormulaReader", name := "readArithmetic", desc := "(I)Z" } : Jvm.MethodName)) ∈ kTb := kwm_3 164 rfl rfl
theorem kw_3_166 : (Jvm.Cond.instanceMethod ({ cls := "MarkChains$FormulaReader", name := "readArithmetic", desc := "(I)Z" } : Jvm.MethodName)) ∈ kTb := kwm_3 166 rfl rfl
theorem kw_3_167 : (Jvm.Cond.code ({ cls := "MarkChains$FormulaReader", name := "readArithmetic", desc := "(I)Z" } : Jvm.MethodName) prog_7_method_9_code (2 : Nat) (Option.some Jvm.ClassFile.FieldType.boolean)) ∈ kTb := kwm_3 167 rfl rfl
theorem kw_3_168 : (Jvm.Cond.methodLink "MarkChains$FormulaReader" (132 : Nat) ({ cls := "MarkChains$FormulaReader", name := "strengthOf", desc := "(I)I" } : Jvm.MethodName)) ∈ kTb := kwm_3 168 rfl rfl
theorem kw_3_169 : (Jvm.Cond.static ({ cls := "MarkChains$FormulaReader", name := "strengthOf", desc := "(I)I" } : Jvm.MethodName)) ∈ kTb := kwm_3 169 rfl rfl
theorem kw_3_170 : (Jvm.Cond.code ({ cls := "MarkChains$FormulaReader", name := "strengthOf", desc := "(I)I" } : Jvm.MethodName) prog_7_method_18_code (1 : Nat) (Option.some Jvm.ClassFile.FieldType.int)) ∈ kTb := kwm_3 170 rfl rfl
theorem kw_3_171 : (Jvm.Cond.methodLink "MarkChains$FormulaReader" (79 : Nat) ({ cls := "MarkChains$FormulaReader", name := "release", desc := "(I)V" } : Jvm.MethodName)) ∈ kTb := kwm_3 171 rfl rfl
theorem kw_3_173 : (Jvm.Cond.instanceMethod ({ cls := "MarkChains$FormulaReader", name := "release", desc := "(I)V" } : Jvm.MethodName)) ∈ kTb := kwm_3 173 rfl rfl
theorem kw_3_174 : (Jvm.Cond.code ({ cls := "MarkChains$FormulaReader", name := "release", desc := "(I)V" } : Jvm.MethodName) prog_7_method_17_code (2 : Nat) (Option.none : Option Jvm.ClassFile.FieldType)) ∈ kTb := kwm_3 174 rfl rfl
theorem kw_3_175 : (Jvm.Cond.methodLink "MarkChains$FormulaReader" (99 : Nat) ({ cls := "MarkChains$FormulaReader", name := "readComparing", desc := "(I)Z" } : Jvm.MethodName)) ∈ kTb := kwm_3 175 rfl rfl
theorem kw_3_177 : (Jvm.Cond.instanceMethod ({ cls := "MarkChains$FormulaReader", name := "readComparing", desc := "(I)Z" } : Jvm.MethodName)) ∈ kTb := kwm_3 177 rfl rfl
theorem kw_3_178 : (Jvm.Cond.code ({ cls := "MarkChains$FormulaReader", name := "readComparing", desc := "(I)Z" } : Jvm.MethodName) prog_7_method_10_code (2 : Nat) (Option.some Jvm.ClassFile.FieldType.boolean)) ∈ kTb := kwm_3 178 rfl rfl
theorem kw_3_179 : (Jvm.Cond.methodLink "MarkChains$FormulaReader" (102 : Nat) ({ cls := "MarkChains$FormulaReader", name := "readBehindTest", desc := "(I)Z" } : Jvm.MethodName)) ∈ kTb := kwm_3 179 rfl rfl
theorem kw_3_181 : (Jvm.Cond.instanceMethod ({ cls := "MarkChains$FormulaReader", name := "readBehindTest", desc := "(I)Z" } : Jvm.MethodName)) ∈ kTb := kwm_3 181 rfl rfl
theorem kw_3_182 : (Jvm.Cond.code ({ cls := "MarkChains$FormulaReader", name := "readBehindTest", desc := "(I)Z" } : Jvm.MethodName) prog_7_method_11_code (2 : Nat) (Option.some Jvm.ClassFile.FieldType.boolean)) ∈ kTb := kwm_3 182 rfl rfl
theorem kw_3_183 : (Jvm.Cond.methodLink "MarkChains$FormulaReader" (135 : Nat) ({ cls := "MarkChains$FormulaReader", name := "closeBracket", desc := "()Z" } : Jvm.MethodName)) ∈ kTb := kwm_3 183 rfl rfl
theorem kw_3_185 : (Jvm.Cond.instanceMethod ({ cls := "MarkChains$FormulaReader", name := "closeBracket", desc := "()Z" } : Jvm.MethodName)) ∈ kTb := kwm_3 185 rfl rfl
theorem kw_3_186 : (Jvm.Cond.code ({ cls := "MarkChains$FormulaReader", name := "closeBracket", desc := "()Z" } : Jvm.MethodName) prog_7_method_12_code (1 : Nat) (Option.some Jvm.ClassFile.FieldType.boolean)) ∈ kTb := kwm_3 186 rfl rfl
theorem kw_3_187 : (Jvm.Cond.methodLink "MarkChains$FormulaReader" (138 : Nat) ({ cls := "MarkChains$FormulaReader", name := "closeCond", desc := "()Z" } : Jvm.MethodName)) ∈ kTb := kwm_3 187 rfl rfl
theorem kw_3_189 : (Jvm.Cond.instanceMethod ({ cls := "MarkChains$FormulaReader", name := "closeCond", desc := "()Z" } : Jvm.MethodName)) ∈ kTb := kwm_3 189 rfl rfl
theorem kw_3_190 : (Jvm.Cond.code ({ cls := "MarkChains$FormulaReader", name := "closeCond", desc := "()Z" } : Jvm.MethodName) prog_7_method_13_code (1 : Nat) (Option.some Jvm.ClassFile.FieldType.boolean)) ∈ kTb := kwm_3 190 rfl rfl
theorem kw_3_191 : (Jvm.Cond.methodLink "MarkChains$FormulaReader" (82 : Nat) ({ cls := "MarkChains$FormulaReader", name := "endPart", desc := "()V" } : Jvm.MethodName)) ∈ kTb := kwm_3 191 rfl rfl
theorem kw_3_193 : (Jvm.Cond.instanceMethod ({ cls := "MarkChains$FormulaReader", name := "endPart", desc := "()V" } : Jvm.MethodName)) ∈ kTb := kwm_3 193 rfl rfl
theorem kw_3_194 : (Jvm.Cond.code ({ cls := "MarkChains$FormulaReader", name := "endPart", desc := "()V" } : Jvm.MethodName) prog_7_method_14_code (1 : Nat) (Option.none : Option Jvm.ClassFile.FieldType)) ∈ kTb := kwm_3 194 rfl rfl
theorem kw_3_195 : (Jvm.Cond.methodLink "MarkChains$FormulaReader" (61 : Nat) ({ cls := "MarkChains$Tape", name := "failHere", desc := "()Z" } : Jvm.MethodName)) ∈ kTb := kwm_3 195 rfl rfl
theorem kw_3_196 : (Jvm.Cond.methodLink "MarkChains$FormulaReader" (64 : Nat) ({ cls := "MarkChains$FormulaReader", name := "finished", desc := "(I)LMarkChains$Formula;" } : Jvm.MethodName)) ∈ kTb := kwm_3 196 rfl rfl
theorem kw_3_198 : (Jvm.Cond.instanceMethod ({ cls := "MarkChains$FormulaReader", name := "finished", desc := "(I)LMarkChains$Formula;" } : Jvm.MethodName)) ∈ kTb := kwm_3 198 rfl rfl
theorem kw_3_199 : (Jvm.Cond.code ({ cls := "MarkChains$FormulaReader", name := "finished", desc := "(I)LMarkChains$Formula;" } : Jvm.MethodName) prog_7_method_5_code (2 : Nat) (Option.some (Jvm.ClassFile.FieldType.object "MarkChains$Formula"))) ∈ kTb := kwm_3 199 rfl rfl
theorem kw_3_200 : (Jvm.Cond.classLink "MarkChains$FormulaReader" (85 : Nat) "MarkChains$Formula") ∈ kTb := kwm_3 200 rfl rfl
theorem kw_3_201 : (Jvm.Cond.methodLink "MarkChains$FormulaReader" (87 : Nat) ({ cls := "java/util/Arrays", name := "copyOf", desc := "([II)[I" } : Jvm.MethodName)) ∈ kTb := kwm_3 201 rfl rfl
theorem kw_3_202 : (Jvm.Cond.static ({ cls := "java/util/Arrays", name := "copyOf", desc := "([II)[I" } : Jvm.MethodName)) ∈ kTb := kwm_3 202 rfl rfl
theorem kw_3_203 : (Jvm.Cond.code ({ cls := "java/util/Arrays", name := "copyOf", desc := "([II)[I" } : Jvm.MethodName) prog_22_method_123_code (3 : Nat) (Option.some (Jvm.ClassFile.FieldType.array Jvm.ClassFile.FieldType.int))) ∈ kTb := kwm_3 203 rfl rfl
theorem kw_3_204 : (Jvm.Cond.methodLink "java/util/Arrays" (316 : Nat) ({ cls := "[I", name := "clone", desc := "()Ljava/lang/Object;" } : Jvm.MethodName)) ∈ kTb := kwm_3 204 rfl rfl
theorem kw_3_205 : (Jvm.Cond.sameMethod "[I" "java/lang/Object" "clone" "()Ljava/lang/Object;") ∈ kTb := kwm_3 205 rfl rfl
theorem kw_3_206 : (Jvm.Cond.native ({ cls := "java/lang/Object", name := "clone", desc := "()Ljava/lang/Object;" } : Jvm.MethodName)) ∈ kTb := kwm_3 206 rfl rfl
theorem kw_3_207 : (Jvm.Cond.instanceMethod ({ cls := "java/lang/Object", name := "clone", desc := "()Ljava/lang/Object;" } : Jvm.MethodName)) ∈ kTb := kwm_3 207 rfl rfl
theorem kw_3_208 : (Jvm.Cond.selects "[I" ({ cls := "[I", name := "clone", desc := "()Ljava/lang/Object;" } : Jvm.MethodName) ({ cls := "java/lang/Object", name := "clone", desc := "()Ljava/lang/Object;" } : Jvm.MethodName)) ∈ kTb := kwm_3 208 rfl rfl
theorem kw_3_210 : (Jvm.Cond.classLink "java/util/Arrays" (317 : Nat) "[I") ∈ kTb := kwm_3 210 rfl rfl
theorem kw_3_211 : (Jvm.Cond.methodLink "java/util/Arrays" (304 : Nat) ({ cls := "java/lang/Math", name := "min", desc := "(II)I" } : Jvm.MethodName)) ∈ kTb := kwm_3 211 rfl rfl
theorem kw_3_212 : (Jvm.Cond.methodLink "java/util/Arrays" (150 : Nat) ({ cls := "java/lang/System", name := "arraycopy", desc := "(Ljava/lang/Object;ILjava/lang/Object;II)V" } : Jvm.MethodName)) ∈ kTb := kwm_3 212 rfl rfl
theorem kw_3_213 : (Jvm.Cond.static ({ cls := "java/lang/System", name := "arraycopy", desc := "(Ljava/lang/Object;ILjava/lang/Object;II)V" } : Jvm.MethodName)) ∈ kTb := kwm_3 213 rfl rfl
theorem kw_3_214 : (Jvm.Cond.native ({ cls := "java/lang/System", name := "arraycopy", desc := "(Ljava/lang/Object;ILjava/lang/Object;II)V" } : Jvm.MethodName)) ∈ kTb := kwm_3 214 rfl rfl
theorem kw_3_215 : (Jvm.Cond.methodLink "MarkChains$FormulaReader" (93 : Nat) ({ cls := "MarkChains$Formula", name := "<init>", desc := "([I[I)V" } : Jvm.MethodName)) ∈ kTb := kwm_3 215 rfl rfl
theorem kw_3_216 : (Jvm.Cond.methodLink "MarkChains" (129 : Nat) ({ cls := "MarkChains$Formula", name := "parts", desc := "()I" } : Jvm.MethodName)) ∈ kTb := kwm_3 216 rfl rfl
theorem kw_3_217 : (Jvm.Cond.instanceMethod ({ cls := "MarkChains$Formula", name := "parts", desc := "()I" } : Jvm.MethodName)) ∈ kTb := kwm_3 217 rfl rfl
theorem kw_3_218 : (Jvm.Cond.selects "MarkChains$Formula" ({ cls := "MarkChains$Formula", name := "parts", desc := "()I" } : Jvm.MethodName) ({ cls := "MarkChains$Formula", name := "parts", desc := "()I" } : Jvm.MethodName)) ∈ kTb := kwm_3 218 rfl rfl
theorem kw_3_219 : (Jvm.Cond.code ({ cls := "MarkChains$Formula", name := "parts", desc := "()I" } : Jvm.MethodName) prog_6_method_2_code (1 : Nat) (Option.some Jvm.ClassFile.FieldType.int)) ∈ kTb := kwm_3 219 rfl rfl
theorem kw_3_220 : (Jvm.Cond.methodLink "MarkChainsLaw" (32 : Nat) ({ cls := "MarkChains", name := "fault", desc := "()I" } : Jvm.MethodName)) ∈ kTb := kwm_3 220 rfl rfl
theorem kw_3_221 : (Jvm.Cond.instanceMethod ({ cls := "MarkChains", name := "fault", desc := "()I" } : Jvm.MethodName)) ∈ kTb := kwm_3 221 rfl rfl
theorem kw_3_222 : (Jvm.Cond.selects "MarkChains" ({ cls := "MarkChains", name := "fault", desc := "()I" } : Jvm.MethodName) ({ cls := "MarkChains", name := "fault", desc := "()I" } : Jvm.MethodName)) ∈ kTb := kwm_3 222 rfl rfl
theorem kw_3_223 : (Jvm.Cond.code ({ cls := "MarkChains", name := "fault", desc := "()I" } : Jvm.MethodName) prog_1_method_6_code (1 : Nat) (Option.some Jvm.ClassFile.FieldType.int)) ∈ kTb := kwm_3 223 rfl rfl
theorem kw_3_224 : (Jvm.Cond.methodLink "MarkChainsLaw" (36 : Nat) ({ cls := "MarkChains", name := "is", desc := "(I)I" } : Jvm.MethodName)) ∈ kTb := kwm_3 224 rfl rfl
theorem kw_3_225 : (Jvm.Cond.instanceMethod ({ cls := "MarkChains", name := "is", desc := "(I)I" } : Jvm.MethodName)) ∈ kTb := kwm_3 225 rfl rfl
theorem kw_3_226 : (Jvm.Cond.selects "MarkChains" ({ cls := "MarkChains", name := "is", desc := "(I)I" } : Jvm.MethodName) ({ cls := "MarkChains", name := "is", desc := "(I)I" } : Jvm.MethodName)) ∈ kTb := kwm_3 226 rfl rfl
theorem kw_3_227 : (Jvm.Cond.code ({ cls := "MarkChains", name := "is", desc := "(I)I" } : Jvm.MethodName) prog_1_method_7_code (2 : Nat) (Option.some Jvm.ClassFile.FieldType.int)) ∈ kTb := kwm_3 227 rfl rfl
theorem kw_3_228 : (Jvm.Cond.methodLink "MarkChains" (153 : Nat) ({ cls := "MarkChains$Book", name := "countStanding", desc := "(I)I" } : Jvm.MethodName)) ∈ kTb := kwm_3 228 rfl rfl
theorem kw_3_229 : (Jvm.Cond.instanceMethod ({ cls := "MarkChains$Book", name := "countStanding", desc := "(I)I" } : Jvm.MethodName)) ∈ kTb := kwm_3 229 rfl rfl
theorem kw_3_230 : (Jvm.Cond.selects "MarkChains$Book" ({ cls := "MarkChains$Book", name := "countStanding", desc := "(I)I" } : Jvm.MethodName) ({ cls := "MarkChains$Book", name := "countStanding", desc := "(I)I" } : Jvm.MethodName)) ∈ kTb := kwm_3 230 rfl rfl
theorem kw_3_231 : (Jvm.Cond.code ({ cls := "MarkChains$Book", name := "countStanding", desc := "(I)I" } : Jvm.MethodName) prog_3_method_27_code (4 : Nat) (Option.some Jvm.ClassFile.FieldType.int)) ∈ kTb := kwm_3 231 rfl rfl
theorem kw_3_232 : (Jvm.Cond.methodLink "MarkChains$Book" (122 : Nat) ({ cls := "MarkChains$Book", name := "isStanding", desc := "(II)Z" } : Jvm.MethodName)) ∈ kTb := kwm_3 232 rfl rfl
theorem kw_3_233 : (Jvm.Cond.instanceMethod ({ cls := "MarkChains$Book", name := "isStanding", desc := "(II)Z" } : Jvm.MethodName)) ∈ kTb := kwm_3 233 rfl rfl
theorem kw_3_234 : (Jvm.Cond.selects "MarkChains$Book" ({ cls := "MarkChains$Book", name := "isStanding", desc := "(II)Z" } : Jvm.MethodName) ({ cls := "MarkChains$Book", name := "isStanding", desc := "(II)Z" } : Jvm.MethodName)) ∈ kTb := kwm_3 234 rfl rfl
theorem kw_3_235 : (Jvm.Cond.code ({ cls := "MarkChains$Book", name := "isStanding", desc := "(II)Z" } : Jvm.MethodName) prog_3_method_20_code (3 : Nat) (Option.some Jvm.ClassFile.FieldType.boolean)) ∈ kTb := kwm_3 235 rfl rfl
theorem kw_3_236 : (Jvm.Cond.methodLink "MarkChains" (156 : Nat) ({ cls := "MarkChains$Book", name := "countStruck", desc := "()I" } : Jvm.MethodName)) ∈ kTb := kwm_3 236 rfl rfl
theorem kw_3_237 : (Jvm.Cond.instanceMethod ({ cls := "MarkChains$Book", name := "countStruck", desc := "()I" } : Jvm.MethodName)) ∈ kTb := kwm_3 237 rfl rfl
theorem kw_3_238 : (Jvm.Cond.selects "MarkChains$Book" ({ cls := "MarkChains$Book", name := "countStruck", desc := "()I" } : Jvm.MethodName) ({ cls := "MarkChains$Book", name := "countStruck", desc := "()I" } : Jvm.MethodName)) ∈ kTb := kwm_3 238 rfl rfl
theorem kw_3_239 : (Jvm.Cond.code ({ cls := "MarkChains$Book", name := "countStruck", desc := "()I" } : Jvm.MethodName) prog_3_method_28_code (3 : Nat) (Option.some Jvm.ClassFile.FieldType.int)) ∈ kTb := kwm_3 239 rfl rfl
theorem kw_4_0 : (Jvm.Cond.methodLink "MarkChains" (159 : Nat) ({ cls := "MarkChains$Book", name := "countRatified", desc := "()I" } : Jvm.MethodName)) ∈ kTb := kwm_4 0 rfl rfl
theorem kw_4_1 : (Jvm.Cond.instanceMethod ({ cls := "MarkChains$Book", name := "countRatified", desc := "()I" } : Jvm.MethodName)) ∈ kTb := kwm_4 1 rfl rfl
theorem kw_4_2 : (Jvm.Cond.selects "MarkChains$Book" ({ cls := "MarkChains$Book", name := "countRatified", desc := "()I" } : Jvm.MethodName) ({ cls := "MarkChains$Book", name := "countRatified", desc := "()I" } : Jvm.MethodName)) ∈ kTb := kwm_4 2 rfl rfl
theorem kw_4_3 : (Jvm.Cond.code ({ cls := "MarkChains$Book", name := "countRatified", desc := "()I" } : Jvm.MethodName) prog_3_method_29_code (3 : Nat) (Option.some Jvm.ClassFile.FieldType.int)) ∈ kTb := kwm_4 3 rfl rfl
theorem kw_4_4 : (Jvm.Cond.methodLink "MarkChains" (162 : Nat) ({ cls := "MarkChains", name := "countGood", desc := "()I" } : Jvm.MethodName)) ∈ kTb := kwm_4 4 rfl rfl
theorem kw_4_6 : (Jvm.Cond.instanceMethod ({ cls := "MarkChains", name := "countGood", desc := "()I" } : Jvm.MethodName)) ∈ kTb := kwm_4 6 rfl rfl
theorem kw_4_7 : (Jvm.Cond.code ({ cls := "MarkChains", name := "countGood", desc := "()I" } : Jvm.MethodName) prog_1_method_56_code (3 : Nat) (Option.some Jvm.ClassFile.FieldType.int)) ∈ kTb := kwm_4 7 rfl rfl
theorem kw_4_8 : (Jvm.Cond.methodLink "MarkChains" (190 : Nat) ({ cls := "MarkChains", name := "lackOf", desc := "(II)I" } : Jvm.MethodName)) ∈ kTb := kwm_4 8 rfl rfl
theorem kw_4_10 : (Jvm.Cond.instanceMethod ({ cls := "MarkChains", name := "lackOf", desc := "(II)I" } : Jvm.MethodName)) ∈ kTb := kwm_4 10 rfl rfl
theorem kw_4_11 : (Jvm.Cond.code ({ cls := "MarkChains", name := "lackOf", desc := "(II)I" } : Jvm.MethodName) prog_1_method_55_code (4 : Nat) (Option.some Jvm.ClassFile.FieldType.int)) ∈ kTb := kwm_4 11 rfl rfl
theorem kw_4_12 : (Jvm.Cond.methodLink "MarkChains" (384 : Nat) ({ cls := "MarkChains$Formula", name := "valueOf", desc := "(ILMarkChains$Book;II)I" } : Jvm.MethodName)) ∈ kTb := kwm_4 12 rfl rfl
theorem kw_4_13 : (Jvm.Cond.instanceMethod ({ cls := "MarkChains$Formula", name := "valueOf", desc := "(ILMarkChains$Book;II)I" } : Jvm.MethodName)) ∈ kTb := kwm_4 13 rfl rfl
theorem kw_4_14 : (Jvm.Cond.selects "MarkChains$Formula" ({ cls := "MarkChains$Formula", name := "valueOf", desc := "(ILMarkChains$Book;II)I" } : Jvm.MethodName) ({ cls := "MarkChains$Formula", name := "valueOf", desc := "(ILMarkChains$Book;II)I" } : Jvm.MethodName)) ∈ kTb := kwm_4 14 rfl rfl
theorem kw_4_15 : (Jvm.Cond.code ({ cls := "MarkChains$Formula", name := "valueOf", desc := "(ILMarkChains$Book;II)I" } : Jvm.MethodName) prog_6_method_3_code (8 : Nat) (Option.some Jvm.ClassFile.FieldType.int)) ∈ kTb := kwm_4 15 rfl rfl
theorem kw_4_16 : (Jvm.Cond.methodLink "MarkChains$Formula" (25 : Nat) ({ cls := "MarkChains$Formula", name := "push", desc := "(I)V" } : Jvm.MethodName)) ∈ kTb := kwm_4 16 rfl rfl
theorem kw_4_18 : (Jvm.Cond.instanceMethod ({ cls := "MarkChains$Formula", name := "push", desc := "(I)V" } : Jvm.MethodName)) ∈ kTb := kwm_4 18 rfl rfl
theorem kw_4_19 : (Jvm.Cond.code ({ cls := "MarkChains$Formula", name := "push", desc := "(I)V" } : Jvm.MethodName) prog_6_method_4_code (2 : Nat) (Option.none : Option Jvm.ClassFile.FieldType)) ∈ kTb := kwm_4 19 rfl rfl
theorem kw_4_20 : (Jvm.Cond.methodLink "MarkChains$Formula" (29 : Nat) ({ cls := "MarkChains$Book", name := "thingOf", desc := "(III)I" } : Jvm.MethodName)) ∈ kTb := kwm_4 20 rfl rfl
theorem kw_4_21 : (Jvm.Cond.instanceMethod ({ cls := "MarkChains$Book", name := "thingOf", desc := "(III)I" } : Jvm.MethodName)) ∈ kTb := kwm_4 21 rfl rfl
theorem kw_4_22 : (Jvm.Cond.selects "MarkChains$Book" ({ cls := "MarkChains$Book", name := "thingOf", desc := "(III)I" } : Jvm.MethodName) ({ cls := "MarkChains$Book", name := "thingOf", desc := "(III)I" } : Jvm.MethodName)) ∈ kTb := kwm_4 22 rfl rfl
theorem kw_4_23 : (Jvm.Cond.code ({ cls := "MarkChains$Book", name := "thingOf", desc := "(III)I" } : Jvm.MethodName) prog_3_method_13_code (4 : Nat) (Option.some Jvm.ClassFile.FieldType.int)) ∈ kTb := kwm_4 23 rfl rfl
theorem kw_4_24 : (Jvm.Cond.methodLink "MarkChains$Book" (101 : Nat) ({ cls := "MarkChains$Book", name := "ageOf", desc := "(I)I" } : Jvm.MethodName)) ∈ kTb := kwm_4 24 rfl rfl
theorem kw_4_25 : (Jvm.Cond.instanceMethod ({ cls := "MarkChains$Book", name := "ageOf", desc := "(I)I" } : Jvm.MethodName)) ∈ kTb := kwm_4 25 rfl rfl
theorem kw_4_26 : (Jvm.Cond.selects "MarkChains$Book" ({ cls := "MarkChains$Book", name := "ageOf", desc := "(I)I" } : Jvm.MethodName) ({ cls := "MarkChains$Book", name := "ageOf", desc := "(I)I" } : Jvm.MethodName)) ∈ kTb := kwm_4 26 rfl rfl
theorem kw_4_27 : (Jvm.Cond.code ({ cls := "MarkChains$Book", name := "ageOf", desc := "(I)I" } : Jvm.MethodName) prog_3_method_14_code (2 : Nat) (Option.some Jvm.ClassFile.FieldType.int)) ∈ kTb := kwm_4 27 rfl rfl
theorem kw_4_28 : (Jvm.Cond.methodLink "MarkChains$Formula" (35 : Nat) ({ cls := "MarkChains$Formula", name := "pop", desc := "()I" } : Jvm.MethodName)) ∈ kTb := kwm_4 28 rfl rfl
theorem kw_4_30 : (Jvm.Cond.instanceMethod ({ cls := "MarkChains$Formula", name := "pop", desc := "()I" } : Jvm.MethodName)) ∈ kTb := kwm_4 30 rfl rfl
theorem kw_4_31 : (Jvm.Cond.code ({ cls := "MarkChains$Formula", name := "pop", desc := "()I" } : Jvm.MethodName) prog_6_method_5_code (1 : Nat) (Option.some Jvm.ClassFile.FieldType.int)) ∈ kTb := kwm_4 31 rfl rfl
theorem kw_4_32 : (Jvm.Cond.methodLink "MarkChains$Formula" (39 : Nat) ({ cls := "MarkChains$Formula", name := "joined", desc := "(III)I" } : Jvm.MethodName)) ∈ kTb := kwm_4 32 rfl rfl
theorem kw_4_33 : (Jvm.Cond.static ({ cls := "MarkChains$Formula", name := "joined", desc := "(III)I" } : Jvm.MethodName)) ∈ kTb := kwm_4 33 rfl rfl
theorem kw_4_34 : (Jvm.Cond.code ({ cls := "MarkChains$Formula", name := "joined", desc := "(III)I" } : Jvm.MethodName) prog_6_method_6_code (3 : Nat) (Option.some Jvm.ClassFile.FieldType.int)) ∈ kTb := kwm_4 34 rfl rfl
theorem kw_4_35 : (Jvm.Cond.methodLink "MarkChains" (388 : Nat) ({ cls := "MarkChains$Book", name := "isWindTooStrong", desc := "(I)Z" } : Jvm.MethodName)) ∈ kTb := kwm_4 35 rfl rfl
theorem kw_4_36 : (Jvm.Cond.instanceMethod ({ cls := "MarkChains$Book", name := "isWindTooStrong", desc := "(I)Z" } : Jvm.MethodName)) ∈ kTb := kwm_4 36 rfl rfl
theorem kw_4_37 : (Jvm.Cond.selects "MarkChains$Book" ({ cls := "MarkChains$Book", name := "isWindTooStrong", desc := "(I)Z" } : Jvm.MethodName) ({ cls := "MarkChains$Book", name := "isWindTooStrong", desc := "(I)Z" } : Jvm.MethodName)) ∈ kTb := kwm_4 37 rfl rfl
theorem kw_4_38 : (Jvm.Cond.code ({ cls := "MarkChains$Book", name := "isWindTooStrong", desc := "(I)Z" } : Jvm.MethodName) prog_3_method_19_code (3 : Nat) (Option.some Jvm.ClassFile.FieldType.boolean)) ∈ kTb := kwm_4 38 rfl rfl
theorem kw_4_39 : (Jvm.Cond.methodLink "MarkChainsLaw" (40 : Nat) ({ cls := "MarkChains", name := "mark", desc := "(II)I" } : Jvm.MethodName)) ∈ kTb := kwm_4 39 rfl rfl
theorem kw_4_40 : (Jvm.Cond.instanceMethod ({ cls := "MarkChains", name := "mark", desc := "(II)I" } : Jvm.MethodName)) ∈ kTb := kwm_4 40 rfl rfl
theorem kw_4_41 : (Jvm.Cond.selects "MarkChains" ({ cls := "MarkChains", name := "mark", desc := "(II)I" } : Jvm.MethodName) ({ cls := "MarkChains", name := "mark", desc := "(II)I" } : Jvm.MethodName)) ∈ kTb := kwm_4 41 rfl rfl
theorem kw_4_42 : (Jvm.Cond.code ({ cls := "MarkChains", name := "mark", desc := "(II)I" } : Jvm.MethodName) prog_1_method_8_code (3 : Nat) (Option.some Jvm.ClassFile.FieldType.int)) ∈ kTb := kwm_4 42 rfl rfl
theorem kw_4_43 : (Jvm.Cond.methodLink "MarkChains" (165 : Nat) ({ cls := "MarkChains$Book", name := "hasMark", desc := "(I)Z" } : Jvm.MethodName)) ∈ kTb := kwm_4 43 rfl rfl
theorem kw_4_44 : (Jvm.Cond.instanceMethod ({ cls := "MarkChains$Book", name := "hasMark", desc := "(I)Z" } : Jvm.MethodName)) ∈ kTb := kwm_4 44 rfl rfl
theorem kw_4_45 : (Jvm.Cond.selects "MarkChains$Book" ({ cls := "MarkChains$Book", name := "hasMark", desc := "(I)Z" } : Jvm.MethodName) ({ cls := "MarkChains$Book", name := "hasMark", desc := "(I)Z" } : Jvm.MethodName)) ∈ kTb := kwm_4 45 rfl rfl
theorem kw_4_46 : (Jvm.Cond.code ({ cls := "MarkChains$Book", name := "hasMark", desc := "(I)Z" } : Jvm.MethodName) prog_3_method_2_code (2 : Nat) (Option.some Jvm.ClassFile.FieldType.boolean)) ∈ kTb := kwm_4 46 rfl rfl
theorem kw_4_47 : (Jvm.Cond.methodLink "MarkChains" (169 : Nat) ({ cls := "MarkChains$Book", name := "factOf", desc := "(II)I" } : Jvm.MethodName)) ∈ kTb := kwm_4 47 rfl rfl
theorem kw_4_48 : (Jvm.Cond.instanceMethod ({ cls := "MarkChains$Book", name := "factOf", desc := "(II)I" } : Jvm.MethodName)) ∈ kTb := kwm_4 48 rfl rfl
theorem kw_4_49 : (Jvm.Cond.selects "MarkChains$Book" ({ cls := "MarkChains$Book", name := "factOf", desc := "(II)I" } : Jvm.MethodName) ({ cls := "MarkChains$Book", name := "factOf", desc := "(II)I" } : Jvm.MethodName)) ∈ kTb := kwm_4 49 rfl rfl
theorem kw_4_50 : (Jvm.Cond.code ({ cls := "MarkChains$Book", name := "factOf", desc := "(II)I" } : Jvm.MethodName) prog_3_method_12_code (3 : Nat) (Option.some Jvm.ClassFile.FieldType.int)) ∈ kTb := kwm_4 50 rfl rfl
theorem kw_4_51 : (Jvm.Cond.constant "MarkChains$Book" (105 : Nat) (-1000000 : Int32)) ∈ kTb := kwm_4 51 rfl rfl
theorem kw_4_52 : (Jvm.Cond.constant "MarkChains" (173 : Nat) (-1000000 : Int32)) ∈ kTb := kwm_4 52 rfl rfl
theorem kw_4_53 : (Jvm.Cond.methodLink "MarkChainsLaw" (45 : Nat) ({ cls := "MarkChains", name := "told", desc := "(III)I" } : Jvm.MethodName)) ∈ kTb := kwm_4 53 rfl rfl
theorem kw_4_54 : (Jvm.Cond.instanceMethod ({ cls := "MarkChains", name := "told", desc := "(III)I" } : Jvm.MethodName)) ∈ kTb := kwm_4 54 rfl rfl
theorem kw_4_55 : (Jvm.Cond.selects "MarkChains" ({ cls := "MarkChains", name := "told", desc := "(III)I" } : Jvm.MethodName) ({ cls := "MarkChains", name := "told", desc := "(III)I" } : Jvm.MethodName)) ∈ kTb := kwm_4 55 rfl rfl
theorem kw_4_56 : (Jvm.Cond.code ({ cls := "MarkChains", name := "told", desc := "(III)I" } : Jvm.MethodName) prog_1_method_9_code (5 : Nat) (Option.some Jvm.ClassFile.FieldType.int)) ∈ kTb := kwm_4 56 rfl rfl
theorem kw_4_57 : (Jvm.Cond.methodLink "MarkChains" (174 : Nat) ({ cls := "MarkChains$Book", name := "pairsOf", desc := "(I)LMarkChains$Pairs;" } : Jvm.MethodName)) ∈ kTb := kwm_4 57 rfl rfl
theorem kw_4_58 : (Jvm.Cond.methodLink "MarkChains" (178 : Nat) ({ cls := "MarkChains$Pairs", name := "has", desc := "(I)Z" } : Jvm.MethodName)) ∈ kTb := kwm_4 58 rfl rfl
theorem kw_4_59 : (Jvm.Cond.methodLink "MarkChainsLaw" (50 : Nat) ({ cls := "MarkChains", name := "good", desc := "(I)I" } : Jvm.MethodName)) ∈ kTb := kwm_4 59 rfl rfl
theorem kw_4_60 : (Jvm.Cond.instanceMethod ({ cls := "MarkChains", name := "good", desc := "(I)I" } : Jvm.MethodName)) ∈ kTb := kwm_4 60 rfl rfl
theorem kw_4_61 : (Jvm.Cond.selects "MarkChains" ({ cls := "MarkChains", name := "good", desc := "(I)I" } : Jvm.MethodName) ({ cls := "MarkChains", name := "good", desc := "(I)I" } : Jvm.MethodName)) ∈ kTb := kwm_4 61 rfl rfl
theorem kw_4_62 : (Jvm.Cond.code ({ cls := "MarkChains", name := "good", desc := "(I)I" } : Jvm.MethodName) prog_1_method_10_code (2 : Nat) (Option.some Jvm.ClassFile.FieldType.int)) ∈ kTb := kwm_4 62 rfl rfl
theorem kw_4_63 : (Jvm.Cond.methodLink "MarkChainsLaw" (54 : Nat) ({ cls := "MarkChains", name := "ratify", desc := "(I)I" } : Jvm.MethodName)) ∈ kTb := kwm_4 63 rfl rfl
theorem kw_4_64 : (Jvm.Cond.instanceMethod ({ cls := "MarkChains", name := "ratify", desc := "(I)I" } : Jvm.MethodName)) ∈ kTb := kwm_4 64 rfl rfl
theorem kw_4_65 : (Jvm.Cond.selects "MarkChains" ({ cls := "MarkChains", name := "ratify", desc := "(I)I" } : Jvm.MethodName) ({ cls := "MarkChains", name := "ratify", desc := "(I)I" } : Jvm.MethodName)) ∈ kTb := kwm_4 65 rfl rfl
theorem kw_4_66 : (Jvm.Cond.code ({ cls := "MarkChains", name := "ratify", desc := "(I)I" } : Jvm.MethodName) prog_1_method_11_code (2 : Nat) (Option.some Jvm.ClassFile.FieldType.int)) ∈ kTb := kwm_4 66 rfl rfl
theorem kw_4_67 : (Jvm.Cond.methodLink "MarkChainsLaw" (58 : Nat) ({ cls := "MarkChains", name := "strike", desc := "(I)I" } : Jvm.MethodName)) ∈ kTb := kwm_4 67 rfl rfl
theorem kw_4_68 : (Jvm.Cond.instanceMethod ({ cls := "MarkChains", name := "strike", desc := "(I)I" } : Jvm.MethodName)) ∈ kTb := kwm_4 68 rfl rfl
theorem kw_4_69 : (Jvm.Cond.selects "MarkChains" ({ cls := "MarkChains", name := "strike", desc := "(I)I" } : Jvm.MethodName) ({ cls := "MarkChains", name := "strike", desc := "(I)I" } : Jvm.MethodName)) ∈ kTb := kwm_4 69 rfl rfl
theorem kw_4_70 : (Jvm.Cond.code ({ cls := "MarkChains", name := "strike", desc := "(I)I" } : Jvm.MethodName) prog_1_method_12_code (2 : Nat) (Option.some Jvm.ClassFile.FieldType.int)) ∈ kTb := kwm_4 70 rfl rfl
theorem kw_4_71 : (Jvm.Cond.methodLink "MarkChainsLaw" (62 : Nat) ({ cls := "MarkChains", name := "ban", desc := "(III)I" } : Jvm.MethodName)) ∈ kTb := kwm_4 71 rfl rfl
theorem kw_4_72 : (Jvm.Cond.instanceMethod ({ cls := "MarkChains", name := "ban", desc := "(III)I" } : Jvm.MethodName)) ∈ kTb := kwm_4 72 rfl rfl
theorem kw_4_73 : (Jvm.Cond.selects "MarkChains" ({ cls := "MarkChains", name := "ban", desc := "(III)I" } : Jvm.MethodName) ({ cls := "MarkChains", name := "ban", desc := "(III)I" } : Jvm.MethodName)) ∈ kTb := kwm_4 73 rfl rfl
theorem kw_4_74 : (Jvm.Cond.code ({ cls := "MarkChains", name := "ban", desc := "(III)I" } : Jvm.MethodName) prog_1_method_13_code (9 : Nat) (Option.some Jvm.ClassFile.FieldType.int)) ∈ kTb := kwm_4 74 rfl rfl
theorem kw_4_75 : (Jvm.Cond.methodLink "MarkChainsLaw" (66 : Nat) ({ cls := "MarkChains", name := "paper", desc := "(II)I" } : Jvm.MethodName)) ∈ kTb := kwm_4 75 rfl rfl
theorem kw_4_76 : (Jvm.Cond.instanceMethod ({ cls := "MarkChains", name := "paper", desc := "(II)I" } : Jvm.MethodName)) ∈ kTb := kwm_4 76 rfl rfl
theorem kw_4_77 : (Jvm.Cond.selects "MarkChains" ({ cls := "MarkChains", name := "paper", desc := "(II)I" } : Jvm.MethodName) ({ cls := "MarkChains", name := "paper", desc := "(II)I" } : Jvm.MethodName)) ∈ kTb := kwm_4 77 rfl rfl
theorem kw_4_78 : (Jvm.Cond.code ({ cls := "MarkChains", name := "paper", desc := "(II)I" } : Jvm.MethodName) prog_1_method_14_code (3 : Nat) (Option.some Jvm.ClassFile.FieldType.int)) ∈ kTb := kwm_4 78 rfl rfl
theorem kw_4_79 : (Jvm.Cond.methodLink "MarkChainsLaw" (70 : Nat) ({ cls := "MarkChains", name := "days", desc := "(I)I" } : Jvm.MethodName)) ∈ kTb := kwm_4 79 rfl rfl
theorem kw_4_80 : (Jvm.Cond.instanceMethod ({ cls := "MarkChains", name := "days", desc := "(I)I" } : Jvm.MethodName)) ∈ kTb := kwm_4 80 rfl rfl
theorem kw_4_81 : (Jvm.Cond.selects "MarkChains" ({ cls := "MarkChains", name := "days", desc := "(I)I" } : Jvm.MethodName) ({ cls := "MarkChains", name := "days", desc := "(I)I" } : Jvm.MethodName)) ∈ kTb := kwm_4 81 rfl rfl
theorem kw_4_82 : (Jvm.Cond.code ({ cls := "MarkChains", name := "days", desc := "(I)I" } : Jvm.MethodName) prog_1_method_15_code (2 : Nat) (Option.some Jvm.ClassFile.FieldType.int)) ∈ kTb := kwm_4 82 rfl rfl
theorem kw_4_83 : (Jvm.Cond.methodLink "MarkChains" (205 : Nat) ({ cls := "java/lang/Math", name := "min", desc := "(II)I" } : Jvm.MethodName)) ∈ kTb := kwm_4 83 rfl rfl
theorem kw_4_84 : (Jvm.Cond.methodLink "MarkChainsLaw" (74 : Nat) ({ cls := "MarkChains", name := "within", desc := "(II)I" } : Jvm.MethodName)) ∈ kTb := kwm_4 84 rfl rfl
theorem kw_4_85 : (Jvm.Cond.instanceMethod ({ cls := "MarkChains", name := "within", desc := "(II)I" } : Jvm.MethodName)) ∈ kTb := kwm_4 85 rfl rfl
theorem kw_4_86 : (Jvm.Cond.selects "MarkChains" ({ cls := "MarkChains", name := "within", desc := "(II)I" } : Jvm.MethodName) ({ cls := "MarkChains", name := "within", desc := "(II)I" } : Jvm.MethodName)) ∈ kTb := kwm_4 86 rfl rfl
theorem kw_4_87 : (Jvm.Cond.code ({ cls := "MarkChains", name := "within", desc := "(II)I" } : Jvm.MethodName) prog_1_method_16_code (3 : Nat) (Option.some Jvm.ClassFile.FieldType.int)) ∈ kTb := kwm_4 87 rfl rfl
theorem kw_4_88 : (Jvm.Cond.methodLink "MarkChains" (210 : Nat) ({ cls := "MarkChains", name := "isMarkAndScope", desc := "(II)Z" } : Jvm.MethodName)) ∈ kTb := kwm_4 88 rfl rfl
theorem kw_4_90 : (Jvm.Cond.instanceMethod ({ cls := "MarkChains", name := "isMarkAndScope", desc := "(II)Z" } : Jvm.MethodName)) ∈ kTb := kwm_4 90 rfl rfl
theorem kw_4_91 : (Jvm.Cond.code ({ cls := "MarkChains", name := "isMarkAndScope", desc := "(II)Z" } : Jvm.MethodName) prog_1_method_52_code (3 : Nat) (Option.some Jvm.ClassFile.FieldType.boolean)) ∈ kTb := kwm_4 91 rfl rfl
theorem kw_4_92 : (Jvm.Cond.methodLink "MarkChains" (381 : Nat) ({ cls := "MarkChains", name := "isScope", desc := "(I)Z" } : Jvm.MethodName)) ∈ kTb := kwm_4 92 rfl rfl
theorem kw_4_93 : (Jvm.Cond.static ({ cls := "MarkChains", name := "isScope", desc := "(I)Z" } : Jvm.MethodName)) ∈ kTb := kwm_4 93 rfl rfl
theorem kw_4_94 : (Jvm.Cond.code ({ cls := "MarkChains", name := "isScope", desc := "(I)Z" } : Jvm.MethodName) prog_1_method_51_code (1 : Nat) (Option.some Jvm.ClassFile.FieldType.boolean)) ∈ kTb := kwm_4 94 rfl rfl
theorem kw_4_95 : (Jvm.Cond.methodLink "MarkChains" (214 : Nat) ({ cls := "MarkChains$Book", name := "isOfScope", desc := "(II)Z" } : Jvm.MethodName)) ∈ kTb := kwm_4 95 rfl rfl
theorem kw_4_96 : (Jvm.Cond.instanceMethod ({ cls := "MarkChains$Book", name := "isOfScope", desc := "(II)Z" } : Jvm.MethodName)) ∈ kTb := kwm_4 96 rfl rfl
theorem kw_4_97 : (Jvm.Cond.selects "MarkChains$Book" ({ cls := "MarkChains$Book", name := "isOfScope", desc := "(II)Z" } : Jvm.MethodName) ({ cls := "MarkChains$Book", name := "isOfScope", desc := "(II)Z" } : Jvm.MethodName)) ∈ kTb := kwm_4 97 rfl rfl
theorem kw_4_98 : (Jvm.Cond.code ({ cls := "MarkChains$Book", name := "isOfScope", desc := "(II)Z" } : Jvm.MethodName) prog_3_method_21_code (4 : Nat) (Option.some Jvm.ClassFile.FieldType.boolean)) ∈ kTb := kwm_4 98 rfl rfl
theorem kw_4_99 : (Jvm.Cond.fieldLink "MarkChains$Book" (119 : Nat) "MarkChains$Book" "AGES" "[I") ∈ kTb := kwm_4 99 rfl rfl
theorem kw_4_101 : (Jvm.Cond.methodLink "MarkChainsLaw" (78 : Nat) ({ cls := "MarkChains", name := "chain", desc := "(IIII)I" } : Jvm.MethodName)) ∈ kTb := kwm_4 101 rfl rfl
theorem kw_4_102 : (Jvm.Cond.instanceMethod ({ cls := "MarkChains", name := "chain", desc := "(IIII)I" } : Jvm.MethodName)) ∈ kTb := kwm_4 102 rfl rfl
theorem kw_4_103 : (Jvm.Cond.selects "MarkChains" ({ cls := "MarkChains", name := "chain", desc := "(IIII)I" } : Jvm.MethodName) ({ cls := "MarkChains", name := "chain", desc := "(IIII)I" } : Jvm.MethodName)) ∈ kTb := kwm_4 103 rfl rfl
theorem kw_4_104 : (Jvm.Cond.code ({ cls := "MarkChains", name := "chain", desc := "(IIII)I" } : Jvm.MethodName) prog_1_method_17_code (5 : Nat) (Option.some Jvm.ClassFile.FieldType.int)) ∈ kTb := kwm_4 104 rfl rfl
theorem kw_4_105 : (Jvm.Cond.methodLink "MarkChains" (217 : Nat) ({ cls := "MarkChains", name := "fillChain", desc := "(III)Z" } : Jvm.MethodName)) ∈ kTb := kwm_4 105 rfl rfl
theorem kw_4_107 : (Jvm.Cond.instanceMethod ({ cls := "MarkChains", name := "fillChain", desc := "(III)Z" } : Jvm.MethodName)) ∈ kTb := kwm_4 107 rfl rfl
theorem kw_4_108 : (Jvm.Cond.code ({ cls := "MarkChains", name := "fillChain", desc := "(III)Z" } : Jvm.MethodName) prog_1_method_54_code (4 : Nat) (Option.some Jvm.ClassFile.FieldType.boolean)) ∈ kTb := kwm_4 108 rfl rfl
theorem kw_4_109 : (Jvm.Cond.methodLink "MarkChains" (245 : Nat) ({ cls := "MarkChains", name := "isAsked", desc := "(III)Z" } : Jvm.MethodName)) ∈ kTb := kwm_4 109 rfl rfl
theorem kw_4_111 : (Jvm.Cond.instanceMethod ({ cls := "MarkChains", name := "isAsked", desc := "(III)Z" } : Jvm.MethodName)) ∈ kTb := kwm_4 111 rfl rfl
theorem kw_4_112 : (Jvm.Cond.code ({ cls := "MarkChains", name := "isAsked", desc := "(III)Z" } : Jvm.MethodName) prog_1_method_53_code (4 : Nat) (Option.some Jvm.ClassFile.FieldType.boolean)) ∈ kTb := kwm_4 112 rfl rfl
theorem kw_4_113 : (Jvm.Cond.methodLink "MarkChains" (248 : Nat) ({ cls := "MarkChains", name := "isDay", desc := "(I)Z" } : Jvm.MethodName)) ∈ kTb := kwm_4 113 rfl rfl
theorem kw_4_114 : (Jvm.Cond.static ({ cls := "MarkChains", name := "isDay", desc := "(I)Z" } : Jvm.MethodName)) ∈ kTb := kwm_4 114 rfl rfl
theorem kw_4_115 : (Jvm.Cond.code ({ cls := "MarkChains", name := "isDay", desc := "(I)Z" } : Jvm.MethodName) prog_1_method_50_code (1 : Nat) (Option.some Jvm.ClassFile.FieldType.boolean)) ∈ kTb := kwm_4 115 rfl rfl
theorem kw_4_116 : (Jvm.Cond.methodLink "MarkChains" (251 : Nat) ({ cls := "MarkChains$Line", name := "fillWithChain", desc := "(IIII)V" } : Jvm.MethodName)) ∈ kTb := kwm_4 116 rfl rfl
theorem kw_4_117 : (Jvm.Cond.instanceMethod ({ cls := "MarkChains$Line", name := "fillWithChain", desc := "(IIII)V" } : Jvm.MethodName)) ∈ kTb := kwm_4 117 rfl rfl
theorem kw_4_118 : (Jvm.Cond.selects "MarkChains$Line" ({ cls := "MarkChains$Line", name := "fillWithChain", desc := "(IIII)V" } : Jvm.MethodName) ({ cls := "MarkChains$Line", name := "fillWithChain", desc := "(IIII)V" } : Jvm.MethodName)) ∈ kTb := kwm_4 118 rfl rfl
theorem kw_4_119 : (Jvm.Cond.code ({ cls := "MarkChains$Line", name := "fillWithChain", desc := "(IIII)V" } : Jvm.MethodName) prog_9_method_2_code (7 : Nat) (Option.none : Option Jvm.ClassFile.FieldType)) ∈ kTb := kwm_4 119 rfl rfl
theorem kw_4_120 : (Jvm.Cond.methodLink "MarkChains$Line" (32 : Nat) ({ cls := "MarkChains$Book", name := "isListed", desc := "(IIII)Z" } : Jvm.MethodName)) ∈ kTb := kwm_4 120 rfl rfl
theorem kw_4_121 : (Jvm.Cond.instanceMethod ({ cls := "MarkChains$Book", name := "isListed", desc := "(IIII)Z" } : Jvm.MethodName)) ∈ kTb := kwm_4 121 rfl rfl
theorem kw_4_122 : (Jvm.Cond.selects "MarkChains$Book" ({ cls := "MarkChains$Book", name := "isListed", desc := "(IIII)Z" } : Jvm.MethodName) ({ cls := "MarkChains$Book", name := "isListed", desc := "(IIII)Z" } : Jvm.MethodName)) ∈ kTb := kwm_4 122 rfl rfl
theorem kw_4_123 : (Jvm.Cond.code ({ cls := "MarkChains$Book", name := "isListed", desc := "(IIII)Z" } : Jvm.MethodName) prog_3_method_22_code (5 : Nat) (Option.some Jvm.ClassFile.FieldType.boolean)) ∈ kTb := kwm_4 123 rfl rfl
theorem kw_4_124 : (Jvm.Cond.methodLink "MarkChains$Book" (125 : Nat) ({ cls := "MarkChains$Book", name := "isOfScope", desc := "(II)Z" } : Jvm.MethodName)) ∈ kTb := kwm_4 124 rfl rfl
theorem kw_4_125 : (Jvm.Cond.methodLink "MarkChains$Line" (36 : Nat) ({ cls := "MarkChains$Book", name := "isBetter", desc := "(II)Z" } : Jvm.MethodName)) ∈ kTb := kwm_4 125 rfl rfl
theorem kw_4_126 : (Jvm.Cond.instanceMethod ({ cls := "MarkChains$Book", name := "isBetter", desc := "(II)Z" } : Jvm.MethodName)) ∈ kTb := kwm_4 126 rfl rfl
theorem kw_4_127 : (Jvm.Cond.selects "MarkChains$Book" ({ cls := "MarkChains$Book", name := "isBetter", desc := "(II)Z" } : Jvm.MethodName) ({ cls := "MarkChains$Book", name := "isBetter", desc := "(II)Z" } : Jvm.MethodName)) ∈ kTb := kwm_4 127 rfl rfl
theorem kw_4_128 : (Jvm.Cond.code ({ cls := "MarkChains$Book", name := "isBetter", desc := "(II)Z" } : Jvm.MethodName) prog_3_method_17_code (3 : Nat) (Option.some Jvm.ClassFile.FieldType.boolean)) ∈ kTb := kwm_4 128 rfl rfl
theorem kw_4_129 : (Jvm.Cond.methodLink "MarkChains$Book" (116 : Nat) ({ cls := "MarkChains$Book", name := "gainOver", desc := "(II)I" } : Jvm.MethodName)) ∈ kTb := kwm_4 129 rfl rfl
theorem kw_4_130 : (Jvm.Cond.instanceMethod ({ cls := "MarkChains$Book", name := "gainOver", desc := "(II)I" } : Jvm.MethodName)) ∈ kTb := kwm_4 130 rfl rfl
theorem kw_4_131 : (Jvm.Cond.selects "MarkChains$Book" ({ cls := "MarkChains$Book", name := "gainOver", desc := "(II)I" } : Jvm.MethodName) ({ cls := "MarkChains$Book", name := "gainOver", desc := "(II)I" } : Jvm.MethodName)) ∈ kTb := kwm_4 131 rfl rfl
theorem kw_4_132 : (Jvm.Cond.code ({ cls := "MarkChains$Book", name := "gainOver", desc := "(II)I" } : Jvm.MethodName) prog_3_method_16_code (3 : Nat) (Option.some Jvm.ClassFile.FieldType.int)) ∈ kTb := kwm_4 132 rfl rfl
theorem kw_4_133 : (Jvm.Cond.methodLink "MarkChains$Book" (112 : Nat) ({ cls := "MarkChains$Book", name := "isMoreBetter", desc := "(I)Z" } : Jvm.MethodName)) ∈ kTb := kwm_4 133 rfl rfl
theorem kw_4_134 : (Jvm.Cond.instanceMethod ({ cls := "MarkChains$Book", name := "isMoreBetter", desc := "(I)Z" } : Jvm.MethodName)) ∈ kTb := kwm_4 134 rfl rfl
theorem kw_4_135 : (Jvm.Cond.selects "MarkChains$Book" ({ cls := "MarkChains$Book", name := "isMoreBetter", desc := "(I)Z" } : Jvm.MethodName) ({ cls := "MarkChains$Book", name := "isMoreBetter", desc := "(I)Z" } : Jvm.MethodName)) ∈ kTb := kwm_4 135 rfl rfl
theorem kw_4_136 : (Jvm.Cond.code ({ cls := "MarkChains$Book", name := "isMoreBetter", desc := "(I)Z" } : Jvm.MethodName) prog_3_method_15_code (2 : Nat) (Option.some Jvm.ClassFile.FieldType.boolean)) ∈ kTb := kwm_4 136 rfl rfl
theorem kw_4_137 : (Jvm.Cond.methodLink "MarkChains$Line" (40 : Nat) ({ cls := "MarkChains$Line", name := "append", desc := "(I)V" } : Jvm.MethodName)) ∈ kTb := kwm_4 137 rfl rfl
theorem kw_4_139 : (Jvm.Cond.instanceMethod ({ cls := "MarkChains$Line", name := "append", desc := "(I)V" } : Jvm.MethodName)) ∈ kTb := kwm_4 139 rfl rfl
theorem kw_4_140 : (Jvm.Cond.code ({ cls := "MarkChains$Line", name := "append", desc := "(I)V" } : Jvm.MethodName) prog_9_method_6_code (2 : Nat) (Option.none : Option Jvm.ClassFile.FieldType)) ∈ kTb := kwm_4 140 rfl rfl
theorem kw_4_141 : (Jvm.Cond.methodLink "MarkChains" (221 : Nat) ({ cls := "MarkChains$Line", name := "countOrPick", desc := "(I)I" } : Jvm.MethodName)) ∈ kTb := kwm_4 141 rfl rfl
theorem kw_4_142 : (Jvm.Cond.instanceMethod ({ cls := "MarkChains$Line", name := "countOrPick", desc := "(I)I" } : Jvm.MethodName)) ∈ kTb := kwm_4 142 rfl rfl
theorem kw_4_143 : (Jvm.Cond.selects "MarkChains$Line" ({ cls := "MarkChains$Line", name := "countOrPick", desc := "(I)I" } : Jvm.MethodName) ({ cls := "MarkChains$Line", name := "countOrPick", desc := "(I)I" } : Jvm.MethodName)) ∈ kTb := kwm_4 143 rfl rfl
theorem kw_4_144 : (Jvm.Cond.code ({ cls := "MarkChains$Line", name := "countOrPick", desc := "(I)I" } : Jvm.MethodName) prog_9_method_8_code (2 : Nat) (Option.some Jvm.ClassFile.FieldType.int)) ∈ kTb := kwm_4 144 rfl rfl
theorem kw_4_145 : (Jvm.Cond.methodLink "MarkChainsLaw" (83 : Nat) ({ cls := "MarkChains", name := "record", desc := "(III)I" } : Jvm.MethodName)) ∈ kTb := kwm_4 145 rfl rfl
theorem kw_4_146 : (Jvm.Cond.instanceMethod ({ cls := "MarkChains", name := "record", desc := "(III)I" } : Jvm.MethodName)) ∈ kTb := kwm_4 146 rfl rfl
theorem kw_4_147 : (Jvm.Cond.selects "MarkChains" ({ cls := "MarkChains", name := "record", desc := "(III)I" } : Jvm.MethodName) ({ cls := "MarkChains", name := "record", desc := "(III)I" } : Jvm.MethodName)) ∈ kTb := kwm_4 147 rfl rfl
theorem kw_4_148 : (Jvm.Cond.code ({ cls := "MarkChains", name := "record", desc := "(III)I" } : Jvm.MethodName) prog_1_method_18_code (4 : Nat) (Option.some Jvm.ClassFile.FieldType.int)) ∈ kTb := kwm_4 148 rfl rfl
theorem kw_4_149 : (Jvm.Cond.methodLink "MarkChains" (224 : Nat) ({ cls := "MarkChains$Line", name := "lastValue", desc := "()I" } : Jvm.MethodName)) ∈ kTb := kwm_4 149 rfl rfl
theorem kw_4_150 : (Jvm.Cond.instanceMethod ({ cls := "MarkChains$Line", name := "lastValue", desc := "()I" } : Jvm.MethodName)) ∈ kTb := kwm_4 150 rfl rfl
theorem kw_4_151 : (Jvm.Cond.selects "MarkChains$Line" ({ cls := "MarkChains$Line", name := "lastValue", desc := "()I" } : Jvm.MethodName) ({ cls := "MarkChains$Line", name := "lastValue", desc := "()I" } : Jvm.MethodName)) ∈ kTb := kwm_4 151 rfl rfl
theorem kw_4_152 : (Jvm.Cond.code ({ cls := "MarkChains$Line", name := "lastValue", desc := "()I" } : Jvm.MethodName) prog_9_method_12_code (1 : Nat) (Option.some Jvm.ClassFile.FieldType.int)) ∈ kTb := kwm_4 152 rfl rfl
theorem kw_4_153 : (Jvm.Cond.methodLink "MarkChainsLaw" (87 : Nat) ({ cls := "MarkChains", name := "holders", desc := "(III)I" } : Jvm.MethodName)) ∈ kTb := kwm_4 153 rfl rfl
theorem kw_4_154 : (Jvm.Cond.instanceMethod ({ cls := "MarkChains", name := "holders", desc := "(III)I" } : Jvm.MethodName)) ∈ kTb := kwm_4 154 rfl rfl
theorem kw_4_155 : (Jvm.Cond.selects "MarkChains" ({ cls := "MarkChains", name := "holders", desc := "(III)I" } : Jvm.MethodName) ({ cls := "MarkChains", name := "holders", desc := "(III)I" } : Jvm.MethodName)) ∈ kTb := kwm_4 155 rfl rfl
theorem kw_4_156 : (Jvm.Cond.code ({ cls := "MarkChains", name := "holders", desc := "(III)I" } : Jvm.MethodName) prog_1_method_19_code (4 : Nat) (Option.some Jvm.ClassFile.FieldType.int)) ∈ kTb := kwm_4 156 rfl rfl
theorem kw_4_157 : (Jvm.Cond.methodLink "MarkChains" (227 : Nat) ({ cls := "MarkChains$Line", name := "holderBits", desc := "()I" } : Jvm.MethodName)) ∈ kTb := kwm_4 157 rfl rfl
theorem kw_4_158 : (Jvm.Cond.instanceMethod ({ cls := "MarkChains$Line", name := "holderBits", desc := "()I" } : Jvm.MethodName)) ∈ kTb := kwm_4 158 rfl rfl
theorem kw_4_159 : (Jvm.Cond.selects "MarkChains$Line" ({ cls := "MarkChains$Line", name := "holderBits", desc := "()I" } : Jvm.MethodName) ({ cls := "MarkChains$Line", name := "holderBits", desc := "()I" } : Jvm.MethodName)) ∈ kTb := kwm_4 159 rfl rfl
theorem kw_4_160 : (Jvm.Cond.code ({ cls := "MarkChains$Line", name := "holderBits", desc := "()I" } : Jvm.MethodName) prog_9_method_13_code (4 : Nat) (Option.some Jvm.ClassFile.FieldType.int)) ∈ kTb := kwm_4 160 rfl rfl
theorem kw_4_161 : (Jvm.Cond.methodLink "MarkChains$Line" (66 : Nat) ({ cls := "MarkChains$Line", name := "lastValue", desc := "()I" } : Jvm.MethodName)) ∈ kTb := kwm_4 161 rfl rfl
theorem kw_4_162 : (Jvm.Cond.methodLink "MarkChainsLaw" (91 : Nat) ({ cls := "MarkChains", name := "ties", desc := "(III)I" } : Jvm.MethodName)) ∈ kTb := kwm_4 162 rfl rfl
theorem kw_4_163 : (Jvm.Cond.instanceMethod ({ cls := "MarkChains", name := "ties", desc := "(III)I" } : Jvm.MethodName)) ∈ kTb := kwm_4 163 rfl rfl
theorem kw_4_164 : (Jvm.Cond.selects "MarkChains" ({ cls := "MarkChains", name := "ties", desc := "(III)I" } : Jvm.MethodName) ({ cls := "MarkChains", name := "ties", desc := "(III)I" } : Jvm.MethodName)) ∈ kTb := kwm_4 164 rfl rfl
theorem kw_4_165 : (Jvm.Cond.code ({ cls := "MarkChains", name := "ties", desc := "(III)I" } : Jvm.MethodName) prog_1_method_20_code (4 : Nat) (Option.some Jvm.ClassFile.FieldType.int)) ∈ kTb := kwm_4 165 rfl rfl
theorem kw_4_166 : (Jvm.Cond.methodLink "MarkChains" (230 : Nat) ({ cls := "MarkChains$Line", name := "countTies", desc := "()I" } : Jvm.MethodName)) ∈ kTb := kwm_4 166 rfl rfl
theorem kw_4_167 : (Jvm.Cond.instanceMethod ({ cls := "MarkChains$Line", name := "countTies", desc := "()I" } : Jvm.MethodName)) ∈ kTb := kwm_4 167 rfl rfl
theorem kw_4_168 : (Jvm.Cond.selects "MarkChains$Line" ({ cls := "MarkChains$Line", name := "countTies", desc := "()I" } : Jvm.MethodName) ({ cls := "MarkChains$Line", name := "countTies", desc := "()I" } : Jvm.MethodName)) ∈ kTb := kwm_4 168 rfl rfl
theorem kw_4_169 : (Jvm.Cond.code ({ cls := "MarkChains$Line", name := "countTies", desc := "()I" } : Jvm.MethodName) prog_9_method_15_code (3 : Nat) (Option.some Jvm.ClassFile.FieldType.int)) ∈ kTb := kwm_4 169 rfl rfl
theorem kw_4_170 : (Jvm.Cond.methodLink "MarkChains$Line" (70 : Nat) ({ cls := "MarkChains$Line", name := "isTie", desc := "(I)Z" } : Jvm.MethodName)) ∈ kTb := kwm_4 170 rfl rfl
theorem kw_4_171 : (Jvm.Cond.instanceMethod ({ cls := "MarkChains$Line", name := "isTie", desc := "(I)Z" } : Jvm.MethodName)) ∈ kTb := kwm_4 171 rfl rfl
theorem kw_4_172 : (Jvm.Cond.selects "MarkChains$Line" ({ cls := "MarkChains$Line", name := "isTie", desc := "(I)Z" } : Jvm.MethodName) ({ cls := "MarkChains$Line", name := "isTie", desc := "(I)Z" } : Jvm.MethodName)) ∈ kTb := kwm_4 172 rfl rfl
theorem kw_4_173 : (Jvm.Cond.code ({ cls := "MarkChains$Line", name := "isTie", desc := "(I)Z" } : Jvm.MethodName) prog_9_method_14_code (2 : Nat) (Option.some Jvm.ClassFile.FieldType.boolean)) ∈ kTb := kwm_4 173 rfl rfl
theorem kw_4_174 : (Jvm.Cond.methodLink "MarkChainsLaw" (95 : Nat) ({ cls := "MarkChains", name := "held", desc := "(IIII)I" } : Jvm.MethodName)) ∈ kTb := kwm_4 174 rfl rfl
theorem kw_4_175 : (Jvm.Cond.instanceMethod ({ cls := "MarkChains", name := "held", desc := "(IIII)I" } : Jvm.MethodName)) ∈ kTb := kwm_4 175 rfl rfl
theorem kw_4_176 : (Jvm.Cond.selects "MarkChains" ({ cls := "MarkChains", name := "held", desc := "(IIII)I" } : Jvm.MethodName) ({ cls := "MarkChains", name := "held", desc := "(IIII)I" } : Jvm.MethodName)) ∈ kTb := kwm_4 176 rfl rfl
theorem kw_4_177 : (Jvm.Cond.code ({ cls := "MarkChains", name := "held", desc := "(IIII)I" } : Jvm.MethodName) prog_1_method_21_code (5 : Nat) (Option.some Jvm.ClassFile.FieldType.int)) ∈ kTb := kwm_4 177 rfl rfl
theorem kw_4_178 : (Jvm.Cond.methodLink "MarkChains" (233 : Nat) ({ cls := "MarkChains$Line", name := "daysHeldBy", desc := "(II)I" } : Jvm.MethodName)) ∈ kTb := kwm_4 178 rfl rfl
theorem kw_4_179 : (Jvm.Cond.instanceMethod ({ cls := "MarkChains$Line", name := "daysHeldBy", desc := "(II)I" } : Jvm.MethodName)) ∈ kTb := kwm_4 179 rfl rfl
theorem kw_4_180 : (Jvm.Cond.selects "MarkChains$Line" ({ cls := "MarkChains$Line", name := "daysHeldBy", desc := "(II)I" } : Jvm.MethodName) ({ cls := "MarkChains$Line", name := "daysHeldBy", desc := "(II)I" } : Jvm.MethodName)) ∈ kTb := kwm_4 180 rfl rfl
theorem kw_4_181 : (Jvm.Cond.code ({ cls := "MarkChains$Line", name := "daysHeldBy", desc := "(II)I" } : Jvm.MethodName) prog_9_method_23_code (6 : Nat) (Option.some Jvm.ClassFile.FieldType.int)) ∈ kTb := kwm_4 181 rfl rfl
theorem kw_4_182 : (Jvm.Cond.methodLink "MarkChains$Line" (87 : Nat) ({ cls := "MarkChains$Line", name := "daysOfLevel", desc := "(II)I" } : Jvm.MethodName)) ∈ kTb := kwm_4 182 rfl rfl
theorem kw_4_183 : (Jvm.Cond.instanceMethod ({ cls := "MarkChains$Line", name := "daysOfLevel", desc := "(II)I" } : Jvm.MethodName)) ∈ kTb := kwm_4 183 rfl rfl
theorem kw_4_184 : (Jvm.Cond.selects "MarkChains$Line" ({ cls := "MarkChains$Line", name := "daysOfLevel", desc := "(II)I" } : Jvm.MethodName) ({ cls := "MarkChains$Line", name := "daysOfLevel", desc := "(II)I" } : Jvm.MethodName)) ∈ kTb := kwm_4 184 rfl rfl
theorem kw_4_185 : (Jvm.Cond.code ({ cls := "MarkChains$Line", name := "daysOfLevel", desc := "(II)I" } : Jvm.MethodName) prog_9_method_21_code (3 : Nat) (Option.some Jvm.ClassFile.FieldType.int)) ∈ kTb := kwm_4 185 rfl rfl
theorem kw_4_186 : (Jvm.Cond.methodLink "MarkChains$Line" (81 : Nat) ({ cls := "MarkChains$Line", name := "levelEnd", desc := "(I)I" } : Jvm.MethodName)) ∈ kTb := kwm_4 186 rfl rfl
theorem kw_4_188 : (Jvm.Cond.instanceMethod ({ cls := "MarkChains$Line", name := "levelEnd", desc := "(I)I" } : Jvm.MethodName)) ∈ kTb := kwm_4 188 rfl rfl
theorem kw_4_189 : (Jvm.Cond.code ({ cls := "MarkChains$Line", name := "levelEnd", desc := "(I)I" } : Jvm.MethodName) prog_9_method_20_code (3 : Nat) (Option.some Jvm.ClassFile.FieldType.int)) ∈ kTb := kwm_4 189 rfl rfl
theorem kw_4_190 : (Jvm.Cond.methodLink "MarkChains$Line" (84 : Nat) ({ cls := "MarkChains$Line", name := "dayAt", desc := "(II)I" } : Jvm.MethodName)) ∈ kTb := kwm_4 190 rfl rfl
theorem kw_4_192 : (Jvm.Cond.instanceMethod ({ cls := "MarkChains$Line", name := "dayAt", desc := "(II)I" } : Jvm.MethodName)) ∈ kTb := kwm_4 192 rfl rfl
theorem kw_4_193 : (Jvm.Cond.code ({ cls := "MarkChains$Line", name := "dayAt", desc := "(II)I" } : Jvm.MethodName) prog_9_method_19_code (3 : Nat) (Option.some Jvm.ClassFile.FieldType.int)) ∈ kTb := kwm_4 193 rfl rfl
theorem kw_4_194 : (Jvm.Cond.methodLink "MarkChainsLaw" (99 : Nat) ({ cls := "MarkChains", name := "stood", desc := "(IIII)I" } : Jvm.MethodName)) ∈ kTb := kwm_4 194 rfl rfl
theorem kw_4_195 : (Jvm.Cond.instanceMethod ({ cls := "MarkChains", name := "stood", desc := "(IIII)I" } : Jvm.MethodName)) ∈ kTb := kwm_4 195 rfl rfl
theorem kw_4_196 : (Jvm.Cond.selects "MarkChains" ({ cls := "MarkChains", name := "stood", desc := "(IIII)I" } : Jvm.MethodName) ({ cls := "MarkChains", name := "stood", desc := "(IIII)I" } : Jvm.MethodName)) ∈ kTb := kwm_4 196 rfl rfl
theorem kw_4_197 : (Jvm.Cond.code ({ cls := "MarkChains", name := "stood", desc := "(IIII)I" } : Jvm.MethodName) prog_1_method_22_code (6 : Nat) (Option.some Jvm.ClassFile.FieldType.int)) ∈ kTb := kwm_4 197 rfl rfl
theorem kw_4_198 : (Jvm.Cond.methodLink "MarkChains" (236 : Nat) ({ cls := "MarkChains$Line", name := "longestLevel", desc := "(I)I" } : Jvm.MethodName)) ∈ kTb := kwm_4 198 rfl rfl
theorem kw_4_199 : (Jvm.Cond.instanceMethod ({ cls := "MarkChains$Line", name := "longestLevel", desc := "(I)I" } : Jvm.MethodName)) ∈ kTb := kwm_4 199 rfl rfl
theorem kw_4_200 : (Jvm.Cond.selects "MarkChains$Line" ({ cls := "MarkChains$Line", name := "longestLevel", desc := "(I)I" } : Jvm.MethodName) ({ cls := "MarkChains$Line", name := "longestLevel", desc := "(I)I" } : Jvm.MethodName)) ∈ kTb := kwm_4 200 rfl rfl
theorem kw_4_201 : (Jvm.Cond.code ({ cls := "MarkChains$Line", name := "longestLevel", desc := "(I)I" } : Jvm.MethodName) prog_9_method_22_code (4 : Nat) (Option.some Jvm.ClassFile.FieldType.int)) ∈ kTb := kwm_4 201 rfl rfl
theorem kw_4_202 : (Jvm.Cond.methodLink "MarkChains" (239 : Nat) ({ cls := "MarkChains$Line", name := "daysOfLevel", desc := "(II)I" } : Jvm.MethodName)) ∈ kTb := kwm_4 202 rfl rfl
theorem kw_4_203 : (Jvm.Cond.methodLink "MarkChainsLaw" (103 : Nat) ({ cls := "MarkChains", name := "altered", desc := "(IIII)I" } : Jvm.MethodName)) ∈ kTb := kwm_4 203 rfl rfl
theorem kw_4_204 : (Jvm.Cond.instanceMethod ({ cls := "MarkChains", name := "altered", desc := "(IIII)I" } : Jvm.MethodName)) ∈ kTb := kwm_4 204 rfl rfl
theorem kw_4_205 : (Jvm.Cond.selects "MarkChains" ({ cls := "MarkChains", name := "altered", desc := "(IIII)I" } : Jvm.MethodName) ({ cls := "MarkChains", name := "altered", desc := "(IIII)I" } : Jvm.MethodName)) ∈ kTb := kwm_4 205 rfl rfl
theorem kw_4_206 : (Jvm.Cond.code ({ cls := "MarkChains", name := "altered", desc := "(IIII)I" } : Jvm.MethodName) prog_1_method_23_code (7 : Nat) (Option.some Jvm.ClassFile.FieldType.int)) ∈ kTb := kwm_4 206 rfl rfl
theorem kw_4_207 : (Jvm.Cond.methodLink "MarkChains" (255 : Nat) ({ cls := "MarkChains$Line", name := "countNotIn", desc := "(LMarkChains$Line;)I" } : Jvm.MethodName)) ∈ kTb := kwm_4 207 rfl rfl
theorem kw_4_208 : (Jvm.Cond.instanceMethod ({ cls := "MarkChains$Line", name := "countNotIn", desc := "(LMarkChains$Line;)I" } : Jvm.MethodName)) ∈ kTb := kwm_4 208 rfl rfl
theorem kw_4_209 : (Jvm.Cond.selects "MarkChains$Line" ({ cls := "MarkChains$Line", name := "countNotIn", desc := "(LMarkChains$Line;)I" } : Jvm.MethodName) ({ cls := "MarkChains$Line", name := "countNotIn", desc := "(LMarkChains$Line;)I" } : Jvm.MethodName)) ∈ kTb := kwm_4 209 rfl rfl
theorem kw_4_210 : (Jvm.Cond.code ({ cls := "MarkChains$Line", name := "countNotIn", desc := "(LMarkChains$Line;)I" } : Jvm.MethodName) prog_9_method_10_code (4 : Nat) (Option.some Jvm.ClassFile.FieldType.int)) ∈ kTb := kwm_4 210 rfl rfl
theorem kw_4_211 : (Jvm.Cond.methodLink "MarkChains$Line" (59 : Nat) ({ cls := "MarkChains$Line", name := "placeOf", desc := "(I)I" } : Jvm.MethodName)) ∈ kTb := kwm_4 211 rfl rfl
theorem kw_4_212 : (Jvm.Cond.instanceMethod ({ cls := "MarkChains$Line", name := "placeOf", desc := "(I)I" } : Jvm.MethodName)) ∈ kTb := kwm_4 212 rfl rfl
theorem kw_4_213 : (Jvm.Cond.selects "MarkChains$Line" ({ cls := "MarkChains$Line", name := "placeOf", desc := "(I)I" } : Jvm.MethodName) ({ cls := "MarkChains$Line", name := "placeOf", desc := "(I)I" } : Jvm.MethodName)) ∈ kTb := kwm_4 213 rfl rfl
theorem kw_4_214 : (Jvm.Cond.code ({ cls := "MarkChains$Line", name := "placeOf", desc := "(I)I" } : Jvm.MethodName) prog_9_method_9_code (3 : Nat) (Option.some Jvm.ClassFile.FieldType.int)) ∈ kTb := kwm_4 214 rfl rfl
theorem kw_4_215 : (Jvm.Cond.methodLink "MarkChains" (259 : Nat) ({ cls := "MarkChains$Line", name := "lowestNotIn", desc := "(LMarkChains$Line;)I" } : Jvm.MethodName)) ∈ kTb := kwm_4 215 rfl rfl
theorem kw_4_216 : (Jvm.Cond.instanceMethod ({ cls := "MarkChains$Line", name := "lowestNotIn", desc := "(LMarkChains$Line;)I" } : Jvm.MethodName)) ∈ kTb := kwm_4 216 rfl rfl
theorem kw_4_217 : (Jvm.Cond.selects "MarkChains$Line" ({ cls := "MarkChains$Line", name := "lowestNotIn", desc := "(LMarkChains$Line;)I" } : Jvm.MethodName) ({ cls := "MarkChains$Line", name := "lowestNotIn", desc := "(LMarkChains$Line;)I" } : Jvm.MethodName)) ∈ kTb := kwm_4 217 rfl rfl
theorem kw_4_218 : (Jvm.Cond.code ({ cls := "MarkChains$Line", name := "lowestNotIn", desc := "(LMarkChains$Line;)I" } : Jvm.MethodName) prog_9_method_11_code (5 : Nat) (Option.some Jvm.ClassFile.FieldType.int)) ∈ kTb := kwm_4 218 rfl rfl
theorem kw_4_219 : (Jvm.Cond.methodLink "MarkChainsLaw" (107 : Nat) ({ cls := "MarkChains", name := "list", desc := "(IIII)I" } : Jvm.MethodName)) ∈ kTb := kwm_4 219 rfl rfl
theorem kw_4_220 : (Jvm.Cond.instanceMethod ({ cls := "MarkChains", name := "list", desc := "(IIII)I" } : Jvm.MethodName)) ∈ kTb := kwm_4 220 rfl rfl
theorem kw_4_221 : (Jvm.Cond.selects "MarkChains" ({ cls := "MarkChains", name := "list", desc := "(IIII)I" } : Jvm.MethodName) ({ cls := "MarkChains", name := "list", desc := "(IIII)I" } : Jvm.MethodName)) ∈ kTb := kwm_4 221 rfl rfl
theorem kw_4_222 : (Jvm.Cond.code ({ cls := "MarkChains", name := "list", desc := "(IIII)I" } : Jvm.MethodName) prog_1_method_24_code (5 : Nat) (Option.some Jvm.ClassFile.FieldType.int)) ∈ kTb := kwm_4 222 rfl rfl
theorem kw_4_223 : (Jvm.Cond.methodLink "MarkChains" (262 : Nat) ({ cls := "MarkChains$Line", name := "fillWithList", desc := "(III)V" } : Jvm.MethodName)) ∈ kTb := kwm_4 223 rfl rfl
theorem kw_4_224 : (Jvm.Cond.instanceMethod ({ cls := "MarkChains$Line", name := "fillWithList", desc := "(III)V" } : Jvm.MethodName)) ∈ kTb := kwm_4 224 rfl rfl
theorem kw_4_225 : (Jvm.Cond.selects "MarkChains$Line" ({ cls := "MarkChains$Line", name := "fillWithList", desc := "(III)V" } : Jvm.MethodName) ({ cls := "MarkChains$Line", name := "fillWithList", desc := "(III)V" } : Jvm.MethodName)) ∈ kTb := kwm_4 225 rfl rfl
theorem kw_4_226 : (Jvm.Cond.code ({ cls := "MarkChains$Line", name := "fillWithList", desc := "(III)V" } : Jvm.MethodName) prog_9_method_3_code (7 : Nat) (Option.none : Option Jvm.ClassFile.FieldType)) ∈ kTb := kwm_4 226 rfl rfl
theorem kw_4_227 : (Jvm.Cond.methodLink "MarkChains$Line" (44 : Nat) ({ cls := "java/util/Arrays", name := "fill", desc := "([II)V" } : Jvm.MethodName)) ∈ kTb := kwm_4 227 rfl rfl
theorem kw_4_228 : (Jvm.Cond.static ({ cls := "java/util/Arrays", name := "fill", desc := "([II)V" } : Jvm.MethodName)) ∈ kTb := kwm_4 228 rfl rfl
theorem kw_4_229 : (Jvm.Cond.code ({ cls := "java/util/Arrays", name := "fill", desc := "([II)V" } : Jvm.MethodName) prog_22_method_103_code (4 : Nat) (Option.none : Option Jvm.ClassFile.FieldType)) ∈ kTb := kwm_4 229 rfl rfl
theorem kw_4_230 : (Jvm.Cond.methodLink "MarkChains$Line" (53 : Nat) ({ cls := "MarkChains$Line", name := "insertByValue", desc := "(I)V" } : Jvm.MethodName)) ∈ kTb := kwm_4 230 rfl rfl
theorem kw_4_232 : (Jvm.Cond.instanceMethod ({ cls := "MarkChains$Line", name := "insertByValue", desc := "(I)V" } : Jvm.MethodName)) ∈ kTb := kwm_4 232 rfl rfl
theorem kw_4_233 : (Jvm.Cond.code ({ cls := "MarkChains$Line", name := "insertByValue", desc := "(I)V" } : Jvm.MethodName) prog_9_method_7_code (3 : Nat) (Option.none : Option Jvm.ClassFile.FieldType)) ∈ kTb := kwm_4 233 rfl rfl
theorem kw_4_234 : (Jvm.Cond.methodLink "MarkChainsLaw" (111 : Nat) ({ cls := "MarkChains", name := "rank", desc := "(II)I" } : Jvm.MethodName)) ∈ kTb := kwm_4 234 rfl rfl
theorem kw_4_235 : (Jvm.Cond.instanceMethod ({ cls := "MarkChains", name := "rank", desc := "(II)I" } : Jvm.MethodName)) ∈ kTb := kwm_4 235 rfl rfl
theorem kw_4_236 : (Jvm.Cond.selects "MarkChains" ({ cls := "MarkChains", name := "rank", desc := "(II)I" } : Jvm.MethodName) ({ cls := "MarkChains", name := "rank", desc := "(II)I" } : Jvm.MethodName)) ∈ kTb := kwm_4 236 rfl rfl
theorem kw_4_237 : (Jvm.Cond.code ({ cls := "MarkChains", name := "rank", desc := "(II)I" } : Jvm.MethodName) prog_1_method_25_code (3 : Nat) (Option.some Jvm.ClassFile.FieldType.int)) ∈ kTb := kwm_4 237 rfl rfl
theorem kw_4_238 : (Jvm.Cond.methodLink "MarkChains" (269 : Nat) ({ cls := "MarkChains$Line", name := "placeOf", desc := "(I)I" } : Jvm.MethodName)) ∈ kTb := kwm_4 238 rfl rfl
theorem kw_4_239 : (Jvm.Cond.methodLink "MarkChainsLaw" (115 : Nat) ({ cls := "MarkChains", name := "wished", desc := "(III)I" } : Jvm.MethodName)) ∈ kTb := kwm_4 239 rfl rfl
theorem kw_5_0 : (Jvm.Cond.instanceMethod ({ cls := "MarkChains", name := "wished", desc := "(III)I" } : Jvm.MethodName)) ∈ kTb := kwm_5 0 rfl rfl
theorem kw_5_1 : (Jvm.Cond.selects "MarkChains" ({ cls := "MarkChains", name := "wished", desc := "(III)I" } : Jvm.MethodName) ({ cls := "MarkChains", name := "wished", desc := "(III)I" } : Jvm.MethodName)) ∈ kTb := kwm_5 1 rfl rfl
theorem kw_5_2 : (Jvm.Cond.code ({ cls := "MarkChains", name := "wished", desc := "(III)I" } : Jvm.MethodName) prog_1_method_26_code (5 : Nat) (Option.some Jvm.ClassFile.FieldType.int)) ∈ kTb := kwm_5 2 rfl rfl
theorem kw_5_3 : (Jvm.Cond.methodLink "MarkChains" (273 : Nat) ({ cls := "MarkChains$Book", name := "isMoreBetter", desc := "(I)Z" } : Jvm.MethodName)) ∈ kTb := kwm_5 3 rfl rfl
theorem kw_5_4 : (Jvm.Cond.constant "MarkChains" (276 : Nat) (1000000 : Int32)) ∈ kTb := kwm_5 4 rfl rfl
theorem kw_5_5 : (Jvm.Cond.methodLink "MarkChainsLaw" (119 : Nat) ({ cls := "MarkChains", name := "would", desc := "(I)I" } : Jvm.MethodName)) ∈ kTb := kwm_5 5 rfl rfl
theorem kw_5_6 : (Jvm.Cond.instanceMethod ({ cls := "MarkChains", name := "would", desc := "(I)I" } : Jvm.MethodName)) ∈ kTb := kwm_5 6 rfl rfl
theorem kw_5_7 : (Jvm.Cond.selects "MarkChains" ({ cls := "MarkChains", name := "would", desc := "(I)I" } : Jvm.MethodName) ({ cls := "MarkChains", name := "would", desc := "(I)I" } : Jvm.MethodName)) ∈ kTb := kwm_5 7 rfl rfl
theorem kw_5_8 : (Jvm.Cond.code ({ cls := "MarkChains", name := "would", desc := "(I)I" } : Jvm.MethodName) prog_1_method_27_code (4 : Nat) (Option.some Jvm.ClassFile.FieldType.int)) ∈ kTb := kwm_5 8 rfl rfl
theorem kw_5_9 : (Jvm.Cond.methodLink "MarkChains" (277 : Nat) ({ cls := "MarkChains$Book", name := "firstBetterAhead", desc := "(III)I" } : Jvm.MethodName)) ∈ kTb := kwm_5 9 rfl rfl
theorem kw_5_10 : (Jvm.Cond.instanceMethod ({ cls := "MarkChains$Book", name := "firstBetterAhead", desc := "(III)I" } : Jvm.MethodName)) ∈ kTb := kwm_5 10 rfl rfl
theorem kw_5_11 : (Jvm.Cond.selects "MarkChains$Book" ({ cls := "MarkChains$Book", name := "firstBetterAhead", desc := "(III)I" } : Jvm.MethodName) ({ cls := "MarkChains$Book", name := "firstBetterAhead", desc := "(III)I" } : Jvm.MethodName)) ∈ kTb := kwm_5 11 rfl rfl
theorem kw_5_12 : (Jvm.Cond.code ({ cls := "MarkChains$Book", name := "firstBetterAhead", desc := "(III)I" } : Jvm.MethodName) prog_3_method_23_code (6 : Nat) (Option.some Jvm.ClassFile.FieldType.int)) ∈ kTb := kwm_5 12 rfl rfl
theorem kw_5_13 : (Jvm.Cond.methodLink "MarkChains$Book" (128 : Nat) ({ cls := "MarkChains$Book", name := "isListed", desc := "(IIII)Z" } : Jvm.MethodName)) ∈ kTb := kwm_5 13 rfl rfl
theorem kw_5_14 : (Jvm.Cond.methodLink "MarkChains$Book" (132 : Nat) ({ cls := "MarkChains$Book", name := "isBetter", desc := "(II)Z" } : Jvm.MethodName)) ∈ kTb := kwm_5 14 rfl rfl
theorem kw_5_15 : (Jvm.Cond.methodLink "MarkChainsLaw" (123 : Nat) ({ cls := "MarkChains", name := "score", desc := "()I" } : Jvm.MethodName)) ∈ kTb := kwm_5 15 rfl rfl
theorem kw_5_16 : (Jvm.Cond.instanceMethod ({ cls := "MarkChains", name := "score", desc := "()I" } : Jvm.MethodName)) ∈ kTb := kwm_5 16 rfl rfl
theorem kw_5_17 : (Jvm.Cond.selects "MarkChains" ({ cls := "MarkChains", name := "score", desc := "()I" } : Jvm.MethodName) ({ cls := "MarkChains", name := "score", desc := "()I" } : Jvm.MethodName)) ∈ kTb := kwm_5 17 rfl rfl
theorem kw_5_18 : (Jvm.Cond.code ({ cls := "MarkChains", name := "score", desc := "()I" } : Jvm.MethodName) prog_1_method_28_code (2 : Nat) (Option.some Jvm.ClassFile.FieldType.int)) ∈ kTb := kwm_5 18 rfl rfl
theorem kw_5_19 : (Jvm.Cond.methodLink "MarkChains" (281 : Nat) ({ cls := "MarkChains$FormulaReader", name := "readScore", desc := "()LMarkChains$Formula;" } : Jvm.MethodName)) ∈ kTb := kwm_5 19 rfl rfl
theorem kw_5_20 : (Jvm.Cond.instanceMethod ({ cls := "MarkChains$FormulaReader", name := "readScore", desc := "()LMarkChains$Formula;" } : Jvm.MethodName)) ∈ kTb := kwm_5 20 rfl rfl
theorem kw_5_21 : (Jvm.Cond.selects "MarkChains$FormulaReader" ({ cls := "MarkChains$FormulaReader", name := "readScore", desc := "()LMarkChains$Formula;" } : Jvm.MethodName) ({ cls := "MarkChains$FormulaReader", name := "readScore", desc := "()LMarkChains$Formula;" } : Jvm.MethodName)) ∈ kTb := kwm_5 21 rfl rfl
theorem kw_5_22 : (Jvm.Cond.code ({ cls := "MarkChains$FormulaReader", name := "readScore", desc := "()LMarkChains$Formula;" } : Jvm.MethodName) prog_7_method_3_code (2 : Nat) (Option.some (Jvm.ClassFile.FieldType.object "MarkChains$Formula"))) ∈ kTb := kwm_5 22 rfl rfl
theorem kw_5_23 : (Jvm.Cond.methodLink "MarkChainsLaw" (127 : Nat) ({ cls := "MarkChains", name := "points", desc := "(I)I" } : Jvm.MethodName)) ∈ kTb := kwm_5 23 rfl rfl
theorem kw_5_24 : (Jvm.Cond.instanceMethod ({ cls := "MarkChains", name := "points", desc := "(I)I" } : Jvm.MethodName)) ∈ kTb := kwm_5 24 rfl rfl
theorem kw_5_25 : (Jvm.Cond.selects "MarkChains" ({ cls := "MarkChains", name := "points", desc := "(I)I" } : Jvm.MethodName) ({ cls := "MarkChains", name := "points", desc := "(I)I" } : Jvm.MethodName)) ∈ kTb := kwm_5 25 rfl rfl
theorem kw_5_26 : (Jvm.Cond.code ({ cls := "MarkChains", name := "points", desc := "(I)I" } : Jvm.MethodName) prog_1_method_29_code (2 : Nat) (Option.some Jvm.ClassFile.FieldType.int)) ∈ kTb := kwm_5 26 rfl rfl
theorem kw_5_27 : (Jvm.Cond.methodLink "MarkChains" (287 : Nat) ({ cls := "MarkChains", name := "pointsOf", desc := "(I)I" } : Jvm.MethodName)) ∈ kTb := kwm_5 27 rfl rfl
theorem kw_5_29 : (Jvm.Cond.instanceMethod ({ cls := "MarkChains", name := "pointsOf", desc := "(I)I" } : Jvm.MethodName)) ∈ kTb := kwm_5 29 rfl rfl
theorem kw_5_30 : (Jvm.Cond.code ({ cls := "MarkChains", name := "pointsOf", desc := "(I)I" } : Jvm.MethodName) prog_1_method_57_code (3 : Nat) (Option.some Jvm.ClassFile.FieldType.int)) ∈ kTb := kwm_5 30 rfl rfl
theorem kw_5_31 : (Jvm.Cond.methodLink "MarkChains" (391 : Nat) ({ cls := "java/lang/Math", name := "max", desc := "(II)I" } : Jvm.MethodName)) ∈ kTb := kwm_5 31 rfl rfl
theorem kw_5_32 : (Jvm.Cond.methodLink "MarkChainsLaw" (131 : Nat) ({ cls := "MarkChains", name := "champion", desc := "(II)I" } : Jvm.MethodName)) ∈ kTb := kwm_5 32 rfl rfl
theorem kw_5_33 : (Jvm.Cond.instanceMethod ({ cls := "MarkChains", name := "champion", desc := "(II)I" } : Jvm.MethodName)) ∈ kTb := kwm_5 33 rfl rfl
theorem kw_5_34 : (Jvm.Cond.selects "MarkChains" ({ cls := "MarkChains", name := "champion", desc := "(II)I" } : Jvm.MethodName) ({ cls := "MarkChains", name := "champion", desc := "(II)I" } : Jvm.MethodName)) ∈ kTb := kwm_5 34 rfl rfl
theorem kw_5_35 : (Jvm.Cond.code ({ cls := "MarkChains", name := "champion", desc := "(II)I" } : Jvm.MethodName) prog_1_method_30_code (7 : Nat) (Option.some Jvm.ClassFile.FieldType.int)) ∈ kTb := kwm_5 35 rfl rfl
theorem kw_5_36 : (Jvm.Cond.methodLink "MarkChains" (290 : Nat) ({ cls := "MarkChains", name := "sumOfBest", desc := "(III)I" } : Jvm.MethodName)) ∈ kTb := kwm_5 36 rfl rfl
theorem kw_5_38 : (Jvm.Cond.instanceMethod ({ cls := "MarkChains", name := "sumOfBest", desc := "(III)I" } : Jvm.MethodName)) ∈ kTb := kwm_5 38 rfl rfl
theorem kw_5_39 : (Jvm.Cond.code ({ cls := "MarkChains", name := "sumOfBest", desc := "(III)I" } : Jvm.MethodName) prog_1_method_58_code (9 : Nat) (Option.some Jvm.ClassFile.FieldType.int)) ∈ kTb := kwm_5 39 rfl rfl
theorem kw_5_40 : (Jvm.Cond.methodLink "MarkChains" (394 : Nat) ({ cls := "java/util/Arrays", name := "fill", desc := "([II)V" } : Jvm.MethodName)) ∈ kTb := kwm_5 40 rfl rfl
theorem kw_5_41 : (Jvm.Cond.methodLink "MarkChains" (400 : Nat) ({ cls := "MarkChains$Book", name := "isStanding", desc := "(II)Z" } : Jvm.MethodName)) ∈ kTb := kwm_5 41 rfl rfl
theorem kw_5_42 : (Jvm.Cond.methodLink "MarkChainsLaw" (135 : Nat) ({ cls := "MarkChains", name := "table", desc := "(II)I" } : Jvm.MethodName)) ∈ kTb := kwm_5 42 rfl rfl
theorem kw_5_43 : (Jvm.Cond.instanceMethod ({ cls := "MarkChains", name := "table", desc := "(II)I" } : Jvm.MethodName)) ∈ kTb := kwm_5 43 rfl rfl
theorem kw_5_44 : (Jvm.Cond.selects "MarkChains" ({ cls := "MarkChains", name := "table", desc := "(II)I" } : Jvm.MethodName) ({ cls := "MarkChains", name := "table", desc := "(II)I" } : Jvm.MethodName)) ∈ kTb := kwm_5 44 rfl rfl
theorem kw_5_45 : (Jvm.Cond.code ({ cls := "MarkChains", name := "table", desc := "(II)I" } : Jvm.MethodName) prog_1_method_31_code (3 : Nat) (Option.some Jvm.ClassFile.FieldType.int)) ∈ kTb := kwm_5 45 rfl rfl
theorem kw_5_46 : (Jvm.Cond.methodLink "MarkChainsLaw" (139 : Nat) ({ cls := "MarkChains", name := "placed", desc := "(I)I" } : Jvm.MethodName)) ∈ kTb := kwm_5 46 rfl rfl
theorem kw_5_47 : (Jvm.Cond.instanceMethod ({ cls := "MarkChains", name := "placed", desc := "(I)I" } : Jvm.MethodName)) ∈ kTb := kwm_5 47 rfl rfl
theorem kw_5_48 : (Jvm.Cond.selects "MarkChains" ({ cls := "MarkChains", name := "placed", desc := "(I)I" } : Jvm.MethodName) ({ cls := "MarkChains", name := "placed", desc := "(I)I" } : Jvm.MethodName)) ∈ kTb := kwm_5 48 rfl rfl
theorem kw_5_49 : (Jvm.Cond.code ({ cls := "MarkChains", name := "placed", desc := "(I)I" } : Jvm.MethodName) prog_1_method_32_code (4 : Nat) (Option.some Jvm.ClassFile.FieldType.int)) ∈ kTb := kwm_5 49 rfl rfl
theorem kw_5_50 : (Jvm.Cond.methodLink "MarkChains" (293 : Nat) ({ cls := "MarkChains$Book", name := "isMet", desc := "(II)Z" } : Jvm.MethodName)) ∈ kTb := kwm_5 50 rfl rfl
theorem kw_5_51 : (Jvm.Cond.instanceMethod ({ cls := "MarkChains$Book", name := "isMet", desc := "(II)Z" } : Jvm.MethodName)) ∈ kTb := kwm_5 51 rfl rfl
theorem kw_5_52 : (Jvm.Cond.selects "MarkChains$Book" ({ cls := "MarkChains$Book", name := "isMet", desc := "(II)Z" } : Jvm.MethodName) ({ cls := "MarkChains$Book", name := "isMet", desc := "(II)Z" } : Jvm.MethodName)) ∈ kTb := kwm_5 52 rfl rfl
theorem kw_5_53 : (Jvm.Cond.code ({ cls := "MarkChains$Book", name := "isMet", desc := "(II)Z" } : Jvm.MethodName) prog_3_method_25_code (3 : Nat) (Option.some Jvm.ClassFile.FieldType.boolean)) ∈ kTb := kwm_5 53 rfl rfl
theorem kw_5_54 : (Jvm.Cond.methodLink "MarkChains" (296 : Nat) ({ cls := "MarkChains$Book", name := "isBetter", desc := "(II)Z" } : Jvm.MethodName)) ∈ kTb := kwm_5 54 rfl rfl
theorem kw_5_55 : (Jvm.Cond.methodLink "MarkChainsLaw" (143 : Nat) ({ cls := "MarkChains", name := "duel", desc := "(II)I" } : Jvm.MethodName)) ∈ kTb := kwm_5 55 rfl rfl
theorem kw_5_56 : (Jvm.Cond.instanceMethod ({ cls := "MarkChains", name := "duel", desc := "(II)I" } : Jvm.MethodName)) ∈ kTb := kwm_5 56 rfl rfl
theorem kw_5_57 : (Jvm.Cond.selects "MarkChains" ({ cls := "MarkChains", name := "duel", desc := "(II)I" } : Jvm.MethodName) ({ cls := "MarkChains", name := "duel", desc := "(II)I" } : Jvm.MethodName)) ∈ kTb := kwm_5 57 rfl rfl
theorem kw_5_58 : (Jvm.Cond.code ({ cls := "MarkChains", name := "duel", desc := "(II)I" } : Jvm.MethodName) prog_1_method_33_code (6 : Nat) (Option.some Jvm.ClassFile.FieldType.int)) ∈ kTb := kwm_5 58 rfl rfl
theorem kw_5_59 : (Jvm.Cond.methodLink "MarkChains" (299 : Nat) ({ cls := "MarkChains$Book", name := "bestInMeeting", desc := "(II)I" } : Jvm.MethodName)) ∈ kTb := kwm_5 59 rfl rfl
theorem kw_5_60 : (Jvm.Cond.instanceMethod ({ cls := "MarkChains$Book", name := "bestInMeeting", desc := "(II)I" } : Jvm.MethodName)) ∈ kTb := kwm_5 60 rfl rfl
theorem kw_5_61 : (Jvm.Cond.selects "MarkChains$Book" ({ cls := "MarkChains$Book", name := "bestInMeeting", desc := "(II)I" } : Jvm.MethodName) ({ cls := "MarkChains$Book", name := "bestInMeeting", desc := "(II)I" } : Jvm.MethodName)) ∈ kTb := kwm_5 61 rfl rfl
theorem kw_5_62 : (Jvm.Cond.code ({ cls := "MarkChains$Book", name := "bestInMeeting", desc := "(II)I" } : Jvm.MethodName) prog_3_method_26_code (5 : Nat) (Option.some Jvm.ClassFile.FieldType.int)) ∈ kTb := kwm_5 62 rfl rfl
theorem kw_5_63 : (Jvm.Cond.methodLink "MarkChains$Book" (139 : Nat) ({ cls := "MarkChains$Book", name := "isMet", desc := "(II)Z" } : Jvm.MethodName)) ∈ kTb := kwm_5 63 rfl rfl
theorem kw_5_64 : (Jvm.Cond.methodLink "MarkChainsLaw" (147 : Nat) ({ cls := "MarkChains", name := "progress", desc := "(IIII)I" } : Jvm.MethodName)) ∈ kTb := kwm_5 64 rfl rfl
theorem kw_5_65 : (Jvm.Cond.instanceMethod ({ cls := "MarkChains", name := "progress", desc := "(IIII)I" } : Jvm.MethodName)) ∈ kTb := kwm_5 65 rfl rfl
theorem kw_5_66 : (Jvm.Cond.selects "MarkChains" ({ cls := "MarkChains", name := "progress", desc := "(IIII)I" } : Jvm.MethodName) ({ cls := "MarkChains", name := "progress", desc := "(IIII)I" } : Jvm.MethodName)) ∈ kTb := kwm_5 66 rfl rfl
theorem kw_5_67 : (Jvm.Cond.code ({ cls := "MarkChains", name := "progress", desc := "(IIII)I" } : Jvm.MethodName) prog_1_method_34_code (6 : Nat) (Option.some Jvm.ClassFile.FieldType.int)) ∈ kTb := kwm_5 67 rfl rfl
theorem kw_5_68 : (Jvm.Cond.methodLink "MarkChains" (302 : Nat) ({ cls := "MarkChains$Line", name := "wholeGain", desc := "()I" } : Jvm.MethodName)) ∈ kTb := kwm_5 68 rfl rfl
theorem kw_5_69 : (Jvm.Cond.instanceMethod ({ cls := "MarkChains$Line", name := "wholeGain", desc := "()I" } : Jvm.MethodName)) ∈ kTb := kwm_5 69 rfl rfl
theorem kw_5_70 : (Jvm.Cond.selects "MarkChains$Line" ({ cls := "MarkChains$Line", name := "wholeGain", desc := "()I" } : Jvm.MethodName) ({ cls := "MarkChains$Line", name := "wholeGain", desc := "()I" } : Jvm.MethodName)) ∈ kTb := kwm_5 70 rfl rfl
theorem kw_5_71 : (Jvm.Cond.code ({ cls := "MarkChains$Line", name := "wholeGain", desc := "()I" } : Jvm.MethodName) prog_9_method_17_code (1 : Nat) (Option.some Jvm.ClassFile.FieldType.int)) ∈ kTb := kwm_5 71 rfl rfl
theorem kw_5_72 : (Jvm.Cond.methodLink "MarkChains$Line" (74 : Nat) ({ cls := "MarkChains$Book", name := "gainOver", desc := "(II)I" } : Jvm.MethodName)) ∈ kTb := kwm_5 72 rfl rfl
theorem kw_5_73 : (Jvm.Cond.methodLink "MarkChains" (305 : Nat) ({ cls := "MarkChains$Line", name := "widestStep", desc := "()I" } : Jvm.MethodName)) ∈ kTb := kwm_5 73 rfl rfl
theorem kw_5_74 : (Jvm.Cond.instanceMethod ({ cls := "MarkChains$Line", name := "widestStep", desc := "()I" } : Jvm.MethodName)) ∈ kTb := kwm_5 74 rfl rfl
theorem kw_5_75 : (Jvm.Cond.selects "MarkChains$Line" ({ cls := "MarkChains$Line", name := "widestStep", desc := "()I" } : Jvm.MethodName) ({ cls := "MarkChains$Line", name := "widestStep", desc := "()I" } : Jvm.MethodName)) ∈ kTb := kwm_5 75 rfl rfl
theorem kw_5_76 : (Jvm.Cond.code ({ cls := "MarkChains$Line", name := "widestStep", desc := "()I" } : Jvm.MethodName) prog_9_method_18_code (3 : Nat) (Option.some Jvm.ClassFile.FieldType.int)) ∈ kTb := kwm_5 76 rfl rfl
theorem kw_5_77 : (Jvm.Cond.methodLink "MarkChains$Line" (78 : Nat) ({ cls := "MarkChains$Line", name := "stepAt", desc := "(I)I" } : Jvm.MethodName)) ∈ kTb := kwm_5 77 rfl rfl
theorem kw_5_78 : (Jvm.Cond.instanceMethod ({ cls := "MarkChains$Line", name := "stepAt", desc := "(I)I" } : Jvm.MethodName)) ∈ kTb := kwm_5 78 rfl rfl
theorem kw_5_79 : (Jvm.Cond.selects "MarkChains$Line" ({ cls := "MarkChains$Line", name := "stepAt", desc := "(I)I" } : Jvm.MethodName) ({ cls := "MarkChains$Line", name := "stepAt", desc := "(I)I" } : Jvm.MethodName)) ∈ kTb := kwm_5 79 rfl rfl
theorem kw_5_80 : (Jvm.Cond.code ({ cls := "MarkChains$Line", name := "stepAt", desc := "(I)I" } : Jvm.MethodName) prog_9_method_16_code (2 : Nat) (Option.some Jvm.ClassFile.FieldType.int)) ∈ kTb := kwm_5 80 rfl rfl
theorem kw_5_81 : (Jvm.Cond.methodLink "MarkChains" (308 : Nat) ({ cls := "MarkChains$Line", name := "stepAt", desc := "(I)I" } : Jvm.MethodName)) ∈ kTb := kwm_5 81 rfl rfl
theorem kw_5_82 : (Jvm.Cond.methodLink "MarkChainsLaw" (151 : Nat) ({ cls := "MarkChains", name := "since", desc := "(II)I" } : Jvm.MethodName)) ∈ kTb := kwm_5 82 rfl rfl
theorem kw_5_83 : (Jvm.Cond.instanceMethod ({ cls := "MarkChains", name := "since", desc := "(II)I" } : Jvm.MethodName)) ∈ kTb := kwm_5 83 rfl rfl
theorem kw_5_84 : (Jvm.Cond.selects "MarkChains" ({ cls := "MarkChains", name := "since", desc := "(II)I" } : Jvm.MethodName) ({ cls := "MarkChains", name := "since", desc := "(II)I" } : Jvm.MethodName)) ∈ kTb := kwm_5 84 rfl rfl
theorem kw_5_85 : (Jvm.Cond.code ({ cls := "MarkChains", name := "since", desc := "(II)I" } : Jvm.MethodName) prog_1_method_35_code (3 : Nat) (Option.some Jvm.ClassFile.FieldType.int)) ∈ kTb := kwm_5 85 rfl rfl
theorem kw_5_86 : (Jvm.Cond.methodLink "MarkChains" (311 : Nat) ({ cls := "MarkChains$Book", name := "firstDayInChain", desc := "(II)I" } : Jvm.MethodName)) ∈ kTb := kwm_5 86 rfl rfl
theorem kw_5_87 : (Jvm.Cond.instanceMethod ({ cls := "MarkChains$Book", name := "firstDayInChain", desc := "(II)I" } : Jvm.MethodName)) ∈ kTb := kwm_5 87 rfl rfl
theorem kw_5_88 : (Jvm.Cond.selects "MarkChains$Book" ({ cls := "MarkChains$Book", name := "firstDayInChain", desc := "(II)I" } : Jvm.MethodName) ({ cls := "MarkChains$Book", name := "firstDayInChain", desc := "(II)I" } : Jvm.MethodName)) ∈ kTb := kwm_5 88 rfl rfl
theorem kw_5_89 : (Jvm.Cond.code ({ cls := "MarkChains$Book", name := "firstDayInChain", desc := "(II)I" } : Jvm.MethodName) prog_3_method_24_code (6 : Nat) (Option.some Jvm.ClassFile.FieldType.int)) ∈ kTb := kwm_5 89 rfl rfl
theorem kw_5_90 : (Jvm.Cond.methodLink "MarkChains$Book" (135 : Nat) ({ cls := "MarkChains$Book", name := "firstBetterAhead", desc := "(III)I" } : Jvm.MethodName)) ∈ kTb := kwm_5 90 rfl rfl
theorem kw_5_91 : (Jvm.Cond.methodLink "MarkChainsLaw" (155 : Nat) ({ cls := "MarkChains", name := "without", desc := "(III)I" } : Jvm.MethodName)) ∈ kTb := kwm_5 91 rfl rfl
theorem kw_5_92 : (Jvm.Cond.instanceMethod ({ cls := "MarkChains", name := "without", desc := "(III)I" } : Jvm.MethodName)) ∈ kTb := kwm_5 92 rfl rfl
theorem kw_5_93 : (Jvm.Cond.selects "MarkChains" ({ cls := "MarkChains", name := "without", desc := "(III)I" } : Jvm.MethodName) ({ cls := "MarkChains", name := "without", desc := "(III)I" } : Jvm.MethodName)) ∈ kTb := kwm_5 93 rfl rfl
theorem kw_5_94 : (Jvm.Cond.code ({ cls := "MarkChains", name := "without", desc := "(III)I" } : Jvm.MethodName) prog_1_method_36_code (4 : Nat) (Option.some Jvm.ClassFile.FieldType.int)) ∈ kTb := kwm_5 94 rfl rfl
theorem kw_5_95 : (Jvm.Cond.methodLink "MarkChainsLaw" (159 : Nat) ({ cls := "MarkChains", name := "acts", desc := "()I" } : Jvm.MethodName)) ∈ kTb := kwm_5 95 rfl rfl
theorem kw_5_96 : (Jvm.Cond.instanceMethod ({ cls := "MarkChains", name := "acts", desc := "()I" } : Jvm.MethodName)) ∈ kTb := kwm_5 96 rfl rfl
theorem kw_5_97 : (Jvm.Cond.selects "MarkChains" ({ cls := "MarkChains", name := "acts", desc := "()I" } : Jvm.MethodName) ({ cls := "MarkChains", name := "acts", desc := "()I" } : Jvm.MethodName)) ∈ kTb := kwm_5 97 rfl rfl
theorem kw_5_98 : (Jvm.Cond.code ({ cls := "MarkChains", name := "acts", desc := "()I" } : Jvm.MethodName) prog_1_method_37_code (3 : Nat) (Option.some Jvm.ClassFile.FieldType.int)) ∈ kTb := kwm_5 98 rfl rfl
theorem kw_5_99 : (Jvm.Cond.methodLink "MarkChains" (314 : Nat) ({ cls := "MarkChains$Acts", name := "readFrom", desc := "(LMarkChains$Tape;)I" } : Jvm.MethodName)) ∈ kTb := kwm_5 99 rfl rfl
theorem kw_5_100 : (Jvm.Cond.instanceMethod ({ cls := "MarkChains$Acts", name := "readFrom", desc := "(LMarkChains$Tape;)I" } : Jvm.MethodName)) ∈ kTb := kwm_5 100 rfl rfl
theorem kw_5_101 : (Jvm.Cond.selects "MarkChains$Acts" ({ cls := "MarkChains$Acts", name := "readFrom", desc := "(LMarkChains$Tape;)I" } : Jvm.MethodName) ({ cls := "MarkChains$Acts", name := "readFrom", desc := "(LMarkChains$Tape;)I" } : Jvm.MethodName)) ∈ kTb := kwm_5 101 rfl rfl
theorem kw_5_102 : (Jvm.Cond.code ({ cls := "MarkChains$Acts", name := "readFrom", desc := "(LMarkChains$Tape;)I" } : Jvm.MethodName) prog_2_method_2_code (3 : Nat) (Option.some Jvm.ClassFile.FieldType.int)) ∈ kTb := kwm_5 102 rfl rfl
theorem kw_5_103 : (Jvm.Cond.methodLink "MarkChains$Acts" (28 : Nat) ({ cls := "MarkChains$Tape", name := "isOver", desc := "()Z" } : Jvm.MethodName)) ∈ kTb := kwm_5 103 rfl rfl
theorem kw_5_104 : (Jvm.Cond.methodLink "MarkChains$Acts" (34 : Nat) ({ cls := "MarkChains$Acts", name := "readAct", desc := "(LMarkChains$Tape;I)Z" } : Jvm.MethodName)) ∈ kTb := kwm_5 104 rfl rfl
theorem kw_5_106 : (Jvm.Cond.instanceMethod ({ cls := "MarkChains$Acts", name := "readAct", desc := "(LMarkChains$Tape;I)Z" } : Jvm.MethodName)) ∈ kTb := kwm_5 106 rfl rfl
theorem kw_5_107 : (Jvm.Cond.code ({ cls := "MarkChains$Acts", name := "readAct", desc := "(LMarkChains$Tape;I)Z" } : Jvm.MethodName) prog_2_method_3_code (5 : Nat) (Option.some Jvm.ClassFile.FieldType.boolean)) ∈ kTb := kwm_5 107 rfl rfl
theorem kw_5_109 : (Jvm.Cond.methodLink "MarkChains$Acts" (40 : Nat) ({ cls := "MarkChains$Tape", name := "peek", desc := "()I" } : Jvm.MethodName)) ∈ kTb := kwm_5 109 rfl rfl
theorem kw_5_110 : (Jvm.Cond.methodLink "MarkChains$Acts" (44 : Nat) ({ cls := "java/lang/String", name := "indexOf", desc := "(I)I" } : Jvm.MethodName)) ∈ kTb := kwm_5 110 rfl rfl
theorem kw_5_111 : (Jvm.Cond.fieldLink "MarkChains$Acts" (50 : Nat) "MarkChains$Acts" "NUMBERS" "[I") ∈ kTb := kwm_5 111 rfl rfl
theorem kw_5_113 : (Jvm.Cond.methodLink "MarkChains$Acts" (53 : Nat) ({ cls := "MarkChains$Tape", name := "failHere", desc := "()Z" } : Jvm.MethodName)) ∈ kTb := kwm_5 113 rfl rfl
theorem kw_5_114 : (Jvm.Cond.methodLink "MarkChains$Acts" (56 : Nat) ({ cls := "MarkChains$Tape", name := "step", desc := "()V" } : Jvm.MethodName)) ∈ kTb := kwm_5 114 rfl rfl
theorem kw_5_115 : (Jvm.Cond.methodLink "MarkChains$Acts" (59 : Nat) ({ cls := "MarkChains$Tape", name := "readNumber", desc := "()Z" } : Jvm.MethodName)) ∈ kTb := kwm_5 115 rfl rfl
theorem kw_5_116 : (Jvm.Cond.methodLink "MarkChains$Acts" (65 : Nat) ({ cls := "MarkChains$Tape", name := "pass", desc := "(I)Z" } : Jvm.MethodName)) ∈ kTb := kwm_5 116 rfl rfl
theorem kw_5_117 : (Jvm.Cond.methodLink "MarkChains" (318 : Nat) ({ cls := "MarkChains$Acts", name := "begin", desc := "()V" } : Jvm.MethodName)) ∈ kTb := kwm_5 117 rfl rfl
theorem kw_5_118 : (Jvm.Cond.instanceMethod ({ cls := "MarkChains$Acts", name := "begin", desc := "()V" } : Jvm.MethodName)) ∈ kTb := kwm_5 118 rfl rfl
theorem kw_5_119 : (Jvm.Cond.selects "MarkChains$Acts" ({ cls := "MarkChains$Acts", name := "begin", desc := "()V" } : Jvm.MethodName) ({ cls := "MarkChains$Acts", name := "begin", desc := "()V" } : Jvm.MethodName)) ∈ kTb := kwm_5 119 rfl rfl
theorem kw_5_120 : (Jvm.Cond.code ({ cls := "MarkChains$Acts", name := "begin", desc := "()V" } : Jvm.MethodName) prog_2_method_6_code (1 : Nat) (Option.none : Option Jvm.ClassFile.FieldType)) ∈ kTb := kwm_5 120 rfl rfl
theorem kw_5_121 : (Jvm.Cond.methodLink "MarkChains" (324 : Nat) ({ cls := "MarkChains", name := "perform", desc := "(I)I" } : Jvm.MethodName)) ∈ kTb := kwm_5 121 rfl rfl
theorem kw_5_123 : (Jvm.Cond.instanceMethod ({ cls := "MarkChains", name := "perform", desc := "(I)I" } : Jvm.MethodName)) ∈ kTb := kwm_5 123 rfl rfl
theorem kw_5_124 : (Jvm.Cond.code ({ cls := "MarkChains", name := "perform", desc := "(I)I" } : Jvm.MethodName) prog_1_method_59_code (3 : Nat) (Option.some Jvm.ClassFile.FieldType.int)) ∈ kTb := kwm_5 124 rfl rfl
theorem kw_5_125 : (Jvm.Cond.methodLink "MarkChains" (403 : Nat) ({ cls := "MarkChains$Acts", name := "numberOf", desc := "(II)I" } : Jvm.MethodName)) ∈ kTb := kwm_5 125 rfl rfl
theorem kw_5_126 : (Jvm.Cond.instanceMethod ({ cls := "MarkChains$Acts", name := "numberOf", desc := "(II)I" } : Jvm.MethodName)) ∈ kTb := kwm_5 126 rfl rfl
theorem kw_5_127 : (Jvm.Cond.selects "MarkChains$Acts" ({ cls := "MarkChains$Acts", name := "numberOf", desc := "(II)I" } : Jvm.MethodName) ({ cls := "MarkChains$Acts", name := "numberOf", desc := "(II)I" } : Jvm.MethodName)) ∈ kTb := kwm_5 127 rfl rfl
theorem kw_5_128 : (Jvm.Cond.code ({ cls := "MarkChains$Acts", name := "numberOf", desc := "(II)I" } : Jvm.MethodName) prog_2_method_5_code (4 : Nat) (Option.some Jvm.ClassFile.FieldType.int)) ∈ kTb := kwm_5 128 rfl rfl
theorem kw_5_129 : (Jvm.Cond.methodLink "MarkChains" (406 : Nat) ({ cls := "MarkChains$Acts", name := "letterOf", desc := "(I)I" } : Jvm.MethodName)) ∈ kTb := kwm_5 129 rfl rfl
theorem kw_5_130 : (Jvm.Cond.instanceMethod ({ cls := "MarkChains$Acts", name := "letterOf", desc := "(I)I" } : Jvm.MethodName)) ∈ kTb := kwm_5 130 rfl rfl
theorem kw_5_131 : (Jvm.Cond.selects "MarkChains$Acts" ({ cls := "MarkChains$Acts", name := "letterOf", desc := "(I)I" } : Jvm.MethodName) ({ cls := "MarkChains$Acts", name := "letterOf", desc := "(I)I" } : Jvm.MethodName)) ∈ kTb := kwm_5 131 rfl rfl
theorem kw_5_132 : (Jvm.Cond.code ({ cls := "MarkChains$Acts", name := "letterOf", desc := "(I)I" } : Jvm.MethodName) prog_2_method_4_code (2 : Nat) (Option.some Jvm.ClassFile.FieldType.int)) ∈ kTb := kwm_5 132 rfl rfl
theorem kw_5_133 : (Jvm.Cond.methodLink "MarkChains" (409 : Nat) ({ cls := "MarkChains", name := "ratify", desc := "(I)I" } : Jvm.MethodName)) ∈ kTb := kwm_5 133 rfl rfl
theorem kw_5_134 : (Jvm.Cond.methodLink "MarkChains" (412 : Nat) ({ cls := "MarkChains", name := "strike", desc := "(I)I" } : Jvm.MethodName)) ∈ kTb := kwm_5 134 rfl rfl
theorem kw_5_135 : (Jvm.Cond.methodLink "MarkChains" (415 : Nat) ({ cls := "MarkChains", name := "days", desc := "(I)I" } : Jvm.MethodName)) ∈ kTb := kwm_5 135 rfl rfl
theorem kw_5_136 : (Jvm.Cond.methodLink "MarkChains" (418 : Nat) ({ cls := "MarkChains", name := "paper", desc := "(II)I" } : Jvm.MethodName)) ∈ kTb := kwm_5 136 rfl rfl
theorem kw_5_137 : (Jvm.Cond.methodLink "MarkChains" (421 : Nat) ({ cls := "MarkChains", name := "ban", desc := "(III)I" } : Jvm.MethodName)) ∈ kTb := kwm_5 137 rfl rfl
theorem kw_5_138 : (Jvm.Cond.methodLink "MarkChains" (327 : Nat) ({ cls := "MarkChains$Acts", name := "note", desc := "(II)V" } : Jvm.MethodName)) ∈ kTb := kwm_5 138 rfl rfl
theorem kw_5_139 : (Jvm.Cond.instanceMethod ({ cls := "MarkChains$Acts", name := "note", desc := "(II)V" } : Jvm.MethodName)) ∈ kTb := kwm_5 139 rfl rfl
theorem kw_5_140 : (Jvm.Cond.selects "MarkChains$Acts" ({ cls := "MarkChains$Acts", name := "note", desc := "(II)V" } : Jvm.MethodName) ({ cls := "MarkChains$Acts", name := "note", desc := "(II)V" } : Jvm.MethodName)) ∈ kTb := kwm_5 140 rfl rfl
theorem kw_5_141 : (Jvm.Cond.code ({ cls := "MarkChains$Acts", name := "note", desc := "(II)V" } : Jvm.MethodName) prog_2_method_7_code (3 : Nat) (Option.none : Option Jvm.ClassFile.FieldType)) ∈ kTb := kwm_5 141 rfl rfl
theorem kw_5_142 : (Jvm.Cond.methodLink "MarkChainsLaw" (163 : Nat) ({ cls := "MarkChains", name := "ended", desc := "()I" } : Jvm.MethodName)) ∈ kTb := kwm_5 142 rfl rfl
theorem kw_5_143 : (Jvm.Cond.instanceMethod ({ cls := "MarkChains", name := "ended", desc := "()I" } : Jvm.MethodName)) ∈ kTb := kwm_5 143 rfl rfl
theorem kw_5_144 : (Jvm.Cond.selects "MarkChains" ({ cls := "MarkChains", name := "ended", desc := "()I" } : Jvm.MethodName) ({ cls := "MarkChains", name := "ended", desc := "()I" } : Jvm.MethodName)) ∈ kTb := kwm_5 144 rfl rfl
theorem kw_5_145 : (Jvm.Cond.code ({ cls := "MarkChains", name := "ended", desc := "()I" } : Jvm.MethodName) prog_1_method_38_code (1 : Nat) (Option.some Jvm.ClassFile.FieldType.int)) ∈ kTb := kwm_5 145 rfl rfl
theorem kw_5_146 : (Jvm.Cond.methodLink "MarkChainsLaw" (167 : Nat) ({ cls := "MarkChains", name := "row", desc := "(I)I" } : Jvm.MethodName)) ∈ kTb := kwm_5 146 rfl rfl
theorem kw_5_147 : (Jvm.Cond.instanceMethod ({ cls := "MarkChains", name := "row", desc := "(I)I" } : Jvm.MethodName)) ∈ kTb := kwm_5 147 rfl rfl
theorem kw_5_148 : (Jvm.Cond.selects "MarkChains" ({ cls := "MarkChains", name := "row", desc := "(I)I" } : Jvm.MethodName) ({ cls := "MarkChains", name := "row", desc := "(I)I" } : Jvm.MethodName)) ∈ kTb := kwm_5 148 rfl rfl
theorem kw_5_149 : (Jvm.Cond.code ({ cls := "MarkChains", name := "row", desc := "(I)I" } : Jvm.MethodName) prog_1_method_39_code (2 : Nat) (Option.some Jvm.ClassFile.FieldType.int)) ∈ kTb := kwm_5 149 rfl rfl
theorem kw_5_150 : (Jvm.Cond.methodLink "MarkChainsLaw" (171 : Nat) ({ cls := "MarkChains", name := "personal", desc := "(III)I" } : Jvm.MethodName)) ∈ kTb := kwm_5 150 rfl rfl
theorem kw_5_151 : (Jvm.Cond.instanceMethod ({ cls := "MarkChains", name := "personal", desc := "(III)I" } : Jvm.MethodName)) ∈ kTb := kwm_5 151 rfl rfl
theorem kw_5_152 : (Jvm.Cond.selects "MarkChains" ({ cls := "MarkChains", name := "personal", desc := "(III)I" } : Jvm.MethodName) ({ cls := "MarkChains", name := "personal", desc := "(III)I" } : Jvm.MethodName)) ∈ kTb := kwm_5 152 rfl rfl
theorem kw_5_153 : (Jvm.Cond.code ({ cls := "MarkChains", name := "personal", desc := "(III)I" } : Jvm.MethodName) prog_1_method_40_code (4 : Nat) (Option.some Jvm.ClassFile.FieldType.int)) ∈ kTb := kwm_5 153 rfl rfl
theorem kw_5_154 : (Jvm.Cond.methodLink "MarkChains" (337 : Nat) ({ cls := "MarkChains$Line", name := "fillWithPersonal", desc := "(III)V" } : Jvm.MethodName)) ∈ kTb := kwm_5 154 rfl rfl
theorem kw_5_155 : (Jvm.Cond.instanceMethod ({ cls := "MarkChains$Line", name := "fillWithPersonal", desc := "(III)V" } : Jvm.MethodName)) ∈ kTb := kwm_5 155 rfl rfl
theorem kw_5_156 : (Jvm.Cond.selects "MarkChains$Line" ({ cls := "MarkChains$Line", name := "fillWithPersonal", desc := "(III)V" } : Jvm.MethodName) ({ cls := "MarkChains$Line", name := "fillWithPersonal", desc := "(III)V" } : Jvm.MethodName)) ∈ kTb := kwm_5 156 rfl rfl
theorem kw_5_157 : (Jvm.Cond.code ({ cls := "MarkChains$Line", name := "fillWithPersonal", desc := "(III)V" } : Jvm.MethodName) prog_9_method_4_code (6 : Nat) (Option.none : Option Jvm.ClassFile.FieldType)) ∈ kTb := kwm_5 157 rfl rfl
theorem kw_5_158 : (Jvm.Cond.methodLink "MarkChainsLaw" (175 : Nat) ({ cls := "MarkChains", name := "season", desc := "(III)I" } : Jvm.MethodName)) ∈ kTb := kwm_5 158 rfl rfl
theorem kw_5_159 : (Jvm.Cond.instanceMethod ({ cls := "MarkChains", name := "season", desc := "(III)I" } : Jvm.MethodName)) ∈ kTb := kwm_5 159 rfl rfl
theorem kw_5_160 : (Jvm.Cond.selects "MarkChains" ({ cls := "MarkChains", name := "season", desc := "(III)I" } : Jvm.MethodName) ({ cls := "MarkChains", name := "season", desc := "(III)I" } : Jvm.MethodName)) ∈ kTb := kwm_5 160 rfl rfl
theorem kw_5_161 : (Jvm.Cond.code ({ cls := "MarkChains", name := "season", desc := "(III)I" } : Jvm.MethodName) prog_1_method_41_code (4 : Nat) (Option.some Jvm.ClassFile.FieldType.int)) ∈ kTb := kwm_5 161 rfl rfl
theorem kw_5_162 : (Jvm.Cond.methodLink "MarkChains" (340 : Nat) ({ cls := "MarkChains$Line", name := "fillWithSeason", desc := "(III)V" } : Jvm.MethodName)) ∈ kTb := kwm_5 162 rfl rfl
theorem kw_5_163 : (Jvm.Cond.instanceMethod ({ cls := "MarkChains$Line", name := "fillWithSeason", desc := "(III)V" } : Jvm.MethodName)) ∈ kTb := kwm_5 163 rfl rfl
theorem kw_5_164 : (Jvm.Cond.selects "MarkChains$Line" ({ cls := "MarkChains$Line", name := "fillWithSeason", desc := "(III)V" } : Jvm.MethodName) ({ cls := "MarkChains$Line", name := "fillWithSeason", desc := "(III)V" } : Jvm.MethodName)) ∈ kTb := kwm_5 164 rfl rfl
theorem kw_5_165 : (Jvm.Cond.code ({ cls := "MarkChains$Line", name := "fillWithSeason", desc := "(III)V" } : Jvm.MethodName) prog_9_method_5_code (6 : Nat) (Option.none : Option Jvm.ClassFile.FieldType)) ∈ kTb := kwm_5 165 rfl rfl
theorem kw_5_166 : (Jvm.Cond.methodLink "MarkChainsLaw" (179 : Nat) ({ cls := "MarkChains", name := "at", desc := "(IIII)I" } : Jvm.MethodName)) ∈ kTb := kwm_5 166 rfl rfl
theorem kw_5_167 : (Jvm.Cond.instanceMethod ({ cls := "MarkChains", name := "at", desc := "(IIII)I" } : Jvm.MethodName)) ∈ kTb := kwm_5 167 rfl rfl
theorem kw_5_168 : (Jvm.Cond.selects "MarkChains" ({ cls := "MarkChains", name := "at", desc := "(IIII)I" } : Jvm.MethodName) ({ cls := "MarkChains", name := "at", desc := "(IIII)I" } : Jvm.MethodName)) ∈ kTb := kwm_5 168 rfl rfl
theorem kw_5_169 : (Jvm.Cond.code ({ cls := "MarkChains", name := "at", desc := "(IIII)I" } : Jvm.MethodName) prog_1_method_42_code (5 : Nat) (Option.some Jvm.ClassFile.FieldType.int)) ∈ kTb := kwm_5 169 rfl rfl
theorem kw_5_170 : (Jvm.Cond.methodLink "MarkChains" (343 : Nat) ({ cls := "MarkChains$Line", name := "latestTill", desc := "(II)I" } : Jvm.MethodName)) ∈ kTb := kwm_5 170 rfl rfl
theorem kw_5_171 : (Jvm.Cond.instanceMethod ({ cls := "MarkChains$Line", name := "latestTill", desc := "(II)I" } : Jvm.MethodName)) ∈ kTb := kwm_5 171 rfl rfl
theorem kw_5_172 : (Jvm.Cond.selects "MarkChains$Line" ({ cls := "MarkChains$Line", name := "latestTill", desc := "(II)I" } : Jvm.MethodName) ({ cls := "MarkChains$Line", name := "latestTill", desc := "(II)I" } : Jvm.MethodName)) ∈ kTb := kwm_5 172 rfl rfl
theorem kw_5_173 : (Jvm.Cond.code ({ cls := "MarkChains$Line", name := "latestTill", desc := "(II)I" } : Jvm.MethodName) prog_9_method_25_code (6 : Nat) (Option.some Jvm.ClassFile.FieldType.int)) ∈ kTb := kwm_5 173 rfl rfl
theorem kw_5_174 : (Jvm.Cond.methodLink "MarkChainsLaw" (183 : Nat) ({ cls := "MarkChains", name := "missing", desc := "(I)I" } : Jvm.MethodName)) ∈ kTb := kwm_5 174 rfl rfl
theorem kw_5_175 : (Jvm.Cond.instanceMethod ({ cls := "MarkChains", name := "missing", desc := "(I)I" } : Jvm.MethodName)) ∈ kTb := kwm_5 175 rfl rfl
theorem kw_5_176 : (Jvm.Cond.selects "MarkChains" ({ cls := "MarkChains", name := "missing", desc := "(I)I" } : Jvm.MethodName) ({ cls := "MarkChains", name := "missing", desc := "(I)I" } : Jvm.MethodName)) ∈ kTb := kwm_5 176 rfl rfl
theorem kw_5_177 : (Jvm.Cond.code ({ cls := "MarkChains", name := "missing", desc := "(I)I" } : Jvm.MethodName) prog_1_method_43_code (7 : Nat) (Option.some Jvm.ClassFile.FieldType.int)) ∈ kTb := kwm_5 177 rfl rfl
theorem kw_5_178 : (Jvm.Cond.fieldLink "MarkChains" (346 : Nat) "MarkChains" "PAPER_SETS" "[I") ∈ kTb := kwm_5 178 rfl rfl
theorem kw_5_180 : (Jvm.Cond.methodLink "MarkChainsLaw" (187 : Nat) ({ cls := "MarkChains", name := "stands", desc := "(II)I" } : Jvm.MethodName)) ∈ kTb := kwm_5 180 rfl rfl
theorem kw_5_181 : (Jvm.Cond.instanceMethod ({ cls := "MarkChains", name := "stands", desc := "(II)I" } : Jvm.MethodName)) ∈ kTb := kwm_5 181 rfl rfl
theorem kw_5_182 : (Jvm.Cond.selects "MarkChains" ({ cls := "MarkChains", name := "stands", desc := "(II)I" } : Jvm.MethodName) ({ cls := "MarkChains", name := "stands", desc := "(II)I" } : Jvm.MethodName)) ∈ kTb := kwm_5 182 rfl rfl
theorem kw_5_183 : (Jvm.Cond.code ({ cls := "MarkChains", name := "stands", desc := "(II)I" } : Jvm.MethodName) prog_1_method_44_code (5 : Nat) (Option.some Jvm.ClassFile.FieldType.int)) ∈ kTb := kwm_5 183 rfl rfl
theorem kw_5_184 : (Jvm.Cond.methodLink "MarkChains" (349 : Nat) ({ cls := "MarkChains", name := "isPlacedSo", desc := "(III)Z" } : Jvm.MethodName)) ∈ kTb := kwm_5 184 rfl rfl
theorem kw_5_186 : (Jvm.Cond.instanceMethod ({ cls := "MarkChains", name := "isPlacedSo", desc := "(III)Z" } : Jvm.MethodName)) ∈ kTb := kwm_5 186 rfl rfl
theorem kw_5_187 : (Jvm.Cond.code ({ cls := "MarkChains", name := "isPlacedSo", desc := "(III)Z" } : Jvm.MethodName) prog_1_method_60_code (5 : Nat) (Option.some Jvm.ClassFile.FieldType.boolean)) ∈ kTb := kwm_5 187 rfl rfl
theorem kw_5_188 : (Jvm.Cond.methodLink "MarkChainsLaw" (191 : Nat) ({ cls := "MarkChains", name := "holding", desc := "(I)I" } : Jvm.MethodName)) ∈ kTb := kwm_5 188 rfl rfl
theorem kw_5_189 : (Jvm.Cond.instanceMethod ({ cls := "MarkChains", name := "holding", desc := "(I)I" } : Jvm.MethodName)) ∈ kTb := kwm_5 189 rfl rfl
theorem kw_5_190 : (Jvm.Cond.selects "MarkChains" ({ cls := "MarkChains", name := "holding", desc := "(I)I" } : Jvm.MethodName) ({ cls := "MarkChains", name := "holding", desc := "(I)I" } : Jvm.MethodName)) ∈ kTb := kwm_5 190 rfl rfl
theorem kw_5_191 : (Jvm.Cond.code ({ cls := "MarkChains", name := "holding", desc := "(I)I" } : Jvm.MethodName) prog_1_method_45_code (4 : Nat) (Option.some Jvm.ClassFile.FieldType.int)) ∈ kTb := kwm_5 191 rfl rfl
theorem kw_5_192 : (Jvm.Cond.methodLink "MarkChains" (352 : Nat) ({ cls := "MarkChains", name := "holdersInAnyScope", desc := "(I)I" } : Jvm.MethodName)) ∈ kTb := kwm_5 192 rfl rfl
theorem kw_5_194 : (Jvm.Cond.instanceMethod ({ cls := "MarkChains", name := "holdersInAnyScope", desc := "(I)I" } : Jvm.MethodName)) ∈ kTb := kwm_5 194 rfl rfl
theorem kw_5_195 : (Jvm.Cond.code ({ cls := "MarkChains", name := "holdersInAnyScope", desc := "(I)I" } : Jvm.MethodName) prog_1_method_61_code (4 : Nat) (Option.some Jvm.ClassFile.FieldType.int)) ∈ kTb := kwm_5 195 rfl rfl
theorem kw_5_196 : (Jvm.Cond.methodLink "MarkChainsLaw" (195 : Nat) ({ cls := "MarkChains", name := "drought", desc := "(III)I" } : Jvm.MethodName)) ∈ kTb := kwm_5 196 rfl rfl
theorem kw_5_197 : (Jvm.Cond.instanceMethod ({ cls := "MarkChains", name := "drought", desc := "(III)I" } : Jvm.MethodName)) ∈ kTb := kwm_5 197 rfl rfl
theorem kw_5_198 : (Jvm.Cond.selects "MarkChains" ({ cls := "MarkChains", name := "drought", desc := "(III)I" } : Jvm.MethodName) ({ cls := "MarkChains", name := "drought", desc := "(III)I" } : Jvm.MethodName)) ∈ kTb := kwm_5 198 rfl rfl
theorem kw_5_199 : (Jvm.Cond.code ({ cls := "MarkChains", name := "drought", desc := "(III)I" } : Jvm.MethodName) prog_1_method_46_code (4 : Nat) (Option.some Jvm.ClassFile.FieldType.int)) ∈ kTb := kwm_5 199 rfl rfl
theorem kw_5_200 : (Jvm.Cond.methodLink "MarkChains" (355 : Nat) ({ cls := "MarkChains$Line", name := "longestGap", desc := "(I)I" } : Jvm.MethodName)) ∈ kTb := kwm_5 200 rfl rfl
theorem kw_5_201 : (Jvm.Cond.instanceMethod ({ cls := "MarkChains$Line", name := "longestGap", desc := "(I)I" } : Jvm.MethodName)) ∈ kTb := kwm_5 201 rfl rfl
theorem kw_5_202 : (Jvm.Cond.selects "MarkChains$Line" ({ cls := "MarkChains$Line", name := "longestGap", desc := "(I)I" } : Jvm.MethodName) ({ cls := "MarkChains$Line", name := "longestGap", desc := "(I)I" } : Jvm.MethodName)) ∈ kTb := kwm_5 202 rfl rfl
theorem kw_5_203 : (Jvm.Cond.code ({ cls := "MarkChains$Line", name := "longestGap", desc := "(I)I" } : Jvm.MethodName) prog_9_method_24_code (4 : Nat) (Option.some Jvm.ClassFile.FieldType.int)) ∈ kTb := kwm_5 203 rfl rfl
theorem kw_5_204 : (Jvm.Cond.methodLink "MarkChains$Line" (90 : Nat) ({ cls := "java/lang/Math", name := "max", desc := "(II)I" } : Jvm.MethodName)) ∈ kTb := kwm_5 204 rfl rfl
theorem kw_5_205 : (Jvm.Cond.methodLink "MarkChainsLaw" (199 : Nat) ({ cls := "MarkChains", name := "back", desc := "()I" } : Jvm.MethodName)) ∈ kTb := kwm_5 205 rfl rfl
theorem kw_5_206 : (Jvm.Cond.instanceMethod ({ cls := "MarkChains", name := "back", desc := "()I" } : Jvm.MethodName)) ∈ kTb := kwm_5 206 rfl rfl
theorem kw_5_207 : (Jvm.Cond.selects "MarkChains" ({ cls := "MarkChains", name := "back", desc := "()I" } : Jvm.MethodName) ({ cls := "MarkChains", name := "back", desc := "()I" } : Jvm.MethodName)) ∈ kTb := kwm_5 207 rfl rfl
theorem kw_5_208 : (Jvm.Cond.code ({ cls := "MarkChains", name := "back", desc := "()I" } : Jvm.MethodName) prog_1_method_47_code (2 : Nat) (Option.some Jvm.ClassFile.FieldType.int)) ∈ kTb := kwm_5 208 rfl rfl
theorem kw_5_209 : (Jvm.Cond.methodLink "MarkChains" (358 : Nat) ({ cls := "MarkChains$Deeds", name := "takeLatest", desc := "()LMarkChains$Deed;" } : Jvm.MethodName)) ∈ kTb := kwm_5 209 rfl rfl
theorem kw_5_210 : (Jvm.Cond.instanceMethod ({ cls := "MarkChains$Deeds", name := "takeLatest", desc := "()LMarkChains$Deed;" } : Jvm.MethodName)) ∈ kTb := kwm_5 210 rfl rfl
theorem kw_5_211 : (Jvm.Cond.selects "MarkChains$Deeds" ({ cls := "MarkChains$Deeds", name := "takeLatest", desc := "()LMarkChains$Deed;" } : Jvm.MethodName) ({ cls := "MarkChains$Deeds", name := "takeLatest", desc := "()LMarkChains$Deed;" } : Jvm.MethodName)) ∈ kTb := kwm_5 211 rfl rfl
theorem kw_5_212 : (Jvm.Cond.code ({ cls := "MarkChains$Deeds", name := "takeLatest", desc := "()LMarkChains$Deed;" } : Jvm.MethodName) prog_5_method_3_code (1 : Nat) (Option.some (Jvm.ClassFile.FieldType.object "MarkChains$Deed"))) ∈ kTb := kwm_5 212 rfl rfl
theorem kw_5_213 : (Jvm.Cond.methodLink "MarkChains" (362 : Nat) ({ cls := "MarkChains", name := "undo", desc := "(LMarkChains$Deed;)V" } : Jvm.MethodName)) ∈ kTb := kwm_5 213 rfl rfl
theorem kw_5_215 : (Jvm.Cond.instanceMethod ({ cls := "MarkChains", name := "undo", desc := "(LMarkChains$Deed;)V" } : Jvm.MethodName)) ∈ kTb := kwm_5 215 rfl rfl
theorem kw_5_216 : (Jvm.Cond.code ({ cls := "MarkChains", name := "undo", desc := "(LMarkChains$Deed;)V" } : Jvm.MethodName) prog_1_method_62_code (2 : Nat) (Option.none : Option Jvm.ClassFile.FieldType)) ∈ kTb := kwm_5 216 rfl rfl
theorem kw_5_217 : (Jvm.Cond.methodLink "MarkChains" (437 : Nat) ({ cls := "MarkChains$Book", name := "unstrike", desc := "(J)V" } : Jvm.MethodName)) ∈ kTb := kwm_5 217 rfl rfl
theorem kw_5_218 : (Jvm.Cond.instanceMethod ({ cls := "MarkChains$Book", name := "unstrike", desc := "(J)V" } : Jvm.MethodName)) ∈ kTb := kwm_5 218 rfl rfl
theorem kw_5_219 : (Jvm.Cond.selects "MarkChains$Book" ({ cls := "MarkChains$Book", name := "unstrike", desc := "(J)V" } : Jvm.MethodName) ({ cls := "MarkChains$Book", name := "unstrike", desc := "(J)V" } : Jvm.MethodName)) ∈ kTb := kwm_5 219 rfl rfl
theorem kw_5_220 : (Jvm.Cond.code ({ cls := "MarkChains$Book", name := "unstrike", desc := "(J)V" } : Jvm.MethodName) prog_3_method_11_code (4 : Nat) (Option.none : Option Jvm.ClassFile.FieldType)) ∈ kTb := kwm_5 220 rfl rfl
theorem kw_5_221 : (Jvm.Cond.methodLink "MarkChainsLaw" (203 : Nat) ({ cls := "MarkChains", name := "write", desc := "(III)I" } : Jvm.MethodName)) ∈ kTb := kwm_5 221 rfl rfl
theorem kw_5_222 : (Jvm.Cond.instanceMethod ({ cls := "MarkChains", name := "write", desc := "(III)I" } : Jvm.MethodName)) ∈ kTb := kwm_5 222 rfl rfl
theorem kw_5_223 : (Jvm.Cond.selects "MarkChains" ({ cls := "MarkChains", name := "write", desc := "(III)I" } : Jvm.MethodName) ({ cls := "MarkChains", name := "write", desc := "(III)I" } : Jvm.MethodName)) ∈ kTb := kwm_5 223 rfl rfl
theorem kw_5_224 : (Jvm.Cond.code ({ cls := "MarkChains", name := "write", desc := "(III)I" } : Jvm.MethodName) prog_1_method_48_code (6 : Nat) (Option.some Jvm.ClassFile.FieldType.int)) ∈ kTb := kwm_5 224 rfl rfl
theorem kw_5_225 : (Jvm.Cond.methodLink "MarkChains" (366 : Nat) ({ cls := "MarkChains$Sheet", name := "addSign", desc := "(I)V" } : Jvm.MethodName)) ∈ kTb := kwm_5 225 rfl rfl
theorem kw_5_226 : (Jvm.Cond.instanceMethod ({ cls := "MarkChains$Sheet", name := "addSign", desc := "(I)V" } : Jvm.MethodName)) ∈ kTb := kwm_5 226 rfl rfl
theorem kw_5_227 : (Jvm.Cond.selects "MarkChains$Sheet" ({ cls := "MarkChains$Sheet", name := "addSign", desc := "(I)V" } : Jvm.MethodName) ({ cls := "MarkChains$Sheet", name := "addSign", desc := "(I)V" } : Jvm.MethodName)) ∈ kTb := kwm_5 227 rfl rfl
theorem kw_5_228 : (Jvm.Cond.code ({ cls := "MarkChains$Sheet", name := "addSign", desc := "(I)V" } : Jvm.MethodName) prog_11_method_2_code (2 : Nat) (Option.none : Option Jvm.ClassFile.FieldType)) ∈ kTb := kwm_5 228 rfl rfl
theorem kw_5_229 : (Jvm.Cond.methodLink "MarkChains" (369 : Nat) ({ cls := "MarkChains$Line", name := "isTie", desc := "(I)Z" } : Jvm.MethodName)) ∈ kTb := kwm_5 229 rfl rfl
theorem kw_5_230 : (Jvm.Cond.methodLink "MarkChains" (375 : Nat) ({ cls := "MarkChains$Sheet", name := "addNumber", desc := "(I)V" } : Jvm.MethodName)) ∈ kTb := kwm_5 230 rfl rfl
theorem kw_5_231 : (Jvm.Cond.instanceMethod ({ cls := "MarkChains$Sheet", name := "addNumber", desc := "(I)V" } : Jvm.MethodName)) ∈ kTb := kwm_5 231 rfl rfl
theorem kw_5_232 : (Jvm.Cond.selects "MarkChains$Sheet" ({ cls := "MarkChains$Sheet", name := "addNumber", desc := "(I)V" } : Jvm.MethodName) ({ cls := "MarkChains$Sheet", name := "addNumber", desc := "(I)V" } : Jvm.MethodName)) ∈ kTb := kwm_5 232 rfl rfl
theorem kw_5_233 : (Jvm.Cond.code ({ cls := "MarkChains$Sheet", name := "addNumber", desc := "(I)V" } : Jvm.MethodName) prog_11_method_3_code (3 : Nat) (Option.none : Option Jvm.ClassFile.FieldType)) ∈ kTb := kwm_5 233 rfl rfl
theorem kw_5_234 : (Jvm.Cond.constant "MarkChains$Sheet" (19 : Nat) (1000000 : Int32)) ∈ kTb := kwm_5 234 rfl rfl
theorem kw_5_235 : (Jvm.Cond.methodLink "MarkChains$Sheet" (20 : Nat) ({ cls := "MarkChains$Sheet", name := "addSign", desc := "(I)V" } : Jvm.MethodName)) ∈ kTb := kwm_5 235 rfl rfl
theorem kw_5_236 : (Jvm.Cond.methodLink "MarkChainsLaw" (207 : Nat) ({ cls := "MarkChains", name := "octet", desc := "(I)I" } : Jvm.MethodName)) ∈ kTb := kwm_5 236 rfl rfl
theorem kw_5_237 : (Jvm.Cond.instanceMethod ({ cls := "MarkChains", name := "octet", desc := "(I)I" } : Jvm.MethodName)) ∈ kTb := kwm_5 237 rfl rfl
theorem kw_5_238 : (Jvm.Cond.selects "MarkChains" ({ cls := "MarkChains", name := "octet", desc := "(I)I" } : Jvm.MethodName) ({ cls := "MarkChains", name := "octet", desc := "(I)I" } : Jvm.MethodName)) ∈ kTb := kwm_5 238 rfl rfl
theorem kw_5_239 : (Jvm.Cond.code ({ cls := "MarkChains", name := "octet", desc := "(I)I" } : Jvm.MethodName) prog_1_method_49_code (2 : Nat) (Option.some Jvm.ClassFile.FieldType.int)) ∈ kTb := kwm_5 239 rfl rfl
theorem kw_6_0 : (Jvm.Cond.classLink "MarkChainsLaw" (10 : Nat) "MarkChainsModel") ∈ kTb := kwm_6 0 rfl rfl
theorem kw_6_1 : (Jvm.Cond.instantiable "MarkChainsModel" (33 : Nat)) ∈ kTb := kwm_6 1 rfl rfl
theorem kw_6_2 : (Jvm.Cond.methodLink "MarkChainsLaw" (12 : Nat) ({ cls := "MarkChainsModel", name := "<init>", desc := "()V" } : Jvm.MethodName)) ∈ kTb := kwm_6 2 rfl rfl
theorem kw_6_3 : (Jvm.Cond.instanceMethod ({ cls := "MarkChainsModel", name := "<init>", desc := "()V" } : Jvm.MethodName)) ∈ kTb := kwm_6 3 rfl rfl
theorem kw_6_4 : (Jvm.Cond.code ({ cls := "MarkChainsModel", name := "<init>", desc := "()V" } : Jvm.MethodName) prog_14_method_2_code (1 : Nat) (Option.none : Option Jvm.ClassFile.FieldType)) ∈ kTb := kwm_6 4 rfl rfl
theorem kw_6_5 : (Jvm.Cond.methodLink "MarkChainsModel" (1 : Nat) ({ cls := "java/lang/Object", name := "<init>", desc := "()V" } : Jvm.MethodName)) ∈ kTb := kwm_6 5 rfl rfl
theorem kw_6_6 : (Jvm.Cond.fieldLink "MarkChainsModel" (7 : Nat) "MarkChainsModel" "all" "[I") ∈ kTb := kwm_6 6 rfl rfl
theorem kw_6_7 : (Jvm.Cond.fieldLink "MarkChainsModel" (13 : Nat) "MarkChainsModel" "kept" "[I") ∈ kTb := kwm_6 7 rfl rfl
theorem kw_6_8 : (Jvm.Cond.fieldLink "MarkChainsModel" (16 : Nat) "MarkChainsModel" "ahead" "[I") ∈ kTb := kwm_6 8 rfl rfl
theorem kw_6_9 : (Jvm.Cond.fieldLink "MarkChainsModel" (73 : Nat) "MarkChainsModel" "deeds" "I") ∈ kTb := kwm_6 9 rfl rfl
theorem kw_6_10 : (Jvm.Cond.fieldLink "MarkChainsModel" (19 : Nat) "MarkChainsModel" "tape" "[B") ∈ kTb := kwm_6 10 rfl rfl
theorem kw_6_11 : (Jvm.Cond.fieldLink "MarkChainsModel" (76 : Nat) "MarkChainsModel" "taped" "I") ∈ kTb := kwm_6 11 rfl rfl
theorem kw_6_12 : (Jvm.Cond.fieldLink "MarkChainsModel" (87 : Nat) "MarkChainsModel" "at" "I") ∈ kTb := kwm_6 12 rfl rfl
theorem kw_6_13 : (Jvm.Cond.fieldLink "MarkChainsModel" (23 : Nat) "MarkChainsModel" "faultPlace" "I") ∈ kTb := kwm_6 13 rfl rfl
theorem kw_6_14 : (Jvm.Cond.fieldLink "MarkChainsModel" (101 : Nat) "MarkChainsModel" "number" "I") ∈ kTb := kwm_6 14 rfl rfl
theorem kw_6_15 : (Jvm.Cond.fieldLink "MarkChainsModel" (27 : Nat) "MarkChainsModel" "newCode" "[I") ∈ kTb := kwm_6 15 rfl rfl
theorem kw_6_16 : (Jvm.Cond.fieldLink "MarkChainsModel" (30 : Nat) "MarkChainsModel" "newBegin" "[I") ∈ kTb := kwm_6 16 rfl rfl
theorem kw_6_17 : (Jvm.Cond.fieldLink "MarkChainsModel" (144 : Nat) "MarkChainsModel" "newCodes" "I") ∈ kTb := kwm_6 17 rfl rfl
theorem kw_6_18 : (Jvm.Cond.fieldLink "MarkChainsModel" (150 : Nat) "MarkChainsModel" "newThings" "I") ∈ kTb := kwm_6 18 rfl rfl
theorem kw_6_19 : (Jvm.Cond.fieldLink "MarkChainsModel" (33 : Nat) "MarkChainsModel" "opened" "[I") ∈ kTb := kwm_6 19 rfl rfl
theorem kw_6_20 : (Jvm.Cond.fieldLink "MarkChainsModel" (36 : Nat) "MarkChainsModel" "andWaits" "[Z") ∈ kTb := kwm_6 20 rfl rfl
theorem kw_6_21 : (Jvm.Cond.fieldLink "MarkChainsModel" (40 : Nat) "MarkChainsModel" "orWaits" "[Z") ∈ kTb := kwm_6 21 rfl rfl
theorem kw_6_22 : (Jvm.Cond.fieldLink "MarkChainsModel" (167 : Nat) "MarkChainsModel" "opens" "I") ∈ kTb := kwm_6 22 rfl rfl
theorem kw_6_23 : (Jvm.Cond.fieldLink "MarkChainsModel" (43 : Nat) "MarkChainsModel" "pile" "[I") ∈ kTb := kwm_6 23 rfl rfl
theorem kw_6_24 : (Jvm.Cond.fieldLink "MarkChainsModel" (46 : Nat) "MarkChainsModel" "order" "[I") ∈ kTb := kwm_6 24 rfl rfl
theorem kw_6_25 : (Jvm.Cond.fieldLink "MarkChainsModel" (49 : Nat) "MarkChainsModel" "link" "[I") ∈ kTb := kwm_6 25 rfl rfl
theorem kw_6_26 : (Jvm.Cond.fieldLink "MarkChainsModel" (231 : Nat) "MarkChainsModel" "links" "I") ∈ kTb := kwm_6 26 rfl rfl
theorem kw_6_27 : (Jvm.Cond.fieldLink "MarkChainsModel" (52 : Nat) "MarkChainsModel" "added" "I") ∈ kTb := kwm_6 27 rfl rfl
theorem kw_6_28 : (Jvm.Cond.fieldLink "MarkChainsModel" (55 : Nat) "MarkChainsModel" "left" "I") ∈ kTb := kwm_6 28 rfl rfl
theorem kw_6_29 : (Jvm.Cond.fieldLink "MarkChainsModel" (58 : Nat) "MarkChainsModel" "wasLinked" "[Z") ∈ kTb := kwm_6 29 rfl rfl
theorem kw_6_30 : (Jvm.Cond.fieldLink "MarkChainsModel" (265 : Nat) "MarkChainsModel" "freshMany" "I") ∈ kTb := kwm_6 30 rfl rfl
theorem kw_6_31 : (Jvm.Cond.fieldLink "MarkChainsModel" (268 : Nat) "MarkChainsModel" "freshFirst" "I") ∈ kTb := kwm_6 31 rfl rfl
theorem kw_6_32 : (Jvm.Cond.fieldLink "MarkChainsModel" (61 : Nat) "MarkChainsModel" "act" "[I") ∈ kTb := kwm_6 32 rfl rfl
theorem kw_6_33 : (Jvm.Cond.fieldLink "MarkChainsModel" (64 : Nat) "MarkChainsModel" "toldBy" "[I") ∈ kTb := kwm_6 33 rfl rfl
theorem kw_6_34 : (Jvm.Cond.fieldLink "MarkChainsModel" (311 : Nat) "MarkChainsModel" "actMany" "I") ∈ kTb := kwm_6 34 rfl rfl
theorem kw_6_35 : (Jvm.Cond.fieldLink "MarkChainsModel" (335 : Nat) "MarkChainsModel" "actsDone" "I") ∈ kTb := kwm_6 35 rfl rfl
theorem kw_6_36 : (Jvm.Cond.fieldLink "MarkChainsModel" (67 : Nat) "MarkChainsModel" "endedAt" "I") ∈ kTb := kwm_6 36 rfl rfl
theorem kw_6_37 : (Jvm.Cond.fieldLink "MarkChainsModel" (70 : Nat) "MarkChainsModel" "written" "[B") ∈ kTb := kwm_6 37 rfl rfl
theorem kw_6_38 : (Jvm.Cond.fieldLink "MarkChainsModel" (341 : Nat) "MarkChainsModel" "writtenLong" "I") ∈ kTb := kwm_6 38 rfl rfl
theorem kw_6_39 : (Jvm.Cond.laysFinal "MarkChainsModel" "MarkChainsModel" "all" "[I") ∈ kTb := kwm_6 39 rfl rfl
theorem kw_6_41 : (Jvm.Cond.laysFinal "MarkChainsModel" "MarkChainsModel" "kept" "[I") ∈ kTb := kwm_6 41 rfl rfl
theorem kw_6_43 : (Jvm.Cond.laysFinal "MarkChainsModel" "MarkChainsModel" "ahead" "[I") ∈ kTb := kwm_6 43 rfl rfl
theorem kw_6_45 : (Jvm.Cond.lays "MarkChainsModel" "MarkChainsModel" "deeds" "I") ∈ kTb := kwm_6 45 rfl rfl
theorem kw_6_47 : (Jvm.Cond.laysFinal "MarkChainsModel" "MarkChainsModel" "tape" "[B") ∈ kTb := kwm_6 47 rfl rfl
theorem kw_6_49 : (Jvm.Cond.lays "MarkChainsModel" "MarkChainsModel" "taped" "I") ∈ kTb := kwm_6 49 rfl rfl
theorem kw_6_51 : (Jvm.Cond.lays "MarkChainsModel" "MarkChainsModel" "at" "I") ∈ kTb := kwm_6 51 rfl rfl
theorem kw_6_53 : (Jvm.Cond.lays "MarkChainsModel" "MarkChainsModel" "faultPlace" "I") ∈ kTb := kwm_6 53 rfl rfl
theorem kw_6_55 : (Jvm.Cond.lays "MarkChainsModel" "MarkChainsModel" "number" "I") ∈ kTb := kwm_6 55 rfl rfl
theorem kw_6_57 : (Jvm.Cond.laysFinal "MarkChainsModel" "MarkChainsModel" "newCode" "[I") ∈ kTb := kwm_6 57 rfl rfl
theorem kw_6_59 : (Jvm.Cond.laysFinal "MarkChainsModel" "MarkChainsModel" "newBegin" "[I") ∈ kTb := kwm_6 59 rfl rfl
theorem kw_6_61 : (Jvm.Cond.lays "MarkChainsModel" "MarkChainsModel" "newCodes" "I") ∈ kTb := kwm_6 61 rfl rfl
theorem kw_6_63 : (Jvm.Cond.lays "MarkChainsModel" "MarkChainsModel" "newThings" "I") ∈ kTb := kwm_6 63 rfl rfl
theorem kw_6_65 : (Jvm.Cond.laysFinal "MarkChainsModel" "MarkChainsModel" "opened" "[I") ∈ kTb := kwm_6 65 rfl rfl
theorem kw_6_67 : (Jvm.Cond.laysFinal "MarkChainsModel" "MarkChainsModel" "andWaits" "[Z") ∈ kTb := kwm_6 67 rfl rfl
theorem kw_6_69 : (Jvm.Cond.laysFinal "MarkChainsModel" "MarkChainsModel" "orWaits" "[Z") ∈ kTb := kwm_6 69 rfl rfl
theorem kw_6_71 : (Jvm.Cond.lays "MarkChainsModel" "MarkChainsModel" "opens" "I") ∈ kTb := kwm_6 71 rfl rfl
theorem kw_6_73 : (Jvm.Cond.laysFinal "MarkChainsModel" "MarkChainsModel" "pile" "[I") ∈ kTb := kwm_6 73 rfl rfl
theorem kw_6_75 : (Jvm.Cond.laysFinal "MarkChainsModel" "MarkChainsModel" "order" "[I") ∈ kTb := kwm_6 75 rfl rfl
theorem kw_6_77 : (Jvm.Cond.laysFinal "MarkChainsModel" "MarkChainsModel" "link" "[I") ∈ kTb := kwm_6 77 rfl rfl
theorem kw_6_79 : (Jvm.Cond.lays "MarkChainsModel" "MarkChainsModel" "links" "I") ∈ kTb := kwm_6 79 rfl rfl
theorem kw_6_81 : (Jvm.Cond.lays "MarkChainsModel" "MarkChainsModel" "added" "I") ∈ kTb := kwm_6 81 rfl rfl
theorem kw_6_83 : (Jvm.Cond.lays "MarkChainsModel" "MarkChainsModel" "left" "I") ∈ kTb := kwm_6 83 rfl rfl
theorem kw_6_85 : (Jvm.Cond.laysFinal "MarkChainsModel" "MarkChainsModel" "wasLinked" "[Z") ∈ kTb := kwm_6 85 rfl rfl
theorem kw_6_87 : (Jvm.Cond.lays "MarkChainsModel" "MarkChainsModel" "freshMany" "I") ∈ kTb := kwm_6 87 rfl rfl
theorem kw_6_89 : (Jvm.Cond.lays "MarkChainsModel" "MarkChainsModel" "freshFirst" "I") ∈ kTb := kwm_6 89 rfl rfl
theorem kw_6_91 : (Jvm.Cond.laysFinal "MarkChainsModel" "MarkChainsModel" "act" "[I") ∈ kTb := kwm_6 91 rfl rfl
theorem kw_6_93 : (Jvm.Cond.laysFinal "MarkChainsModel" "MarkChainsModel" "toldBy" "[I") ∈ kTb := kwm_6 93 rfl rfl
theorem kw_6_95 : (Jvm.Cond.lays "MarkChainsModel" "MarkChainsModel" "actMany" "I") ∈ kTb := kwm_6 95 rfl rfl
theorem kw_6_97 : (Jvm.Cond.lays "MarkChainsModel" "MarkChainsModel" "actsDone" "I") ∈ kTb := kwm_6 97 rfl rfl
theorem kw_6_99 : (Jvm.Cond.lays "MarkChainsModel" "MarkChainsModel" "endedAt" "I") ∈ kTb := kwm_6 99 rfl rfl
theorem kw_6_101 : (Jvm.Cond.laysFinal "MarkChainsModel" "MarkChainsModel" "written" "[B") ∈ kTb := kwm_6 101 rfl rfl
theorem kw_6_103 : (Jvm.Cond.lays "MarkChainsModel" "MarkChainsModel" "writtenLong" "I") ∈ kTb := kwm_6 103 rfl rfl
theorem kw_6_106 : (Jvm.Cond.arrayClass Jvm.ClassFile.FieldType.boolean) ∈ kTb := kwm_6 106 rfl rfl
theorem kw_6_107 : (Jvm.Cond.methodLink "MarkChainsLaw" (202 : Nat) ({ cls := "MarkChainsModel", name := "back", desc := "()I" } : Jvm.MethodName)) ∈ kTb := kwm_6 107 rfl rfl
theorem kw_6_108 : (Jvm.Cond.instanceMethod ({ cls := "MarkChainsModel", name := "back", desc := "()I" } : Jvm.MethodName)) ∈ kTb := kwm_6 108 rfl rfl
theorem kw_6_109 : (Jvm.Cond.selects "MarkChainsModel" ({ cls := "MarkChainsModel", name := "back", desc := "()I" } : Jvm.MethodName) ({ cls := "MarkChainsModel", name := "back", desc := "()I" } : Jvm.MethodName)) ∈ kTb := kwm_6 109 rfl rfl
theorem kw_6_110 : (Jvm.Cond.code ({ cls := "MarkChainsModel", name := "back", desc := "()I" } : Jvm.MethodName) prog_14_method_4_code (2 : Nat) (Option.some Jvm.ClassFile.FieldType.int)) ∈ kTb := kwm_6 110 rfl rfl
theorem kw_6_111 : (Jvm.Cond.methodLink "MarkChainsLaw" (17 : Nat) ({ cls := "MarkChainsModel", name := "feed", desc := "(IIIII)I" } : Jvm.MethodName)) ∈ kTb := kwm_6 111 rfl rfl
theorem kw_6_112 : (Jvm.Cond.instanceMethod ({ cls := "MarkChainsModel", name := "feed", desc := "(IIIII)I" } : Jvm.MethodName)) ∈ kTb := kwm_6 112 rfl rfl
theorem kw_6_113 : (Jvm.Cond.selects "MarkChainsModel" ({ cls := "MarkChainsModel", name := "feed", desc := "(IIIII)I" } : Jvm.MethodName) ({ cls := "MarkChainsModel", name := "feed", desc := "(IIIII)I" } : Jvm.MethodName)) ∈ kTb := kwm_6 113 rfl rfl
theorem kw_6_114 : (Jvm.Cond.code ({ cls := "MarkChainsModel", name := "feed", desc := "(IIIII)I" } : Jvm.MethodName) prog_14_method_6_code (6 : Nat) (Option.some Jvm.ClassFile.FieldType.int)) ∈ kTb := kwm_6 114 rfl rfl
theorem kw_6_115 : (Jvm.Cond.methodLink "MarkChainsModel" (79 : Nat) ({ cls := "MarkChainsModel", name := "four", desc := "(I)V" } : Jvm.MethodName)) ∈ kTb := kwm_6 115 rfl rfl
theorem kw_6_117 : (Jvm.Cond.instanceMethod ({ cls := "MarkChainsModel", name := "four", desc := "(I)V" } : Jvm.MethodName)) ∈ kTb := kwm_6 117 rfl rfl
theorem kw_6_118 : (Jvm.Cond.code ({ cls := "MarkChainsModel", name := "four", desc := "(I)V" } : Jvm.MethodName) prog_14_method_5_code (3 : Nat) (Option.none : Option Jvm.ClassFile.FieldType)) ∈ kTb := kwm_6 118 rfl rfl
theorem kw_6_119 : (Jvm.Cond.methodLink "MarkChainsLaw" (22 : Nat) ({ cls := "MarkChainsModel", name := "end", desc := "(I)I" } : Jvm.MethodName)) ∈ kTb := kwm_6 119 rfl rfl
theorem kw_6_120 : (Jvm.Cond.instanceMethod ({ cls := "MarkChainsModel", name := "end", desc := "(I)I" } : Jvm.MethodName)) ∈ kTb := kwm_6 120 rfl rfl
theorem kw_6_121 : (Jvm.Cond.selects "MarkChainsModel" ({ cls := "MarkChainsModel", name := "end", desc := "(I)I" } : Jvm.MethodName) ({ cls := "MarkChainsModel", name := "end", desc := "(I)I" } : Jvm.MethodName)) ∈ kTb := kwm_6 121 rfl rfl
theorem kw_6_122 : (Jvm.Cond.code ({ cls := "MarkChainsModel", name := "end", desc := "(I)I" } : Jvm.MethodName) prog_14_method_7_code (2 : Nat) (Option.some Jvm.ClassFile.FieldType.int)) ∈ kTb := kwm_6 122 rfl rfl
theorem kw_6_123 : (Jvm.Cond.methodLink "MarkChainsModel" (83 : Nat) ({ cls := "MarkChainsModel", name := "isIn", desc := "(III)Z" } : Jvm.MethodName)) ∈ kTb := kwm_6 123 rfl rfl
theorem kw_6_124 : (Jvm.Cond.static ({ cls := "MarkChainsModel", name := "isIn", desc := "(III)Z" } : Jvm.MethodName)) ∈ kTb := kwm_6 124 rfl rfl
theorem kw_6_125 : (Jvm.Cond.code ({ cls := "MarkChainsModel", name := "isIn", desc := "(III)Z" } : Jvm.MethodName) prog_14_method_1_code (3 : Nat) (Option.some Jvm.ClassFile.FieldType.boolean)) ∈ kTb := kwm_6 125 rfl rfl
theorem kw_6_126 : (Jvm.Cond.methodLink "MarkChainsLaw" (35 : Nat) ({ cls := "MarkChainsModel", name := "fault", desc := "()I" } : Jvm.MethodName)) ∈ kTb := kwm_6 126 rfl rfl
theorem kw_6_127 : (Jvm.Cond.instanceMethod ({ cls := "MarkChainsModel", name := "fault", desc := "()I" } : Jvm.MethodName)) ∈ kTb := kwm_6 127 rfl rfl
theorem kw_6_128 : (Jvm.Cond.selects "MarkChainsModel" ({ cls := "MarkChainsModel", name := "fault", desc := "()I" } : Jvm.MethodName) ({ cls := "MarkChainsModel", name := "fault", desc := "()I" } : Jvm.MethodName)) ∈ kTb := kwm_6 128 rfl rfl
theorem kw_6_129 : (Jvm.Cond.code ({ cls := "MarkChainsModel", name := "fault", desc := "()I" } : Jvm.MethodName) prog_14_method_8_code (1 : Nat) (Option.some Jvm.ClassFile.FieldType.int)) ∈ kTb := kwm_6 129 rfl rfl
theorem kw_6_130 : (Jvm.Cond.methodLink "MarkChainsLaw" (27 : Nat) ({ cls := "MarkChainsModel", name := "text", desc := "()I" } : Jvm.MethodName)) ∈ kTb := kwm_6 130 rfl rfl
theorem kw_6_131 : (Jvm.Cond.instanceMethod ({ cls := "MarkChainsModel", name := "text", desc := "()I" } : Jvm.MethodName)) ∈ kTb := kwm_6 131 rfl rfl
theorem kw_6_132 : (Jvm.Cond.selects "MarkChainsModel" ({ cls := "MarkChainsModel", name := "text", desc := "()I" } : Jvm.MethodName) ({ cls := "MarkChainsModel", name := "text", desc := "()I" } : Jvm.MethodName)) ∈ kTb := kwm_6 132 rfl rfl
theorem kw_6_133 : (Jvm.Cond.code ({ cls := "MarkChainsModel", name := "text", desc := "()I" } : Jvm.MethodName) prog_14_method_23_code (6 : Nat) (Option.some Jvm.ClassFile.FieldType.int)) ∈ kTb := kwm_6 133 rfl rfl
theorem kw_6_134 : (Jvm.Cond.methodLink "MarkChainsModel" (132 : Nat) ({ cls := "MarkChainsModel", name := "countItems", desc := "()I" } : Jvm.MethodName)) ∈ kTb := kwm_6 134 rfl rfl
theorem kw_6_136 : (Jvm.Cond.instanceMethod ({ cls := "MarkChainsModel", name := "countItems", desc := "()I" } : Jvm.MethodName)) ∈ kTb := kwm_6 136 rfl rfl
theorem kw_6_137 : (Jvm.Cond.code ({ cls := "MarkChainsModel", name := "countItems", desc := "()I" } : Jvm.MethodName) prog_14_method_22_code (1 : Nat) (Option.some Jvm.ClassFile.FieldType.int)) ∈ kTb := kwm_6 137 rfl rfl
theorem kw_6_138 : (Jvm.Cond.methodLink "MarkChainsModel" (135 : Nat) ({ cls := "MarkChainsModel", name := "beginText", desc := "()V" } : Jvm.MethodName)) ∈ kTb := kwm_6 138 rfl rfl
theorem kw_6_140 : (Jvm.Cond.instanceMethod ({ cls := "MarkChainsModel", name := "beginText", desc := "()V" } : Jvm.MethodName)) ∈ kTb := kwm_6 140 rfl rfl
theorem kw_6_141 : (Jvm.Cond.code ({ cls := "MarkChainsModel", name := "beginText", desc := "()V" } : Jvm.MethodName) prog_14_method_21_code (1 : Nat) (Option.none : Option Jvm.ClassFile.FieldType)) ∈ kTb := kwm_6 141 rfl rfl
theorem kw_6_142 : (Jvm.Cond.methodLink "MarkChainsModel" (138 : Nat) ({ cls := "MarkChainsModel", name := "readItem", desc := "()Z" } : Jvm.MethodName)) ∈ kTb := kwm_6 142 rfl rfl
theorem kw_6_144 : (Jvm.Cond.instanceMethod ({ cls := "MarkChainsModel", name := "readItem", desc := "()Z" } : Jvm.MethodName)) ∈ kTb := kwm_6 144 rfl rfl
theorem kw_6_145 : (Jvm.Cond.code ({ cls := "MarkChainsModel", name := "readItem", desc := "()Z" } : Jvm.MethodName) prog_14_method_20_code (1 : Nat) (Option.some Jvm.ClassFile.FieldType.boolean)) ∈ kTb := kwm_6 145 rfl rfl
theorem kw_6_146 : (Jvm.Cond.methodLink "MarkChainsModel" (90 : Nat) ({ cls := "MarkChainsModel", name := "here", desc := "()I" } : Jvm.MethodName)) ∈ kTb := kwm_6 146 rfl rfl
theorem kw_6_148 : (Jvm.Cond.instanceMethod ({ cls := "MarkChainsModel", name := "here", desc := "()I" } : Jvm.MethodName)) ∈ kTb := kwm_6 148 rfl rfl
theorem kw_6_149 : (Jvm.Cond.code ({ cls := "MarkChainsModel", name := "here", desc := "()I" } : Jvm.MethodName) prog_14_method_9_code (1 : Nat) (Option.some Jvm.ClassFile.FieldType.int)) ∈ kTb := kwm_6 149 rfl rfl
theorem kw_6_150 : (Jvm.Cond.methodLink "MarkChainsModel" (125 : Nat) ({ cls := "MarkChainsModel", name := "readTwo", desc := "(IIIIIII)Z" } : Jvm.MethodName)) ∈ kTb := kwm_6 150 rfl rfl
theorem kw_6_152 : (Jvm.Cond.instanceMethod ({ cls := "MarkChainsModel", name := "readTwo", desc := "(IIIIIII)Z" } : Jvm.MethodName)) ∈ kTb := kwm_6 152 rfl rfl
theorem kw_6_153 : (Jvm.Cond.code ({ cls := "MarkChainsModel", name := "readTwo", desc := "(IIIIIII)Z" } : Jvm.MethodName) prog_14_method_15_code (9 : Nat) (Option.some Jvm.ClassFile.FieldType.boolean)) ∈ kTb := kwm_6 153 rfl rfl
theorem kw_6_154 : (Jvm.Cond.methodLink "MarkChainsModel" (94 : Nat) ({ cls := "MarkChainsModel", name := "fails", desc := "(I)Z" } : Jvm.MethodName)) ∈ kTb := kwm_6 154 rfl rfl
theorem kw_6_156 : (Jvm.Cond.instanceMethod ({ cls := "MarkChainsModel", name := "fails", desc := "(I)Z" } : Jvm.MethodName)) ∈ kTb := kwm_6 156 rfl rfl
theorem kw_6_157 : (Jvm.Cond.code ({ cls := "MarkChainsModel", name := "fails", desc := "(I)Z" } : Jvm.MethodName) prog_14_method_11_code (2 : Nat) (Option.some Jvm.ClassFile.FieldType.boolean)) ∈ kTb := kwm_6 157 rfl rfl
theorem kw_6_158 : (Jvm.Cond.methodLink "MarkChainsModel" (108 : Nat) ({ cls := "MarkChainsModel", name := "readNumber", desc := "(III)Z" } : Jvm.MethodName)) ∈ kTb := kwm_6 158 rfl rfl
theorem kw_6_160 : (Jvm.Cond.instanceMethod ({ cls := "MarkChainsModel", name := "readNumber", desc := "(III)Z" } : Jvm.MethodName)) ∈ kTb := kwm_6 160 rfl rfl
theorem kw_6_161 : (Jvm.Cond.code ({ cls := "MarkChainsModel", name := "readNumber", desc := "(III)Z" } : Jvm.MethodName) prog_14_method_14_code (7 : Nat) (Option.some Jvm.ClassFile.FieldType.boolean)) ∈ kTb := kwm_6 161 rfl rfl
theorem kw_6_162 : (Jvm.Cond.methodLink "MarkChainsModel" (104 : Nat) ({ cls := "MarkChainsModel", name := "readDigits", desc := "()Z" } : Jvm.MethodName)) ∈ kTb := kwm_6 162 rfl rfl
theorem kw_6_164 : (Jvm.Cond.instanceMethod ({ cls := "MarkChainsModel", name := "readDigits", desc := "()Z" } : Jvm.MethodName)) ∈ kTb := kwm_6 164 rfl rfl
theorem kw_6_165 : (Jvm.Cond.code ({ cls := "MarkChainsModel", name := "readDigits", desc := "()Z" } : Jvm.MethodName) prog_14_method_13_code (2 : Nat) (Option.some Jvm.ClassFile.FieldType.boolean)) ∈ kTb := kwm_6 165 rfl rfl
theorem kw_6_166 : (Jvm.Cond.methodLink "MarkChainsModel" (98 : Nat) ({ cls := "MarkChainsModel", name := "isFigure", desc := "(I)Z" } : Jvm.MethodName)) ∈ kTb := kwm_6 166 rfl rfl
theorem kw_6_167 : (Jvm.Cond.static ({ cls := "MarkChainsModel", name := "isFigure", desc := "(I)Z" } : Jvm.MethodName)) ∈ kTb := kwm_6 167 rfl rfl
theorem kw_6_168 : (Jvm.Cond.code ({ cls := "MarkChainsModel", name := "isFigure", desc := "(I)Z" } : Jvm.MethodName) prog_14_method_10_code (1 : Nat) (Option.some Jvm.ClassFile.FieldType.boolean)) ∈ kTb := kwm_6 168 rfl rfl
theorem kw_6_169 : (Jvm.Cond.methodLink "MarkChainsModel" (111 : Nat) ({ cls := "MarkChainsModel", name := "takes", desc := "(I)Z" } : Jvm.MethodName)) ∈ kTb := kwm_6 169 rfl rfl
theorem kw_6_171 : (Jvm.Cond.instanceMethod ({ cls := "MarkChainsModel", name := "takes", desc := "(I)Z" } : Jvm.MethodName)) ∈ kTb := kwm_6 171 rfl rfl
theorem kw_6_172 : (Jvm.Cond.code ({ cls := "MarkChainsModel", name := "takes", desc := "(I)Z" } : Jvm.MethodName) prog_14_method_12_code (2 : Nat) (Option.some Jvm.ClassFile.FieldType.boolean)) ∈ kTb := kwm_6 172 rfl rfl
theorem kw_6_173 : (Jvm.Cond.methodLink "MarkChainsModel" (129 : Nat) ({ cls := "MarkChainsModel", name := "readMark", desc := "()Z" } : Jvm.MethodName)) ∈ kTb := kwm_6 173 rfl rfl
theorem kw_6_175 : (Jvm.Cond.instanceMethod ({ cls := "MarkChainsModel", name := "readMark", desc := "()Z" } : Jvm.MethodName)) ∈ kTb := kwm_6 175 rfl rfl
theorem kw_6_176 : (Jvm.Cond.code ({ cls := "MarkChainsModel", name := "readMark", desc := "()Z" } : Jvm.MethodName) prog_14_method_19_code (3 : Nat) (Option.some Jvm.ClassFile.FieldType.boolean)) ∈ kTb := kwm_6 176 rfl rfl
theorem kw_6_177 : (Jvm.Cond.methodLink "MarkChainsModel" (115 : Nat) ({ cls := "MarkChainsModel", name := "markAt", desc := "(I)I" } : Jvm.MethodName)) ∈ kTb := kwm_6 177 rfl rfl
theorem kw_6_178 : (Jvm.Cond.static ({ cls := "MarkChainsModel", name := "markAt", desc := "(I)I" } : Jvm.MethodName)) ∈ kTb := kwm_6 178 rfl rfl
theorem kw_6_179 : (Jvm.Cond.code ({ cls := "MarkChainsModel", name := "markAt", desc := "(I)I" } : Jvm.MethodName) prog_14_method_18_code (1 : Nat) (Option.some Jvm.ClassFile.FieldType.int)) ∈ kTb := kwm_6 179 rfl rfl
theorem kw_6_180 : (Jvm.Cond.methodLink "MarkChainsModel" (119 : Nat) ({ cls := "MarkChainsModel", name := "lowOf", desc := "(I)I" } : Jvm.MethodName)) ∈ kTb := kwm_6 180 rfl rfl
theorem kw_6_182 : (Jvm.Cond.instanceMethod ({ cls := "MarkChainsModel", name := "lowOf", desc := "(I)I" } : Jvm.MethodName)) ∈ kTb := kwm_6 182 rfl rfl
theorem kw_6_183 : (Jvm.Cond.code ({ cls := "MarkChainsModel", name := "lowOf", desc := "(I)I" } : Jvm.MethodName) prog_14_method_16_code (2 : Nat) (Option.some Jvm.ClassFile.FieldType.int)) ∈ kTb := kwm_6 183 rfl rfl
theorem kw_6_184 : (Jvm.Cond.methodLink "MarkChainsModel" (122 : Nat) ({ cls := "MarkChainsModel", name := "highOf", desc := "(I)I" } : Jvm.MethodName)) ∈ kTb := kwm_6 184 rfl rfl
theorem kw_6_186 : (Jvm.Cond.instanceMethod ({ cls := "MarkChainsModel", name := "highOf", desc := "(I)I" } : Jvm.MethodName)) ∈ kTb := kwm_6 186 rfl rfl
theorem kw_6_187 : (Jvm.Cond.code ({ cls := "MarkChainsModel", name := "highOf", desc := "(I)I" } : Jvm.MethodName) prog_14_method_17_code (2 : Nat) (Option.some Jvm.ClassFile.FieldType.int)) ∈ kTb := kwm_6 187 rfl rfl
theorem kw_6_188 : (Jvm.Cond.constant "MarkChainsModel" (114 : Nat) (1000000 : Int32)) ∈ kTb := kwm_6 188 rfl rfl
theorem kw_6_189 : (Jvm.Cond.methodLink "MarkChainsModel" (141 : Nat) ({ cls := "MarkChainsModel", name := "deed", desc := "()V" } : Jvm.MethodName)) ∈ kTb := kwm_6 189 rfl rfl
theorem kw_6_191 : (Jvm.Cond.instanceMethod ({ cls := "MarkChainsModel", name := "deed", desc := "()V" } : Jvm.MethodName)) ∈ kTb := kwm_6 191 rfl rfl
theorem kw_6_192 : (Jvm.Cond.code ({ cls := "MarkChainsModel", name := "deed", desc := "()V" } : Jvm.MethodName) prog_14_method_3_code (2 : Nat) (Option.none : Option Jvm.ClassFile.FieldType)) ∈ kTb := kwm_6 192 rfl rfl
theorem kw_6_193 : (Jvm.Cond.methodLink "MarkChainsLaw" (31 : Nat) ({ cls := "MarkChainsModel", name := "needs", desc := "()I" } : Jvm.MethodName)) ∈ kTb := kwm_6 193 rfl rfl
theorem kw_6_194 : (Jvm.Cond.instanceMethod ({ cls := "MarkChainsModel", name := "needs", desc := "()I" } : Jvm.MethodName)) ∈ kTb := kwm_6 194 rfl rfl
theorem kw_6_195 : (Jvm.Cond.selects "MarkChainsModel" ({ cls := "MarkChainsModel", name := "needs", desc := "()I" } : Jvm.MethodName) ({ cls := "MarkChainsModel", name := "needs", desc := "()I" } : Jvm.MethodName)) ∈ kTb := kwm_6 195 rfl rfl
theorem kw_6_196 : (Jvm.Cond.code ({ cls := "MarkChainsModel", name := "needs", desc := "()I" } : Jvm.MethodName) prog_14_method_34_code (4 : Nat) (Option.some Jvm.ClassFile.FieldType.int)) ∈ kTb := kwm_6 196 rfl rfl
theorem kw_6_197 : (Jvm.Cond.methodLink "MarkChainsModel" (182 : Nat) ({ cls := "MarkChainsModel", name := "beginCode", desc := "()V" } : Jvm.MethodName)) ∈ kTb := kwm_6 197 rfl rfl
theorem kw_6_199 : (Jvm.Cond.instanceMethod ({ cls := "MarkChainsModel", name := "beginCode", desc := "()V" } : Jvm.MethodName)) ∈ kTb := kwm_6 199 rfl rfl
theorem kw_6_200 : (Jvm.Cond.code ({ cls := "MarkChainsModel", name := "beginCode", desc := "()V" } : Jvm.MethodName) prog_14_method_33_code (1 : Nat) (Option.none : Option Jvm.ClassFile.FieldType)) ∈ kTb := kwm_6 200 rfl rfl
theorem kw_6_201 : (Jvm.Cond.methodLink "MarkChainsModel" (185 : Nat) ({ cls := "MarkChainsModel", name := "readCond", desc := "()Z" } : Jvm.MethodName)) ∈ kTb := kwm_6 201 rfl rfl
theorem kw_6_203 : (Jvm.Cond.instanceMethod ({ cls := "MarkChainsModel", name := "readCond", desc := "()Z" } : Jvm.MethodName)) ∈ kTb := kwm_6 203 rfl rfl
theorem kw_6_204 : (Jvm.Cond.code ({ cls := "MarkChainsModel", name := "readCond", desc := "()Z" } : Jvm.MethodName) prog_14_method_32_code (2 : Nat) (Option.some Jvm.ClassFile.FieldType.boolean)) ∈ kTb := kwm_6 204 rfl rfl
theorem kw_6_205 : (Jvm.Cond.methodLink "MarkChainsModel" (173 : Nat) ({ cls := "MarkChainsModel", name := "readOpen", desc := "()Z" } : Jvm.MethodName)) ∈ kTb := kwm_6 205 rfl rfl
theorem kw_6_207 : (Jvm.Cond.instanceMethod ({ cls := "MarkChainsModel", name := "readOpen", desc := "()Z" } : Jvm.MethodName)) ∈ kTb := kwm_6 207 rfl rfl
theorem kw_6_208 : (Jvm.Cond.code ({ cls := "MarkChainsModel", name := "readOpen", desc := "()Z" } : Jvm.MethodName) prog_14_method_30_code (1 : Nat) (Option.some Jvm.ClassFile.FieldType.boolean)) ∈ kTb := kwm_6 208 rfl rfl
theorem kw_6_209 : (Jvm.Cond.methodLink "MarkChainsModel" (176 : Nat) ({ cls := "MarkChainsModel", name := "readCompared", desc := "()Z" } : Jvm.MethodName)) ∈ kTb := kwm_6 209 rfl rfl
theorem kw_6_211 : (Jvm.Cond.instanceMethod ({ cls := "MarkChainsModel", name := "readCompared", desc := "()Z" } : Jvm.MethodName)) ∈ kTb := kwm_6 211 rfl rfl
theorem kw_6_212 : (Jvm.Cond.code ({ cls := "MarkChainsModel", name := "readCompared", desc := "()Z" } : Jvm.MethodName) prog_14_method_29_code (2 : Nat) (Option.some Jvm.ClassFile.FieldType.boolean)) ∈ kTb := kwm_6 212 rfl rfl
theorem kw_6_213 : (Jvm.Cond.methodLink "MarkChainsModel" (164 : Nat) ({ cls := "MarkChainsModel", name := "readSum", desc := "()Z" } : Jvm.MethodName)) ∈ kTb := kwm_6 213 rfl rfl
theorem kw_6_215 : (Jvm.Cond.instanceMethod ({ cls := "MarkChainsModel", name := "readSum", desc := "()Z" } : Jvm.MethodName)) ∈ kTb := kwm_6 215 rfl rfl
theorem kw_6_216 : (Jvm.Cond.code ({ cls := "MarkChainsModel", name := "readSum", desc := "()Z" } : Jvm.MethodName) prog_14_method_28_code (2 : Nat) (Option.some Jvm.ClassFile.FieldType.boolean)) ∈ kTb := kwm_6 216 rfl rfl
theorem kw_6_217 : (Jvm.Cond.methodLink "MarkChainsModel" (161 : Nat) ({ cls := "MarkChainsModel", name := "readProduct", desc := "()Z" } : Jvm.MethodName)) ∈ kTb := kwm_6 217 rfl rfl
theorem kw_6_219 : (Jvm.Cond.instanceMethod ({ cls := "MarkChainsModel", name := "readProduct", desc := "()Z" } : Jvm.MethodName)) ∈ kTb := kwm_6 219 rfl rfl
theorem kw_6_220 : (Jvm.Cond.code ({ cls := "MarkChainsModel", name := "readProduct", desc := "()Z" } : Jvm.MethodName) prog_14_method_27_code (2 : Nat) (Option.some Jvm.ClassFile.FieldType.boolean)) ∈ kTb := kwm_6 220 rfl rfl
theorem kw_6_221 : (Jvm.Cond.methodLink "MarkChainsModel" (157 : Nat) ({ cls := "MarkChainsModel", name := "readThing", desc := "()Z" } : Jvm.MethodName)) ∈ kTb := kwm_6 221 rfl rfl
theorem kw_6_223 : (Jvm.Cond.instanceMethod ({ cls := "MarkChainsModel", name := "readThing", desc := "()Z" } : Jvm.MethodName)) ∈ kTb := kwm_6 223 rfl rfl
theorem kw_6_224 : (Jvm.Cond.code ({ cls := "MarkChainsModel", name := "readThing", desc := "()Z" } : Jvm.MethodName) prog_14_method_26_code (2 : Nat) (Option.some Jvm.ClassFile.FieldType.boolean)) ∈ kTb := kwm_6 224 rfl rfl
theorem kw_6_225 : (Jvm.Cond.methodLink "MarkChainsModel" (147 : Nat) ({ cls := "MarkChainsModel", name := "nameOf", desc := "(I)I" } : Jvm.MethodName)) ∈ kTb := kwm_6 225 rfl rfl
theorem kw_6_226 : (Jvm.Cond.static ({ cls := "MarkChainsModel", name := "nameOf", desc := "(I)I" } : Jvm.MethodName)) ∈ kTb := kwm_6 226 rfl rfl
theorem kw_6_227 : (Jvm.Cond.code ({ cls := "MarkChainsModel", name := "nameOf", desc := "(I)I" } : Jvm.MethodName) prog_14_method_25_code (1 : Nat) (Option.some Jvm.ClassFile.FieldType.int)) ∈ kTb := kwm_6 227 rfl rfl
theorem kw_6_228 : (Jvm.Cond.methodLink "MarkChainsModel" (153 : Nat) ({ cls := "MarkChainsModel", name := "does", desc := "(I)V" } : Jvm.MethodName)) ∈ kTb := kwm_6 228 rfl rfl
theorem kw_6_230 : (Jvm.Cond.instanceMethod ({ cls := "MarkChainsModel", name := "does", desc := "(I)V" } : Jvm.MethodName)) ∈ kTb := kwm_6 230 rfl rfl
theorem kw_6_231 : (Jvm.Cond.code ({ cls := "MarkChainsModel", name := "does", desc := "(I)V" } : Jvm.MethodName) prog_14_method_24_code (2 : Nat) (Option.none : Option Jvm.ClassFile.FieldType)) ∈ kTb := kwm_6 231 rfl rfl
theorem kw_6_232 : (Jvm.Cond.constant "MarkChainsModel" (156 : Nat) (10000000 : Int32)) ∈ kTb := kwm_6 232 rfl rfl
theorem kw_6_233 : (Jvm.Cond.constant "MarkChainsModel" (160 : Nat) (20000000 : Int32)) ∈ kTb := kwm_6 233 rfl rfl
theorem kw_6_234 : (Jvm.Cond.methodLink "MarkChainsModel" (179 : Nat) ({ cls := "MarkChainsModel", name := "behindTest", desc := "()I" } : Jvm.MethodName)) ∈ kTb := kwm_6 234 rfl rfl
theorem kw_6_236 : (Jvm.Cond.instanceMethod ({ cls := "MarkChainsModel", name := "behindTest", desc := "()I" } : Jvm.MethodName)) ∈ kTb := kwm_6 236 rfl rfl
theorem kw_6_237 : (Jvm.Cond.code ({ cls := "MarkChainsModel", name := "behindTest", desc := "()I" } : Jvm.MethodName) prog_14_method_31_code (1 : Nat) (Option.some Jvm.ClassFile.FieldType.int)) ∈ kTb := kwm_6 237 rfl rfl
theorem kw_6_238 : (Jvm.Cond.constant "MarkChainsModel" (170 : Nat) (20000033 : Int32)) ∈ kTb := kwm_6 238 rfl rfl
theorem kw_6_239 : (Jvm.Cond.constant "MarkChainsModel" (171 : Nat) (20000038 : Int32)) ∈ kTb := kwm_6 239 rfl rfl
theorem kw_7_0 : (Jvm.Cond.constant "MarkChainsModel" (172 : Nat) (20000124 : Int32)) ∈ kTb := kwm_7 0 rfl rfl
theorem kw_7_1 : (Jvm.Cond.methodLink "MarkChainsLaw" (126 : Nat) ({ cls := "MarkChainsModel", name := "score", desc := "()I" } : Jvm.MethodName)) ∈ kTb := kwm_7 1 rfl rfl
theorem kw_7_2 : (Jvm.Cond.instanceMethod ({ cls := "MarkChainsModel", name := "score", desc := "()I" } : Jvm.MethodName)) ∈ kTb := kwm_7 2 rfl rfl
theorem kw_7_3 : (Jvm.Cond.selects "MarkChainsModel" ({ cls := "MarkChainsModel", name := "score", desc := "()I" } : Jvm.MethodName) ({ cls := "MarkChainsModel", name := "score", desc := "()I" } : Jvm.MethodName)) ∈ kTb := kwm_7 3 rfl rfl
theorem kw_7_4 : (Jvm.Cond.code ({ cls := "MarkChainsModel", name := "score", desc := "()I" } : Jvm.MethodName) prog_14_method_35_code (3 : Nat) (Option.some Jvm.ClassFile.FieldType.int)) ∈ kTb := kwm_7 4 rfl rfl
theorem kw_7_5 : (Jvm.Cond.methodLink "MarkChainsLaw" (53 : Nat) ({ cls := "MarkChainsModel", name := "good", desc := "(I)I" } : Jvm.MethodName)) ∈ kTb := kwm_7 5 rfl rfl
theorem kw_7_6 : (Jvm.Cond.instanceMethod ({ cls := "MarkChainsModel", name := "good", desc := "(I)I" } : Jvm.MethodName)) ∈ kTb := kwm_7 6 rfl rfl
theorem kw_7_7 : (Jvm.Cond.selects "MarkChainsModel" ({ cls := "MarkChainsModel", name := "good", desc := "(I)I" } : Jvm.MethodName) ({ cls := "MarkChainsModel", name := "good", desc := "(I)I" } : Jvm.MethodName)) ∈ kTb := kwm_7 7 rfl rfl
theorem kw_7_8 : (Jvm.Cond.code ({ cls := "MarkChainsModel", name := "good", desc := "(I)I" } : Jvm.MethodName) prog_14_method_44_code (2 : Nat) (Option.some Jvm.ClassFile.FieldType.int)) ∈ kTb := kwm_7 8 rfl rfl
theorem kw_7_9 : (Jvm.Cond.methodLink "MarkChainsModel" (208 : Nat) ({ cls := "MarkChainsModel", name := "isMark", desc := "(I)Z" } : Jvm.MethodName)) ∈ kTb := kwm_7 9 rfl rfl
theorem kw_7_11 : (Jvm.Cond.instanceMethod ({ cls := "MarkChainsModel", name := "isMark", desc := "(I)Z" } : Jvm.MethodName)) ∈ kTb := kwm_7 11 rfl rfl
theorem kw_7_12 : (Jvm.Cond.code ({ cls := "MarkChainsModel", name := "isMark", desc := "(I)Z" } : Jvm.MethodName) prog_14_method_36_code (2 : Nat) (Option.some Jvm.ClassFile.FieldType.boolean)) ∈ kTb := kwm_7 12 rfl rfl
theorem kw_7_13 : (Jvm.Cond.methodLink "MarkChainsModel" (211 : Nat) ({ cls := "MarkChainsModel", name := "whyNotGood", desc := "(I)I" } : Jvm.MethodName)) ∈ kTb := kwm_7 13 rfl rfl
theorem kw_7_15 : (Jvm.Cond.instanceMethod ({ cls := "MarkChainsModel", name := "whyNotGood", desc := "(I)I" } : Jvm.MethodName)) ∈ kTb := kwm_7 15 rfl rfl
theorem kw_7_16 : (Jvm.Cond.code ({ cls := "MarkChainsModel", name := "whyNotGood", desc := "(I)I" } : Jvm.MethodName) prog_14_method_43_code (3 : Nat) (Option.some Jvm.ClassFile.FieldType.int)) ∈ kTb := kwm_7 16 rfl rfl
theorem kw_7_17 : (Jvm.Cond.methodLink "MarkChainsModel" (205 : Nat) ({ cls := "MarkChainsModel", name := "worked", desc := "(III)I" } : Jvm.MethodName)) ∈ kTb := kwm_7 17 rfl rfl
theorem kw_7_19 : (Jvm.Cond.instanceMethod ({ cls := "MarkChainsModel", name := "worked", desc := "(III)I" } : Jvm.MethodName)) ∈ kTb := kwm_7 19 rfl rfl
theorem kw_7_20 : (Jvm.Cond.code ({ cls := "MarkChainsModel", name := "worked", desc := "(III)I" } : Jvm.MethodName) prog_14_method_42_code (7 : Nat) (Option.some Jvm.ClassFile.FieldType.int)) ∈ kTb := kwm_7 20 rfl rfl
theorem kw_7_21 : (Jvm.Cond.methodLink "MarkChainsModel" (198 : Nat) ({ cls := "MarkChainsModel", name := "nameNow", desc := "(II)I" } : Jvm.MethodName)) ∈ kTb := kwm_7 21 rfl rfl
theorem kw_7_23 : (Jvm.Cond.instanceMethod ({ cls := "MarkChainsModel", name := "nameNow", desc := "(II)I" } : Jvm.MethodName)) ∈ kTb := kwm_7 23 rfl rfl
theorem kw_7_24 : (Jvm.Cond.code ({ cls := "MarkChainsModel", name := "nameNow", desc := "(II)I" } : Jvm.MethodName) prog_14_method_40_code (3 : Nat) (Option.some Jvm.ClassFile.FieldType.int)) ∈ kTb := kwm_7 24 rfl rfl
theorem kw_7_25 : (Jvm.Cond.methodLink "MarkChainsModel" (188 : Nat) ({ cls := "MarkChainsModel", name := "of", desc := "(II)I" } : Jvm.MethodName)) ∈ kTb := kwm_7 25 rfl rfl
theorem kw_7_27 : (Jvm.Cond.instanceMethod ({ cls := "MarkChainsModel", name := "of", desc := "(II)I" } : Jvm.MethodName)) ∈ kTb := kwm_7 27 rfl rfl
theorem kw_7_28 : (Jvm.Cond.code ({ cls := "MarkChainsModel", name := "of", desc := "(II)I" } : Jvm.MethodName) prog_14_method_37_code (3 : Nat) (Option.some Jvm.ClassFile.FieldType.int)) ∈ kTb := kwm_7 28 rfl rfl
theorem kw_7_29 : (Jvm.Cond.methodLink "MarkChainsModel" (192 : Nat) ({ cls := "MarkChainsModel", name := "ageOf", desc := "(I)I" } : Jvm.MethodName)) ∈ kTb := kwm_7 29 rfl rfl
theorem kw_7_31 : (Jvm.Cond.instanceMethod ({ cls := "MarkChainsModel", name := "ageOf", desc := "(I)I" } : Jvm.MethodName)) ∈ kTb := kwm_7 31 rfl rfl
theorem kw_7_32 : (Jvm.Cond.code ({ cls := "MarkChainsModel", name := "ageOf", desc := "(I)I" } : Jvm.MethodName) prog_14_method_38_code (2 : Nat) (Option.some Jvm.ClassFile.FieldType.int)) ∈ kTb := kwm_7 32 rfl rfl
theorem kw_7_33 : (Jvm.Cond.methodLink "MarkChainsModel" (195 : Nat) ({ cls := "MarkChainsModel", name := "eventOf", desc := "(II)I" } : Jvm.MethodName)) ∈ kTb := kwm_7 33 rfl rfl
theorem kw_7_35 : (Jvm.Cond.instanceMethod ({ cls := "MarkChainsModel", name := "eventOf", desc := "(II)I" } : Jvm.MethodName)) ∈ kTb := kwm_7 35 rfl rfl
theorem kw_7_36 : (Jvm.Cond.code ({ cls := "MarkChainsModel", name := "eventOf", desc := "(II)I" } : Jvm.MethodName) prog_14_method_39_code (3 : Nat) (Option.some Jvm.ClassFile.FieldType.int)) ∈ kTb := kwm_7 36 rfl rfl
theorem kw_7_37 : (Jvm.Cond.methodLink "MarkChainsModel" (201 : Nat) ({ cls := "MarkChainsModel", name := "joined", desc := "(III)I" } : Jvm.MethodName)) ∈ kTb := kwm_7 37 rfl rfl
theorem kw_7_38 : (Jvm.Cond.static ({ cls := "MarkChainsModel", name := "joined", desc := "(III)I" } : Jvm.MethodName)) ∈ kTb := kwm_7 38 rfl rfl
theorem kw_7_39 : (Jvm.Cond.code ({ cls := "MarkChainsModel", name := "joined", desc := "(III)I" } : Jvm.MethodName) prog_14_method_41_code (3 : Nat) (Option.some Jvm.ClassFile.FieldType.int)) ∈ kTb := kwm_7 39 rfl rfl
theorem kw_7_40 : (Jvm.Cond.methodLink "MarkChainsLaw" (44 : Nat) ({ cls := "MarkChainsModel", name := "mark", desc := "(II)I" } : Jvm.MethodName)) ∈ kTb := kwm_7 40 rfl rfl
theorem kw_7_41 : (Jvm.Cond.instanceMethod ({ cls := "MarkChainsModel", name := "mark", desc := "(II)I" } : Jvm.MethodName)) ∈ kTb := kwm_7 41 rfl rfl
theorem kw_7_42 : (Jvm.Cond.selects "MarkChainsModel" ({ cls := "MarkChainsModel", name := "mark", desc := "(II)I" } : Jvm.MethodName) ({ cls := "MarkChainsModel", name := "mark", desc := "(II)I" } : Jvm.MethodName)) ∈ kTb := kwm_7 42 rfl rfl
theorem kw_7_43 : (Jvm.Cond.code ({ cls := "MarkChainsModel", name := "mark", desc := "(II)I" } : Jvm.MethodName) prog_14_method_45_code (3 : Nat) (Option.some Jvm.ClassFile.FieldType.int)) ∈ kTb := kwm_7 43 rfl rfl
theorem kw_7_44 : (Jvm.Cond.constant "MarkChainsModel" (214 : Nat) (-1000000 : Int32)) ∈ kTb := kwm_7 44 rfl rfl
theorem kw_7_45 : (Jvm.Cond.methodLink "MarkChainsLaw" (49 : Nat) ({ cls := "MarkChainsModel", name := "told", desc := "(III)I" } : Jvm.MethodName)) ∈ kTb := kwm_7 45 rfl rfl
theorem kw_7_46 : (Jvm.Cond.instanceMethod ({ cls := "MarkChainsModel", name := "told", desc := "(III)I" } : Jvm.MethodName)) ∈ kTb := kwm_7 46 rfl rfl
theorem kw_7_47 : (Jvm.Cond.selects "MarkChainsModel" ({ cls := "MarkChainsModel", name := "told", desc := "(III)I" } : Jvm.MethodName) ({ cls := "MarkChainsModel", name := "told", desc := "(III)I" } : Jvm.MethodName)) ∈ kTb := kwm_7 47 rfl rfl
theorem kw_7_48 : (Jvm.Cond.code ({ cls := "MarkChainsModel", name := "told", desc := "(III)I" } : Jvm.MethodName) prog_14_method_46_code (4 : Nat) (Option.some Jvm.ClassFile.FieldType.int)) ∈ kTb := kwm_7 48 rfl rfl
theorem kw_7_49 : (Jvm.Cond.methodLink "MarkChainsLaw" (39 : Nat) ({ cls := "MarkChainsModel", name := "is", desc := "(I)I" } : Jvm.MethodName)) ∈ kTb := kwm_7 49 rfl rfl
theorem kw_7_50 : (Jvm.Cond.instanceMethod ({ cls := "MarkChainsModel", name := "is", desc := "(I)I" } : Jvm.MethodName)) ∈ kTb := kwm_7 50 rfl rfl
theorem kw_7_51 : (Jvm.Cond.selects "MarkChainsModel" ({ cls := "MarkChainsModel", name := "is", desc := "(I)I" } : Jvm.MethodName) ({ cls := "MarkChainsModel", name := "is", desc := "(I)I" } : Jvm.MethodName)) ∈ kTb := kwm_7 51 rfl rfl
theorem kw_7_52 : (Jvm.Cond.code ({ cls := "MarkChainsModel", name := "is", desc := "(I)I" } : Jvm.MethodName) prog_14_method_48_code (4 : Nat) (Option.some Jvm.ClassFile.FieldType.int)) ∈ kTb := kwm_7 52 rfl rfl
theorem kw_7_53 : (Jvm.Cond.methodLink "MarkChainsModel" (219 : Nat) ({ cls := "MarkChainsModel", name := "isSuch", desc := "(II)Z" } : Jvm.MethodName)) ∈ kTb := kwm_7 53 rfl rfl
theorem kw_7_55 : (Jvm.Cond.instanceMethod ({ cls := "MarkChainsModel", name := "isSuch", desc := "(II)Z" } : Jvm.MethodName)) ∈ kTb := kwm_7 55 rfl rfl
theorem kw_7_56 : (Jvm.Cond.code ({ cls := "MarkChainsModel", name := "isSuch", desc := "(II)Z" } : Jvm.MethodName) prog_14_method_47_code (3 : Nat) (Option.some Jvm.ClassFile.FieldType.boolean)) ∈ kTb := kwm_7 56 rfl rfl
theorem kw_7_57 : (Jvm.Cond.methodLink "MarkChainsModel" (215 : Nat) ({ cls := "MarkChainsModel", name := "standsOn", desc := "(II)Z" } : Jvm.MethodName)) ∈ kTb := kwm_7 57 rfl rfl
theorem kw_7_59 : (Jvm.Cond.instanceMethod ({ cls := "MarkChainsModel", name := "standsOn", desc := "(II)Z" } : Jvm.MethodName)) ∈ kTb := kwm_7 59 rfl rfl
theorem kw_7_60 : (Jvm.Cond.code ({ cls := "MarkChainsModel", name := "standsOn", desc := "(II)Z" } : Jvm.MethodName) prog_14_method_55_code (3 : Nat) (Option.some Jvm.ClassFile.FieldType.boolean)) ∈ kTb := kwm_7 60 rfl rfl
theorem kw_7_61 : (Jvm.Cond.methodLink "MarkChainsLaw" (57 : Nat) ({ cls := "MarkChainsModel", name := "ratify", desc := "(I)I" } : Jvm.MethodName)) ∈ kTb := kwm_7 61 rfl rfl
theorem kw_7_62 : (Jvm.Cond.instanceMethod ({ cls := "MarkChainsModel", name := "ratify", desc := "(I)I" } : Jvm.MethodName)) ∈ kTb := kwm_7 62 rfl rfl
theorem kw_7_63 : (Jvm.Cond.selects "MarkChainsModel" ({ cls := "MarkChainsModel", name := "ratify", desc := "(I)I" } : Jvm.MethodName) ({ cls := "MarkChainsModel", name := "ratify", desc := "(I)I" } : Jvm.MethodName)) ∈ kTb := kwm_7 63 rfl rfl
theorem kw_7_64 : (Jvm.Cond.code ({ cls := "MarkChainsModel", name := "ratify", desc := "(I)I" } : Jvm.MethodName) prog_14_method_49_code (2 : Nat) (Option.some Jvm.ClassFile.FieldType.int)) ∈ kTb := kwm_7 64 rfl rfl
theorem kw_7_65 : (Jvm.Cond.methodLink "MarkChainsLaw" (61 : Nat) ({ cls := "MarkChainsModel", name := "strike", desc := "(I)I" } : Jvm.MethodName)) ∈ kTb := kwm_7 65 rfl rfl
theorem kw_7_66 : (Jvm.Cond.instanceMethod ({ cls := "MarkChainsModel", name := "strike", desc := "(I)I" } : Jvm.MethodName)) ∈ kTb := kwm_7 66 rfl rfl
theorem kw_7_67 : (Jvm.Cond.selects "MarkChainsModel" ({ cls := "MarkChainsModel", name := "strike", desc := "(I)I" } : Jvm.MethodName) ({ cls := "MarkChainsModel", name := "strike", desc := "(I)I" } : Jvm.MethodName)) ∈ kTb := kwm_7 67 rfl rfl
theorem kw_7_68 : (Jvm.Cond.code ({ cls := "MarkChainsModel", name := "strike", desc := "(I)I" } : Jvm.MethodName) prog_14_method_50_code (2 : Nat) (Option.some Jvm.ClassFile.FieldType.int)) ∈ kTb := kwm_7 68 rfl rfl
theorem kw_7_69 : (Jvm.Cond.methodLink "MarkChainsLaw" (65 : Nat) ({ cls := "MarkChainsModel", name := "ban", desc := "(III)I" } : Jvm.MethodName)) ∈ kTb := kwm_7 69 rfl rfl
theorem kw_7_70 : (Jvm.Cond.instanceMethod ({ cls := "MarkChainsModel", name := "ban", desc := "(III)I" } : Jvm.MethodName)) ∈ kTb := kwm_7 70 rfl rfl
theorem kw_7_71 : (Jvm.Cond.selects "MarkChainsModel" ({ cls := "MarkChainsModel", name := "ban", desc := "(III)I" } : Jvm.MethodName) ({ cls := "MarkChainsModel", name := "ban", desc := "(III)I" } : Jvm.MethodName)) ∈ kTb := kwm_7 71 rfl rfl
theorem kw_7_72 : (Jvm.Cond.code ({ cls := "MarkChainsModel", name := "ban", desc := "(III)I" } : Jvm.MethodName) prog_14_method_52_code (6 : Nat) (Option.some Jvm.ClassFile.FieldType.int)) ∈ kTb := kwm_7 72 rfl rfl
theorem kw_7_73 : (Jvm.Cond.methodLink "MarkChainsModel" (222 : Nat) ({ cls := "MarkChainsModel", name := "isAthlete", desc := "(I)Z" } : Jvm.MethodName)) ∈ kTb := kwm_7 73 rfl rfl
theorem kw_7_75 : (Jvm.Cond.instanceMethod ({ cls := "MarkChainsModel", name := "isAthlete", desc := "(I)Z" } : Jvm.MethodName)) ∈ kTb := kwm_7 75 rfl rfl
theorem kw_7_76 : (Jvm.Cond.code ({ cls := "MarkChainsModel", name := "isAthlete", desc := "(I)Z" } : Jvm.MethodName) prog_14_method_51_code (2 : Nat) (Option.some Jvm.ClassFile.FieldType.boolean)) ∈ kTb := kwm_7 76 rfl rfl
theorem kw_7_77 : (Jvm.Cond.methodLink "MarkChainsLaw" (69 : Nat) ({ cls := "MarkChainsModel", name := "paper", desc := "(II)I" } : Jvm.MethodName)) ∈ kTb := kwm_7 77 rfl rfl
theorem kw_7_78 : (Jvm.Cond.instanceMethod ({ cls := "MarkChainsModel", name := "paper", desc := "(II)I" } : Jvm.MethodName)) ∈ kTb := kwm_7 78 rfl rfl
theorem kw_7_79 : (Jvm.Cond.selects "MarkChainsModel" ({ cls := "MarkChainsModel", name := "paper", desc := "(II)I" } : Jvm.MethodName) ({ cls := "MarkChainsModel", name := "paper", desc := "(II)I" } : Jvm.MethodName)) ∈ kTb := kwm_7 79 rfl rfl
theorem kw_7_80 : (Jvm.Cond.code ({ cls := "MarkChainsModel", name := "paper", desc := "(II)I" } : Jvm.MethodName) prog_14_method_53_code (3 : Nat) (Option.some Jvm.ClassFile.FieldType.int)) ∈ kTb := kwm_7 80 rfl rfl
theorem kw_7_81 : (Jvm.Cond.methodLink "MarkChainsLaw" (73 : Nat) ({ cls := "MarkChainsModel", name := "days", desc := "(I)I" } : Jvm.MethodName)) ∈ kTb := kwm_7 81 rfl rfl
theorem kw_7_82 : (Jvm.Cond.instanceMethod ({ cls := "MarkChainsModel", name := "days", desc := "(I)I" } : Jvm.MethodName)) ∈ kTb := kwm_7 82 rfl rfl
theorem kw_7_83 : (Jvm.Cond.selects "MarkChainsModel" ({ cls := "MarkChainsModel", name := "days", desc := "(I)I" } : Jvm.MethodName) ({ cls := "MarkChainsModel", name := "days", desc := "(I)I" } : Jvm.MethodName)) ∈ kTb := kwm_7 83 rfl rfl
theorem kw_7_84 : (Jvm.Cond.code ({ cls := "MarkChainsModel", name := "days", desc := "(I)I" } : Jvm.MethodName) prog_14_method_54_code (2 : Nat) (Option.some Jvm.ClassFile.FieldType.int)) ∈ kTb := kwm_7 84 rfl rfl
theorem kw_7_85 : (Jvm.Cond.methodLink "MarkChainsLaw" (77 : Nat) ({ cls := "MarkChainsModel", name := "within", desc := "(II)I" } : Jvm.MethodName)) ∈ kTb := kwm_7 85 rfl rfl
theorem kw_7_86 : (Jvm.Cond.instanceMethod ({ cls := "MarkChainsModel", name := "within", desc := "(II)I" } : Jvm.MethodName)) ∈ kTb := kwm_7 86 rfl rfl
theorem kw_7_87 : (Jvm.Cond.selects "MarkChainsModel" ({ cls := "MarkChainsModel", name := "within", desc := "(II)I" } : Jvm.MethodName) ({ cls := "MarkChainsModel", name := "within", desc := "(II)I" } : Jvm.MethodName)) ∈ kTb := kwm_7 87 rfl rfl
theorem kw_7_88 : (Jvm.Cond.code ({ cls := "MarkChainsModel", name := "within", desc := "(II)I" } : Jvm.MethodName) prog_14_method_58_code (3 : Nat) (Option.some Jvm.ClassFile.FieldType.int)) ∈ kTb := kwm_7 88 rfl rfl
theorem kw_7_89 : (Jvm.Cond.methodLink "MarkChainsModel" (225 : Nat) ({ cls := "MarkChainsModel", name := "isScope", desc := "(I)Z" } : Jvm.MethodName)) ∈ kTb := kwm_7 89 rfl rfl
theorem kw_7_90 : (Jvm.Cond.static ({ cls := "MarkChainsModel", name := "isScope", desc := "(I)Z" } : Jvm.MethodName)) ∈ kTb := kwm_7 90 rfl rfl
theorem kw_7_91 : (Jvm.Cond.code ({ cls := "MarkChainsModel", name := "isScope", desc := "(I)Z" } : Jvm.MethodName) prog_14_method_57_code (1 : Nat) (Option.some Jvm.ClassFile.FieldType.boolean)) ∈ kTb := kwm_7 91 rfl rfl
theorem kw_7_92 : (Jvm.Cond.methodLink "MarkChainsModel" (228 : Nat) ({ cls := "MarkChainsModel", name := "isWithin", desc := "(II)Z" } : Jvm.MethodName)) ∈ kTb := kwm_7 92 rfl rfl
theorem kw_7_94 : (Jvm.Cond.instanceMethod ({ cls := "MarkChainsModel", name := "isWithin", desc := "(II)Z" } : Jvm.MethodName)) ∈ kTb := kwm_7 94 rfl rfl
theorem kw_7_95 : (Jvm.Cond.code ({ cls := "MarkChainsModel", name := "isWithin", desc := "(II)Z" } : Jvm.MethodName) prog_14_method_56_code (4 : Nat) (Option.some Jvm.ClassFile.FieldType.boolean)) ∈ kTb := kwm_7 95 rfl rfl
theorem kw_7_96 : (Jvm.Cond.methodLink "MarkChainsLaw" (82 : Nat) ({ cls := "MarkChainsModel", name := "chain", desc := "(IIII)I" } : Jvm.MethodName)) ∈ kTb := kwm_7 96 rfl rfl
theorem kw_7_97 : (Jvm.Cond.instanceMethod ({ cls := "MarkChainsModel", name := "chain", desc := "(IIII)I" } : Jvm.MethodName)) ∈ kTb := kwm_7 97 rfl rfl
theorem kw_7_98 : (Jvm.Cond.selects "MarkChainsModel" ({ cls := "MarkChainsModel", name := "chain", desc := "(IIII)I" } : Jvm.MethodName) ({ cls := "MarkChainsModel", name := "chain", desc := "(IIII)I" } : Jvm.MethodName)) ∈ kTb := kwm_7 98 rfl rfl
theorem kw_7_99 : (Jvm.Cond.code ({ cls := "MarkChainsModel", name := "chain", desc := "(IIII)I" } : Jvm.MethodName) prog_14_method_66_code (5 : Nat) (Option.some Jvm.ClassFile.FieldType.int)) ∈ kTb := kwm_7 99 rfl rfl
theorem kw_7_100 : (Jvm.Cond.methodLink "MarkChainsModel" (244 : Nat) ({ cls := "MarkChainsModel", name := "canAsk", desc := "(III)Z" } : Jvm.MethodName)) ∈ kTb := kwm_7 100 rfl rfl
theorem kw_7_102 : (Jvm.Cond.instanceMethod ({ cls := "MarkChainsModel", name := "canAsk", desc := "(III)Z" } : Jvm.MethodName)) ∈ kTb := kwm_7 102 rfl rfl
theorem kw_7_103 : (Jvm.Cond.code ({ cls := "MarkChainsModel", name := "canAsk", desc := "(III)Z" } : Jvm.MethodName) prog_14_method_64_code (4 : Nat) (Option.some Jvm.ClassFile.FieldType.boolean)) ∈ kTb := kwm_7 103 rfl rfl
theorem kw_7_104 : (Jvm.Cond.methodLink "MarkChainsModel" (247 : Nat) ({ cls := "MarkChainsModel", name := "layChain", desc := "(III)V" } : Jvm.MethodName)) ∈ kTb := kwm_7 104 rfl rfl
theorem kw_7_106 : (Jvm.Cond.instanceMethod ({ cls := "MarkChainsModel", name := "layChain", desc := "(III)V" } : Jvm.MethodName)) ∈ kTb := kwm_7 106 rfl rfl
theorem kw_7_107 : (Jvm.Cond.code ({ cls := "MarkChainsModel", name := "layChain", desc := "(III)V" } : Jvm.MethodName) prog_14_method_62_code (6 : Nat) (Option.none : Option Jvm.ClassFile.FieldType)) ∈ kTb := kwm_7 107 rfl rfl
theorem kw_7_108 : (Jvm.Cond.methodLink "MarkChainsModel" (237 : Nat) ({ cls := "MarkChainsModel", name := "layOrder", desc := "(III)V" } : Jvm.MethodName)) ∈ kTb := kwm_7 108 rfl rfl
theorem kw_7_110 : (Jvm.Cond.instanceMethod ({ cls := "MarkChainsModel", name := "layOrder", desc := "(III)V" } : Jvm.MethodName)) ∈ kTb := kwm_7 110 rfl rfl
theorem kw_7_111 : (Jvm.Cond.code ({ cls := "MarkChainsModel", name := "layOrder", desc := "(III)V" } : Jvm.MethodName) prog_14_method_61_code (6 : Nat) (Option.none : Option Jvm.ClassFile.FieldType)) ∈ kTb := kwm_7 111 rfl rfl
theorem kw_7_112 : (Jvm.Cond.methodLink "MarkChainsModel" (234 : Nat) ({ cls := "MarkChainsModel", name := "isAhead", desc := "(II)Z" } : Jvm.MethodName)) ∈ kTb := kwm_7 112 rfl rfl
theorem kw_7_114 : (Jvm.Cond.instanceMethod ({ cls := "MarkChainsModel", name := "isAhead", desc := "(II)Z" } : Jvm.MethodName)) ∈ kTb := kwm_7 114 rfl rfl
theorem kw_7_115 : (Jvm.Cond.code ({ cls := "MarkChainsModel", name := "isAhead", desc := "(II)Z" } : Jvm.MethodName) prog_14_method_60_code (3 : Nat) (Option.some Jvm.ClassFile.FieldType.boolean)) ∈ kTb := kwm_7 115 rfl rfl
theorem kw_7_116 : (Jvm.Cond.methodLink "MarkChainsModel" (241 : Nat) ({ cls := "MarkChainsModel", name := "isBetter", desc := "(III)Z" } : Jvm.MethodName)) ∈ kTb := kwm_7 116 rfl rfl
theorem kw_7_118 : (Jvm.Cond.instanceMethod ({ cls := "MarkChainsModel", name := "isBetter", desc := "(III)Z" } : Jvm.MethodName)) ∈ kTb := kwm_7 118 rfl rfl
theorem kw_7_119 : (Jvm.Cond.code ({ cls := "MarkChainsModel", name := "isBetter", desc := "(III)Z" } : Jvm.MethodName) prog_14_method_59_code (4 : Nat) (Option.some Jvm.ClassFile.FieldType.boolean)) ∈ kTb := kwm_7 119 rfl rfl
theorem kw_7_120 : (Jvm.Cond.methodLink "MarkChainsLaw" (86 : Nat) ({ cls := "MarkChainsModel", name := "record", desc := "(III)I" } : Jvm.MethodName)) ∈ kTb := kwm_7 120 rfl rfl
theorem kw_7_121 : (Jvm.Cond.instanceMethod ({ cls := "MarkChainsModel", name := "record", desc := "(III)I" } : Jvm.MethodName)) ∈ kTb := kwm_7 121 rfl rfl
theorem kw_7_122 : (Jvm.Cond.selects "MarkChainsModel" ({ cls := "MarkChainsModel", name := "record", desc := "(III)I" } : Jvm.MethodName) ({ cls := "MarkChainsModel", name := "record", desc := "(III)I" } : Jvm.MethodName)) ∈ kTb := kwm_7 122 rfl rfl
theorem kw_7_123 : (Jvm.Cond.code ({ cls := "MarkChainsModel", name := "record", desc := "(III)I" } : Jvm.MethodName) prog_14_method_68_code (4 : Nat) (Option.some Jvm.ClassFile.FieldType.int)) ∈ kTb := kwm_7 123 rfl rfl
theorem kw_7_124 : (Jvm.Cond.methodLink "MarkChainsModel" (253 : Nat) ({ cls := "MarkChainsModel", name := "recordNow", desc := "()I" } : Jvm.MethodName)) ∈ kTb := kwm_7 124 rfl rfl
theorem kw_7_126 : (Jvm.Cond.instanceMethod ({ cls := "MarkChainsModel", name := "recordNow", desc := "()I" } : Jvm.MethodName)) ∈ kTb := kwm_7 126 rfl rfl
theorem kw_7_127 : (Jvm.Cond.code ({ cls := "MarkChainsModel", name := "recordNow", desc := "()I" } : Jvm.MethodName) prog_14_method_67_code (1 : Nat) (Option.some Jvm.ClassFile.FieldType.int)) ∈ kTb := kwm_7 127 rfl rfl
theorem kw_7_128 : (Jvm.Cond.methodLink "MarkChainsModel" (250 : Nat) ({ cls := "MarkChainsModel", name := "value", desc := "(I)I" } : Jvm.MethodName)) ∈ kTb := kwm_7 128 rfl rfl
theorem kw_7_130 : (Jvm.Cond.instanceMethod ({ cls := "MarkChainsModel", name := "value", desc := "(I)I" } : Jvm.MethodName)) ∈ kTb := kwm_7 130 rfl rfl
theorem kw_7_131 : (Jvm.Cond.code ({ cls := "MarkChainsModel", name := "value", desc := "(I)I" } : Jvm.MethodName) prog_14_method_65_code (2 : Nat) (Option.some Jvm.ClassFile.FieldType.int)) ∈ kTb := kwm_7 131 rfl rfl
theorem kw_7_132 : (Jvm.Cond.methodLink "MarkChainsLaw" (90 : Nat) ({ cls := "MarkChainsModel", name := "holders", desc := "(III)I" } : Jvm.MethodName)) ∈ kTb := kwm_7 132 rfl rfl
theorem kw_7_133 : (Jvm.Cond.instanceMethod ({ cls := "MarkChainsModel", name := "holders", desc := "(III)I" } : Jvm.MethodName)) ∈ kTb := kwm_7 133 rfl rfl
theorem kw_7_134 : (Jvm.Cond.selects "MarkChainsModel" ({ cls := "MarkChainsModel", name := "holders", desc := "(III)I" } : Jvm.MethodName) ({ cls := "MarkChainsModel", name := "holders", desc := "(III)I" } : Jvm.MethodName)) ∈ kTb := kwm_7 134 rfl rfl
theorem kw_7_135 : (Jvm.Cond.code ({ cls := "MarkChainsModel", name := "holders", desc := "(III)I" } : Jvm.MethodName) prog_14_method_69_code (4 : Nat) (Option.some Jvm.ClassFile.FieldType.int)) ∈ kTb := kwm_7 135 rfl rfl
theorem kw_7_136 : (Jvm.Cond.methodLink "MarkChainsModel" (256 : Nat) ({ cls := "MarkChainsModel", name := "holdersNow", desc := "()I" } : Jvm.MethodName)) ∈ kTb := kwm_7 136 rfl rfl
theorem kw_7_138 : (Jvm.Cond.instanceMethod ({ cls := "MarkChainsModel", name := "holdersNow", desc := "()I" } : Jvm.MethodName)) ∈ kTb := kwm_7 138 rfl rfl
theorem kw_7_139 : (Jvm.Cond.code ({ cls := "MarkChainsModel", name := "holdersNow", desc := "()I" } : Jvm.MethodName) prog_14_method_105_code (3 : Nat) (Option.some Jvm.ClassFile.FieldType.int)) ∈ kTb := kwm_7 139 rfl rfl
theorem kw_7_140 : (Jvm.Cond.methodLink "MarkChainsLaw" (94 : Nat) ({ cls := "MarkChainsModel", name := "ties", desc := "(III)I" } : Jvm.MethodName)) ∈ kTb := kwm_7 140 rfl rfl
theorem kw_7_141 : (Jvm.Cond.instanceMethod ({ cls := "MarkChainsModel", name := "ties", desc := "(III)I" } : Jvm.MethodName)) ∈ kTb := kwm_7 141 rfl rfl
theorem kw_7_142 : (Jvm.Cond.selects "MarkChainsModel" ({ cls := "MarkChainsModel", name := "ties", desc := "(III)I" } : Jvm.MethodName) ({ cls := "MarkChainsModel", name := "ties", desc := "(III)I" } : Jvm.MethodName)) ∈ kTb := kwm_7 142 rfl rfl
theorem kw_7_143 : (Jvm.Cond.code ({ cls := "MarkChainsModel", name := "ties", desc := "(III)I" } : Jvm.MethodName) prog_14_method_70_code (6 : Nat) (Option.some Jvm.ClassFile.FieldType.int)) ∈ kTb := kwm_7 143 rfl rfl
theorem kw_7_144 : (Jvm.Cond.methodLink "MarkChainsLaw" (98 : Nat) ({ cls := "MarkChainsModel", name := "held", desc := "(IIII)I" } : Jvm.MethodName)) ∈ kTb := kwm_7 144 rfl rfl
theorem kw_7_145 : (Jvm.Cond.instanceMethod ({ cls := "MarkChainsModel", name := "held", desc := "(IIII)I" } : Jvm.MethodName)) ∈ kTb := kwm_7 145 rfl rfl
theorem kw_7_146 : (Jvm.Cond.selects "MarkChainsModel" ({ cls := "MarkChainsModel", name := "held", desc := "(IIII)I" } : Jvm.MethodName) ({ cls := "MarkChainsModel", name := "held", desc := "(IIII)I" } : Jvm.MethodName)) ∈ kTb := kwm_7 146 rfl rfl
theorem kw_7_147 : (Jvm.Cond.code ({ cls := "MarkChainsModel", name := "held", desc := "(IIII)I" } : Jvm.MethodName) prog_14_method_72_code (10 : Nat) (Option.some Jvm.ClassFile.FieldType.int)) ∈ kTb := kwm_7 147 rfl rfl
theorem kw_7_148 : (Jvm.Cond.methodLink "MarkChainsModel" (259 : Nat) ({ cls := "MarkChainsModel", name := "endOf", desc := "(II)I" } : Jvm.MethodName)) ∈ kTb := kwm_7 148 rfl rfl
theorem kw_7_150 : (Jvm.Cond.instanceMethod ({ cls := "MarkChainsModel", name := "endOf", desc := "(II)I" } : Jvm.MethodName)) ∈ kTb := kwm_7 150 rfl rfl
theorem kw_7_151 : (Jvm.Cond.code ({ cls := "MarkChainsModel", name := "endOf", desc := "(II)I" } : Jvm.MethodName) prog_14_method_71_code (4 : Nat) (Option.some Jvm.ClassFile.FieldType.int)) ∈ kTb := kwm_7 151 rfl rfl
theorem kw_7_152 : (Jvm.Cond.methodLink "MarkChainsLaw" (102 : Nat) ({ cls := "MarkChainsModel", name := "stood", desc := "(IIII)I" } : Jvm.MethodName)) ∈ kTb := kwm_7 152 rfl rfl
theorem kw_7_153 : (Jvm.Cond.instanceMethod ({ cls := "MarkChainsModel", name := "stood", desc := "(IIII)I" } : Jvm.MethodName)) ∈ kTb := kwm_7 153 rfl rfl
theorem kw_7_154 : (Jvm.Cond.selects "MarkChainsModel" ({ cls := "MarkChainsModel", name := "stood", desc := "(IIII)I" } : Jvm.MethodName) ({ cls := "MarkChainsModel", name := "stood", desc := "(IIII)I" } : Jvm.MethodName)) ∈ kTb := kwm_7 154 rfl rfl
theorem kw_7_155 : (Jvm.Cond.code ({ cls := "MarkChainsModel", name := "stood", desc := "(IIII)I" } : Jvm.MethodName) prog_14_method_73_code (9 : Nat) (Option.some Jvm.ClassFile.FieldType.int)) ∈ kTb := kwm_7 155 rfl rfl
theorem kw_7_156 : (Jvm.Cond.methodLink "MarkChainsLaw" (106 : Nat) ({ cls := "MarkChainsModel", name := "altered", desc := "(IIII)I" } : Jvm.MethodName)) ∈ kTb := kwm_7 156 rfl rfl
theorem kw_7_157 : (Jvm.Cond.instanceMethod ({ cls := "MarkChainsModel", name := "altered", desc := "(IIII)I" } : Jvm.MethodName)) ∈ kTb := kwm_7 157 rfl rfl
theorem kw_7_158 : (Jvm.Cond.selects "MarkChainsModel" ({ cls := "MarkChainsModel", name := "altered", desc := "(IIII)I" } : Jvm.MethodName) ({ cls := "MarkChainsModel", name := "altered", desc := "(IIII)I" } : Jvm.MethodName)) ∈ kTb := kwm_7 158 rfl rfl
theorem kw_7_159 : (Jvm.Cond.code ({ cls := "MarkChainsModel", name := "altered", desc := "(IIII)I" } : Jvm.MethodName) prog_14_method_76_code (5 : Nat) (Option.some Jvm.ClassFile.FieldType.int)) ∈ kTb := kwm_7 159 rfl rfl
theorem kw_7_160 : (Jvm.Cond.methodLink "MarkChainsModel" (271 : Nat) ({ cls := "MarkChainsModel", name := "noteLinks", desc := "()V" } : Jvm.MethodName)) ∈ kTb := kwm_7 160 rfl rfl
theorem kw_7_162 : (Jvm.Cond.instanceMethod ({ cls := "MarkChainsModel", name := "noteLinks", desc := "()V" } : Jvm.MethodName)) ∈ kTb := kwm_7 162 rfl rfl
theorem kw_7_163 : (Jvm.Cond.code ({ cls := "MarkChainsModel", name := "noteLinks", desc := "()V" } : Jvm.MethodName) prog_14_method_74_code (2 : Nat) (Option.none : Option Jvm.ClassFile.FieldType)) ∈ kTb := kwm_7 163 rfl rfl
theorem kw_7_164 : (Jvm.Cond.methodLink "MarkChainsModel" (262 : Nat) ({ cls := "MarkChainsModel", name := "isLinked", desc := "(I)Z" } : Jvm.MethodName)) ∈ kTb := kwm_7 164 rfl rfl
theorem kw_7_166 : (Jvm.Cond.instanceMethod ({ cls := "MarkChainsModel", name := "isLinked", desc := "(I)Z" } : Jvm.MethodName)) ∈ kTb := kwm_7 166 rfl rfl
theorem kw_7_167 : (Jvm.Cond.code ({ cls := "MarkChainsModel", name := "isLinked", desc := "(I)Z" } : Jvm.MethodName) prog_14_method_63_code (3 : Nat) (Option.some Jvm.ClassFile.FieldType.boolean)) ∈ kTb := kwm_7 167 rfl rfl
theorem kw_7_168 : (Jvm.Cond.methodLink "MarkChainsModel" (274 : Nat) ({ cls := "MarkChainsModel", name := "countFresh", desc := "()V" } : Jvm.MethodName)) ∈ kTb := kwm_7 168 rfl rfl
theorem kw_7_170 : (Jvm.Cond.instanceMethod ({ cls := "MarkChainsModel", name := "countFresh", desc := "()V" } : Jvm.MethodName)) ∈ kTb := kwm_7 170 rfl rfl
theorem kw_7_171 : (Jvm.Cond.code ({ cls := "MarkChainsModel", name := "countFresh", desc := "()V" } : Jvm.MethodName) prog_14_method_75_code (2 : Nat) (Option.none : Option Jvm.ClassFile.FieldType)) ∈ kTb := kwm_7 171 rfl rfl
theorem kw_7_172 : (Jvm.Cond.methodLink "MarkChainsLaw" (110 : Nat) ({ cls := "MarkChainsModel", name := "list", desc := "(IIII)I" } : Jvm.MethodName)) ∈ kTb := kwm_7 172 rfl rfl
theorem kw_7_173 : (Jvm.Cond.instanceMethod ({ cls := "MarkChainsModel", name := "list", desc := "(IIII)I" } : Jvm.MethodName)) ∈ kTb := kwm_7 173 rfl rfl
theorem kw_7_174 : (Jvm.Cond.selects "MarkChainsModel" ({ cls := "MarkChainsModel", name := "list", desc := "(IIII)I" } : Jvm.MethodName) ({ cls := "MarkChainsModel", name := "list", desc := "(IIII)I" } : Jvm.MethodName)) ∈ kTb := kwm_7 174 rfl rfl
theorem kw_7_175 : (Jvm.Cond.code ({ cls := "MarkChainsModel", name := "list", desc := "(IIII)I" } : Jvm.MethodName) prog_14_method_79_code (5 : Nat) (Option.some Jvm.ClassFile.FieldType.int)) ∈ kTb := kwm_7 175 rfl rfl
theorem kw_7_176 : (Jvm.Cond.methodLink "MarkChainsModel" (280 : Nat) ({ cls := "MarkChainsModel", name := "layList", desc := "(III)V" } : Jvm.MethodName)) ∈ kTb := kwm_7 176 rfl rfl
theorem kw_7_178 : (Jvm.Cond.instanceMethod ({ cls := "MarkChainsModel", name := "layList", desc := "(III)V" } : Jvm.MethodName)) ∈ kTb := kwm_7 178 rfl rfl
theorem kw_7_179 : (Jvm.Cond.code ({ cls := "MarkChainsModel", name := "layList", desc := "(III)V" } : Jvm.MethodName) prog_14_method_78_code (8 : Nat) (Option.none : Option Jvm.ClassFile.FieldType)) ∈ kTb := kwm_7 179 rfl rfl
theorem kw_7_180 : (Jvm.Cond.methodLink "MarkChainsModel" (277 : Nat) ({ cls := "MarkChainsModel", name := "isFore", desc := "(III)Z" } : Jvm.MethodName)) ∈ kTb := kwm_7 180 rfl rfl
theorem kw_7_182 : (Jvm.Cond.instanceMethod ({ cls := "MarkChainsModel", name := "isFore", desc := "(III)Z" } : Jvm.MethodName)) ∈ kTb := kwm_7 182 rfl rfl
theorem kw_7_183 : (Jvm.Cond.code ({ cls := "MarkChainsModel", name := "isFore", desc := "(III)Z" } : Jvm.MethodName) prog_14_method_77_code (4 : Nat) (Option.some Jvm.ClassFile.FieldType.boolean)) ∈ kTb := kwm_7 183 rfl rfl
theorem kw_7_184 : (Jvm.Cond.methodLink "MarkChainsLaw" (114 : Nat) ({ cls := "MarkChainsModel", name := "rank", desc := "(II)I" } : Jvm.MethodName)) ∈ kTb := kwm_7 184 rfl rfl
theorem kw_7_185 : (Jvm.Cond.instanceMethod ({ cls := "MarkChainsModel", name := "rank", desc := "(II)I" } : Jvm.MethodName)) ∈ kTb := kwm_7 185 rfl rfl
theorem kw_7_186 : (Jvm.Cond.selects "MarkChainsModel" ({ cls := "MarkChainsModel", name := "rank", desc := "(II)I" } : Jvm.MethodName) ({ cls := "MarkChainsModel", name := "rank", desc := "(II)I" } : Jvm.MethodName)) ∈ kTb := kwm_7 186 rfl rfl
theorem kw_7_187 : (Jvm.Cond.code ({ cls := "MarkChainsModel", name := "rank", desc := "(II)I" } : Jvm.MethodName) prog_14_method_80_code (4 : Nat) (Option.some Jvm.ClassFile.FieldType.int)) ∈ kTb := kwm_7 187 rfl rfl
theorem kw_7_188 : (Jvm.Cond.methodLink "MarkChainsLaw" (118 : Nat) ({ cls := "MarkChainsModel", name := "wished", desc := "(III)I" } : Jvm.MethodName)) ∈ kTb := kwm_7 188 rfl rfl
theorem kw_7_189 : (Jvm.Cond.instanceMethod ({ cls := "MarkChainsModel", name := "wished", desc := "(III)I" } : Jvm.MethodName)) ∈ kTb := kwm_7 189 rfl rfl
theorem kw_7_190 : (Jvm.Cond.selects "MarkChainsModel" ({ cls := "MarkChainsModel", name := "wished", desc := "(III)I" } : Jvm.MethodName) ({ cls := "MarkChainsModel", name := "wished", desc := "(III)I" } : Jvm.MethodName)) ∈ kTb := kwm_7 190 rfl rfl
theorem kw_7_191 : (Jvm.Cond.code ({ cls := "MarkChainsModel", name := "wished", desc := "(III)I" } : Jvm.MethodName) prog_14_method_81_code (5 : Nat) (Option.some Jvm.ClassFile.FieldType.int)) ∈ kTb := kwm_7 191 rfl rfl
theorem kw_7_192 : (Jvm.Cond.methodLink "MarkChainsLaw" (122 : Nat) ({ cls := "MarkChainsModel", name := "would", desc := "(I)I" } : Jvm.MethodName)) ∈ kTb := kwm_7 192 rfl rfl
theorem kw_7_193 : (Jvm.Cond.instanceMethod ({ cls := "MarkChainsModel", name := "would", desc := "(I)I" } : Jvm.MethodName)) ∈ kTb := kwm_7 193 rfl rfl
theorem kw_7_194 : (Jvm.Cond.selects "MarkChainsModel" ({ cls := "MarkChainsModel", name := "would", desc := "(I)I" } : Jvm.MethodName) ({ cls := "MarkChainsModel", name := "would", desc := "(I)I" } : Jvm.MethodName)) ∈ kTb := kwm_7 194 rfl rfl
theorem kw_7_195 : (Jvm.Cond.code ({ cls := "MarkChainsModel", name := "would", desc := "(I)I" } : Jvm.MethodName) prog_14_method_82_code (4 : Nat) (Option.some Jvm.ClassFile.FieldType.int)) ∈ kTb := kwm_7 195 rfl rfl
theorem kw_7_196 : (Jvm.Cond.methodLink "MarkChainsLaw" (130 : Nat) ({ cls := "MarkChainsModel", name := "points", desc := "(I)I" } : Jvm.MethodName)) ∈ kTb := kwm_7 196 rfl rfl
theorem kw_7_197 : (Jvm.Cond.instanceMethod ({ cls := "MarkChainsModel", name := "points", desc := "(I)I" } : Jvm.MethodName)) ∈ kTb := kwm_7 197 rfl rfl
theorem kw_7_198 : (Jvm.Cond.selects "MarkChainsModel" ({ cls := "MarkChainsModel", name := "points", desc := "(I)I" } : Jvm.MethodName) ({ cls := "MarkChainsModel", name := "points", desc := "(I)I" } : Jvm.MethodName)) ∈ kTb := kwm_7 198 rfl rfl
theorem kw_7_199 : (Jvm.Cond.code ({ cls := "MarkChainsModel", name := "points", desc := "(I)I" } : Jvm.MethodName) prog_14_method_84_code (2 : Nat) (Option.some Jvm.ClassFile.FieldType.int)) ∈ kTb := kwm_7 199 rfl rfl
theorem kw_7_200 : (Jvm.Cond.methodLink "MarkChainsModel" (283 : Nat) ({ cls := "MarkChainsModel", name := "pointsOf", desc := "(I)I" } : Jvm.MethodName)) ∈ kTb := kwm_7 200 rfl rfl
theorem kw_7_202 : (Jvm.Cond.instanceMethod ({ cls := "MarkChainsModel", name := "pointsOf", desc := "(I)I" } : Jvm.MethodName)) ∈ kTb := kwm_7 202 rfl rfl
theorem kw_7_203 : (Jvm.Cond.code ({ cls := "MarkChainsModel", name := "pointsOf", desc := "(I)I" } : Jvm.MethodName) prog_14_method_83_code (3 : Nat) (Option.some Jvm.ClassFile.FieldType.int)) ∈ kTb := kwm_7 203 rfl rfl
theorem kw_7_204 : (Jvm.Cond.methodLink "MarkChainsLaw" (134 : Nat) ({ cls := "MarkChainsModel", name := "champion", desc := "(II)I" } : Jvm.MethodName)) ∈ kTb := kwm_7 204 rfl rfl
theorem kw_7_205 : (Jvm.Cond.instanceMethod ({ cls := "MarkChainsModel", name := "champion", desc := "(II)I" } : Jvm.MethodName)) ∈ kTb := kwm_7 205 rfl rfl
theorem kw_7_206 : (Jvm.Cond.selects "MarkChainsModel" ({ cls := "MarkChainsModel", name := "champion", desc := "(II)I" } : Jvm.MethodName) ({ cls := "MarkChainsModel", name := "champion", desc := "(II)I" } : Jvm.MethodName)) ∈ kTb := kwm_7 206 rfl rfl
theorem kw_7_207 : (Jvm.Cond.code ({ cls := "MarkChainsModel", name := "champion", desc := "(II)I" } : Jvm.MethodName) prog_14_method_87_code (7 : Nat) (Option.some Jvm.ClassFile.FieldType.int)) ∈ kTb := kwm_7 207 rfl rfl
theorem kw_7_208 : (Jvm.Cond.methodLink "MarkChainsModel" (290 : Nat) ({ cls := "MarkChainsModel", name := "sumPoints", desc := "(III)I" } : Jvm.MethodName)) ∈ kTb := kwm_7 208 rfl rfl
theorem kw_7_210 : (Jvm.Cond.instanceMethod ({ cls := "MarkChainsModel", name := "sumPoints", desc := "(III)I" } : Jvm.MethodName)) ∈ kTb := kwm_7 210 rfl rfl
theorem kw_7_211 : (Jvm.Cond.code ({ cls := "MarkChainsModel", name := "sumPoints", desc := "(III)I" } : Jvm.MethodName) prog_14_method_86_code (6 : Nat) (Option.some Jvm.ClassFile.FieldType.int)) ∈ kTb := kwm_7 211 rfl rfl
theorem kw_7_212 : (Jvm.Cond.methodLink "MarkChainsModel" (286 : Nat) ({ cls := "MarkChainsModel", name := "bestPoints", desc := "(IIII)I" } : Jvm.MethodName)) ∈ kTb := kwm_7 212 rfl rfl
theorem kw_7_214 : (Jvm.Cond.instanceMethod ({ cls := "MarkChainsModel", name := "bestPoints", desc := "(IIII)I" } : Jvm.MethodName)) ∈ kTb := kwm_7 214 rfl rfl
theorem kw_7_215 : (Jvm.Cond.code ({ cls := "MarkChainsModel", name := "bestPoints", desc := "(IIII)I" } : Jvm.MethodName) prog_14_method_85_code (8 : Nat) (Option.some Jvm.ClassFile.FieldType.int)) ∈ kTb := kwm_7 215 rfl rfl
theorem kw_7_216 : (Jvm.Cond.methodLink "MarkChainsLaw" (138 : Nat) ({ cls := "MarkChainsModel", name := "table", desc := "(II)I" } : Jvm.MethodName)) ∈ kTb := kwm_7 216 rfl rfl
theorem kw_7_217 : (Jvm.Cond.instanceMethod ({ cls := "MarkChainsModel", name := "table", desc := "(II)I" } : Jvm.MethodName)) ∈ kTb := kwm_7 217 rfl rfl
theorem kw_7_218 : (Jvm.Cond.selects "MarkChainsModel" ({ cls := "MarkChainsModel", name := "table", desc := "(II)I" } : Jvm.MethodName) ({ cls := "MarkChainsModel", name := "table", desc := "(II)I" } : Jvm.MethodName)) ∈ kTb := kwm_7 218 rfl rfl
theorem kw_7_219 : (Jvm.Cond.code ({ cls := "MarkChainsModel", name := "table", desc := "(II)I" } : Jvm.MethodName) prog_14_method_88_code (3 : Nat) (Option.some Jvm.ClassFile.FieldType.int)) ∈ kTb := kwm_7 219 rfl rfl
theorem kw_7_220 : (Jvm.Cond.methodLink "MarkChainsLaw" (142 : Nat) ({ cls := "MarkChainsModel", name := "placed", desc := "(I)I" } : Jvm.MethodName)) ∈ kTb := kwm_7 220 rfl rfl
theorem kw_7_221 : (Jvm.Cond.instanceMethod ({ cls := "MarkChainsModel", name := "placed", desc := "(I)I" } : Jvm.MethodName)) ∈ kTb := kwm_7 221 rfl rfl
theorem kw_7_222 : (Jvm.Cond.selects "MarkChainsModel" ({ cls := "MarkChainsModel", name := "placed", desc := "(I)I" } : Jvm.MethodName) ({ cls := "MarkChainsModel", name := "placed", desc := "(I)I" } : Jvm.MethodName)) ∈ kTb := kwm_7 222 rfl rfl
theorem kw_7_223 : (Jvm.Cond.code ({ cls := "MarkChainsModel", name := "placed", desc := "(I)I" } : Jvm.MethodName) prog_14_method_90_code (4 : Nat) (Option.some Jvm.ClassFile.FieldType.int)) ∈ kTb := kwm_7 223 rfl rfl
theorem kw_7_224 : (Jvm.Cond.methodLink "MarkChainsModel" (293 : Nat) ({ cls := "MarkChainsModel", name := "isMeeting", desc := "(II)Z" } : Jvm.MethodName)) ∈ kTb := kwm_7 224 rfl rfl
theorem kw_7_226 : (Jvm.Cond.instanceMethod ({ cls := "MarkChainsModel", name := "isMeeting", desc := "(II)Z" } : Jvm.MethodName)) ∈ kTb := kwm_7 226 rfl rfl
theorem kw_7_227 : (Jvm.Cond.code ({ cls := "MarkChainsModel", name := "isMeeting", desc := "(II)Z" } : Jvm.MethodName) prog_14_method_89_code (3 : Nat) (Option.some Jvm.ClassFile.FieldType.boolean)) ∈ kTb := kwm_7 227 rfl rfl
theorem kw_7_228 : (Jvm.Cond.methodLink "MarkChainsLaw" (146 : Nat) ({ cls := "MarkChainsModel", name := "duel", desc := "(II)I" } : Jvm.MethodName)) ∈ kTb := kwm_7 228 rfl rfl
theorem kw_7_229 : (Jvm.Cond.instanceMethod ({ cls := "MarkChainsModel", name := "duel", desc := "(II)I" } : Jvm.MethodName)) ∈ kTb := kwm_7 229 rfl rfl
theorem kw_7_230 : (Jvm.Cond.selects "MarkChainsModel" ({ cls := "MarkChainsModel", name := "duel", desc := "(II)I" } : Jvm.MethodName) ({ cls := "MarkChainsModel", name := "duel", desc := "(II)I" } : Jvm.MethodName)) ∈ kTb := kwm_7 230 rfl rfl
theorem kw_7_231 : (Jvm.Cond.code ({ cls := "MarkChainsModel", name := "duel", desc := "(II)I" } : Jvm.MethodName) prog_14_method_93_code (7 : Nat) (Option.some Jvm.ClassFile.FieldType.int)) ∈ kTb := kwm_7 231 rfl rfl
theorem kw_7_232 : (Jvm.Cond.methodLink "MarkChainsModel" (296 : Nat) ({ cls := "MarkChainsModel", name := "isFirstOfMeeting", desc := "(I)Z" } : Jvm.MethodName)) ∈ kTb := kwm_7 232 rfl rfl
theorem kw_7_234 : (Jvm.Cond.instanceMethod ({ cls := "MarkChainsModel", name := "isFirstOfMeeting", desc := "(I)Z" } : Jvm.MethodName)) ∈ kTb := kwm_7 234 rfl rfl
theorem kw_7_235 : (Jvm.Cond.code ({ cls := "MarkChainsModel", name := "isFirstOfMeeting", desc := "(I)Z" } : Jvm.MethodName) prog_14_method_92_code (3 : Nat) (Option.some Jvm.ClassFile.FieldType.boolean)) ∈ kTb := kwm_7 235 rfl rfl
theorem kw_7_236 : (Jvm.Cond.methodLink "MarkChainsModel" (299 : Nat) ({ cls := "MarkChainsModel", name := "bestAt", desc := "(II)I" } : Jvm.MethodName)) ∈ kTb := kwm_7 236 rfl rfl
theorem kw_7_238 : (Jvm.Cond.instanceMethod ({ cls := "MarkChainsModel", name := "bestAt", desc := "(II)I" } : Jvm.MethodName)) ∈ kTb := kwm_7 238 rfl rfl
theorem kw_7_239 : (Jvm.Cond.code ({ cls := "MarkChainsModel", name := "bestAt", desc := "(II)I" } : Jvm.MethodName) prog_14_method_91_code (5 : Nat) (Option.some Jvm.ClassFile.FieldType.int)) ∈ kTb := kwm_7 239 rfl rfl
theorem kw_8_0 : (Jvm.Cond.methodLink "MarkChainsLaw" (150 : Nat) ({ cls := "MarkChainsModel", name := "progress", desc := "(IIII)I" } : Jvm.MethodName)) ∈ kTb := kwm_8 0 rfl rfl
theorem kw_8_1 : (Jvm.Cond.instanceMethod ({ cls := "MarkChainsModel", name := "progress", desc := "(IIII)I" } : Jvm.MethodName)) ∈ kTb := kwm_8 1 rfl rfl
theorem kw_8_2 : (Jvm.Cond.selects "MarkChainsModel" ({ cls := "MarkChainsModel", name := "progress", desc := "(IIII)I" } : Jvm.MethodName) ({ cls := "MarkChainsModel", name := "progress", desc := "(IIII)I" } : Jvm.MethodName)) ∈ kTb := kwm_8 2 rfl rfl
theorem kw_8_3 : (Jvm.Cond.code ({ cls := "MarkChainsModel", name := "progress", desc := "(IIII)I" } : Jvm.MethodName) prog_14_method_95_code (9 : Nat) (Option.some Jvm.ClassFile.FieldType.int)) ∈ kTb := kwm_8 3 rfl rfl
theorem kw_8_4 : (Jvm.Cond.methodLink "MarkChainsModel" (302 : Nat) ({ cls := "MarkChainsModel", name := "apart", desc := "(II)I" } : Jvm.MethodName)) ∈ kTb := kwm_8 4 rfl rfl
theorem kw_8_5 : (Jvm.Cond.static ({ cls := "MarkChainsModel", name := "apart", desc := "(II)I" } : Jvm.MethodName)) ∈ kTb := kwm_8 5 rfl rfl
theorem kw_8_6 : (Jvm.Cond.code ({ cls := "MarkChainsModel", name := "apart", desc := "(II)I" } : Jvm.MethodName) prog_14_method_94_code (2 : Nat) (Option.some Jvm.ClassFile.FieldType.int)) ∈ kTb := kwm_8 6 rfl rfl
theorem kw_8_7 : (Jvm.Cond.methodLink "MarkChainsLaw" (154 : Nat) ({ cls := "MarkChainsModel", name := "since", desc := "(II)I" } : Jvm.MethodName)) ∈ kTb := kwm_8 7 rfl rfl
theorem kw_8_8 : (Jvm.Cond.instanceMethod ({ cls := "MarkChainsModel", name := "since", desc := "(II)I" } : Jvm.MethodName)) ∈ kTb := kwm_8 8 rfl rfl
theorem kw_8_9 : (Jvm.Cond.selects "MarkChainsModel" ({ cls := "MarkChainsModel", name := "since", desc := "(II)I" } : Jvm.MethodName) ({ cls := "MarkChainsModel", name := "since", desc := "(II)I" } : Jvm.MethodName)) ∈ kTb := kwm_8 9 rfl rfl
theorem kw_8_10 : (Jvm.Cond.code ({ cls := "MarkChainsModel", name := "since", desc := "(II)I" } : Jvm.MethodName) prog_14_method_97_code (7 : Nat) (Option.some Jvm.ClassFile.FieldType.int)) ∈ kTb := kwm_8 10 rfl rfl
theorem kw_8_11 : (Jvm.Cond.methodLink "MarkChainsModel" (305 : Nat) ({ cls := "MarkChainsModel", name := "isInChain", desc := "(III)Z" } : Jvm.MethodName)) ∈ kTb := kwm_8 11 rfl rfl
theorem kw_8_13 : (Jvm.Cond.instanceMethod ({ cls := "MarkChainsModel", name := "isInChain", desc := "(III)Z" } : Jvm.MethodName)) ∈ kTb := kwm_8 13 rfl rfl
theorem kw_8_14 : (Jvm.Cond.code ({ cls := "MarkChainsModel", name := "isInChain", desc := "(III)Z" } : Jvm.MethodName) prog_14_method_96_code (4 : Nat) (Option.some Jvm.ClassFile.FieldType.boolean)) ∈ kTb := kwm_8 14 rfl rfl
theorem kw_8_15 : (Jvm.Cond.methodLink "MarkChainsLaw" (158 : Nat) ({ cls := "MarkChainsModel", name := "without", desc := "(III)I" } : Jvm.MethodName)) ∈ kTb := kwm_8 15 rfl rfl
theorem kw_8_16 : (Jvm.Cond.instanceMethod ({ cls := "MarkChainsModel", name := "without", desc := "(III)I" } : Jvm.MethodName)) ∈ kTb := kwm_8 16 rfl rfl
theorem kw_8_17 : (Jvm.Cond.selects "MarkChainsModel" ({ cls := "MarkChainsModel", name := "without", desc := "(III)I" } : Jvm.MethodName) ({ cls := "MarkChainsModel", name := "without", desc := "(III)I" } : Jvm.MethodName)) ∈ kTb := kwm_8 17 rfl rfl
theorem kw_8_18 : (Jvm.Cond.code ({ cls := "MarkChainsModel", name := "without", desc := "(III)I" } : Jvm.MethodName) prog_14_method_98_code (4 : Nat) (Option.some Jvm.ClassFile.FieldType.int)) ∈ kTb := kwm_8 18 rfl rfl
theorem kw_8_19 : (Jvm.Cond.methodLink "MarkChainsLaw" (174 : Nat) ({ cls := "MarkChainsModel", name := "personal", desc := "(III)I" } : Jvm.MethodName)) ∈ kTb := kwm_8 19 rfl rfl
theorem kw_8_20 : (Jvm.Cond.instanceMethod ({ cls := "MarkChainsModel", name := "personal", desc := "(III)I" } : Jvm.MethodName)) ∈ kTb := kwm_8 20 rfl rfl
theorem kw_8_21 : (Jvm.Cond.selects "MarkChainsModel" ({ cls := "MarkChainsModel", name := "personal", desc := "(III)I" } : Jvm.MethodName) ({ cls := "MarkChainsModel", name := "personal", desc := "(III)I" } : Jvm.MethodName)) ∈ kTb := kwm_8 21 rfl rfl
theorem kw_8_22 : (Jvm.Cond.code ({ cls := "MarkChainsModel", name := "personal", desc := "(III)I" } : Jvm.MethodName) prog_14_method_99_code (6 : Nat) (Option.some Jvm.ClassFile.FieldType.int)) ∈ kTb := kwm_8 22 rfl rfl
theorem kw_8_23 : (Jvm.Cond.methodLink "MarkChainsLaw" (178 : Nat) ({ cls := "MarkChainsModel", name := "season", desc := "(III)I" } : Jvm.MethodName)) ∈ kTb := kwm_8 23 rfl rfl
theorem kw_8_24 : (Jvm.Cond.instanceMethod ({ cls := "MarkChainsModel", name := "season", desc := "(III)I" } : Jvm.MethodName)) ∈ kTb := kwm_8 24 rfl rfl
theorem kw_8_25 : (Jvm.Cond.selects "MarkChainsModel" ({ cls := "MarkChainsModel", name := "season", desc := "(III)I" } : Jvm.MethodName) ({ cls := "MarkChainsModel", name := "season", desc := "(III)I" } : Jvm.MethodName)) ∈ kTb := kwm_8 25 rfl rfl
theorem kw_8_26 : (Jvm.Cond.code ({ cls := "MarkChainsModel", name := "season", desc := "(III)I" } : Jvm.MethodName) prog_14_method_100_code (7 : Nat) (Option.some Jvm.ClassFile.FieldType.int)) ∈ kTb := kwm_8 26 rfl rfl
theorem kw_8_27 : (Jvm.Cond.methodLink "MarkChainsLaw" (182 : Nat) ({ cls := "MarkChainsModel", name := "at", desc := "(IIII)I" } : Jvm.MethodName)) ∈ kTb := kwm_8 27 rfl rfl
theorem kw_8_28 : (Jvm.Cond.instanceMethod ({ cls := "MarkChainsModel", name := "at", desc := "(IIII)I" } : Jvm.MethodName)) ∈ kTb := kwm_8 28 rfl rfl
theorem kw_8_29 : (Jvm.Cond.selects "MarkChainsModel" ({ cls := "MarkChainsModel", name := "at", desc := "(IIII)I" } : Jvm.MethodName) ({ cls := "MarkChainsModel", name := "at", desc := "(IIII)I" } : Jvm.MethodName)) ∈ kTb := kwm_8 29 rfl rfl
theorem kw_8_30 : (Jvm.Cond.code ({ cls := "MarkChainsModel", name := "at", desc := "(IIII)I" } : Jvm.MethodName) prog_14_method_101_code (8 : Nat) (Option.some Jvm.ClassFile.FieldType.int)) ∈ kTb := kwm_8 30 rfl rfl
theorem kw_8_31 : (Jvm.Cond.methodLink "MarkChainsLaw" (186 : Nat) ({ cls := "MarkChainsModel", name := "missing", desc := "(I)I" } : Jvm.MethodName)) ∈ kTb := kwm_8 31 rfl rfl
theorem kw_8_32 : (Jvm.Cond.instanceMethod ({ cls := "MarkChainsModel", name := "missing", desc := "(I)I" } : Jvm.MethodName)) ∈ kTb := kwm_8 32 rfl rfl
theorem kw_8_33 : (Jvm.Cond.selects "MarkChainsModel" ({ cls := "MarkChainsModel", name := "missing", desc := "(I)I" } : Jvm.MethodName) ({ cls := "MarkChainsModel", name := "missing", desc := "(I)I" } : Jvm.MethodName)) ∈ kTb := kwm_8 33 rfl rfl
theorem kw_8_34 : (Jvm.Cond.code ({ cls := "MarkChainsModel", name := "missing", desc := "(I)I" } : Jvm.MethodName) prog_14_method_103_code (5 : Nat) (Option.some Jvm.ClassFile.FieldType.int)) ∈ kTb := kwm_8 34 rfl rfl
theorem kw_8_35 : (Jvm.Cond.methodLink "MarkChainsModel" (308 : Nat) ({ cls := "MarkChainsModel", name := "bits", desc := "(I)I" } : Jvm.MethodName)) ∈ kTb := kwm_8 35 rfl rfl
theorem kw_8_36 : (Jvm.Cond.static ({ cls := "MarkChainsModel", name := "bits", desc := "(I)I" } : Jvm.MethodName)) ∈ kTb := kwm_8 36 rfl rfl
theorem kw_8_37 : (Jvm.Cond.code ({ cls := "MarkChainsModel", name := "bits", desc := "(I)I" } : Jvm.MethodName) prog_14_method_102_code (3 : Nat) (Option.some Jvm.ClassFile.FieldType.int)) ∈ kTb := kwm_8 37 rfl rfl
theorem kw_8_38 : (Jvm.Cond.methodLink "MarkChainsLaw" (190 : Nat) ({ cls := "MarkChainsModel", name := "stands", desc := "(II)I" } : Jvm.MethodName)) ∈ kTb := kwm_8 38 rfl rfl
theorem kw_8_39 : (Jvm.Cond.instanceMethod ({ cls := "MarkChainsModel", name := "stands", desc := "(II)I" } : Jvm.MethodName)) ∈ kTb := kwm_8 39 rfl rfl
theorem kw_8_40 : (Jvm.Cond.selects "MarkChainsModel" ({ cls := "MarkChainsModel", name := "stands", desc := "(II)I" } : Jvm.MethodName) ({ cls := "MarkChainsModel", name := "stands", desc := "(II)I" } : Jvm.MethodName)) ∈ kTb := kwm_8 40 rfl rfl
theorem kw_8_41 : (Jvm.Cond.code ({ cls := "MarkChainsModel", name := "stands", desc := "(II)I" } : Jvm.MethodName) prog_14_method_104_code (6 : Nat) (Option.some Jvm.ClassFile.FieldType.int)) ∈ kTb := kwm_8 41 rfl rfl
theorem kw_8_42 : (Jvm.Cond.methodLink "MarkChainsLaw" (194 : Nat) ({ cls := "MarkChainsModel", name := "holding", desc := "(I)I" } : Jvm.MethodName)) ∈ kTb := kwm_8 42 rfl rfl
theorem kw_8_43 : (Jvm.Cond.instanceMethod ({ cls := "MarkChainsModel", name := "holding", desc := "(I)I" } : Jvm.MethodName)) ∈ kTb := kwm_8 43 rfl rfl
theorem kw_8_44 : (Jvm.Cond.selects "MarkChainsModel" ({ cls := "MarkChainsModel", name := "holding", desc := "(I)I" } : Jvm.MethodName) ({ cls := "MarkChainsModel", name := "holding", desc := "(I)I" } : Jvm.MethodName)) ∈ kTb := kwm_8 44 rfl rfl
theorem kw_8_45 : (Jvm.Cond.code ({ cls := "MarkChainsModel", name := "holding", desc := "(I)I" } : Jvm.MethodName) prog_14_method_106_code (5 : Nat) (Option.some Jvm.ClassFile.FieldType.int)) ∈ kTb := kwm_8 45 rfl rfl
theorem kw_8_46 : (Jvm.Cond.methodLink "MarkChainsLaw" (198 : Nat) ({ cls := "MarkChainsModel", name := "drought", desc := "(III)I" } : Jvm.MethodName)) ∈ kTb := kwm_8 46 rfl rfl
theorem kw_8_47 : (Jvm.Cond.instanceMethod ({ cls := "MarkChainsModel", name := "drought", desc := "(III)I" } : Jvm.MethodName)) ∈ kTb := kwm_8 47 rfl rfl
theorem kw_8_48 : (Jvm.Cond.selects "MarkChainsModel" ({ cls := "MarkChainsModel", name := "drought", desc := "(III)I" } : Jvm.MethodName) ({ cls := "MarkChainsModel", name := "drought", desc := "(III)I" } : Jvm.MethodName)) ∈ kTb := kwm_8 48 rfl rfl
theorem kw_8_49 : (Jvm.Cond.code ({ cls := "MarkChainsModel", name := "drought", desc := "(III)I" } : Jvm.MethodName) prog_14_method_107_code (7 : Nat) (Option.some Jvm.ClassFile.FieldType.int)) ∈ kTb := kwm_8 49 rfl rfl
theorem kw_8_50 : (Jvm.Cond.methodLink "MarkChainsLaw" (162 : Nat) ({ cls := "MarkChainsModel", name := "acts", desc := "()I" } : Jvm.MethodName)) ∈ kTb := kwm_8 50 rfl rfl
theorem kw_8_51 : (Jvm.Cond.instanceMethod ({ cls := "MarkChainsModel", name := "acts", desc := "()I" } : Jvm.MethodName)) ∈ kTb := kwm_8 51 rfl rfl
theorem kw_8_52 : (Jvm.Cond.selects "MarkChainsModel" ({ cls := "MarkChainsModel", name := "acts", desc := "()I" } : Jvm.MethodName) ({ cls := "MarkChainsModel", name := "acts", desc := "()I" } : Jvm.MethodName)) ∈ kTb := kwm_8 52 rfl rfl
theorem kw_8_53 : (Jvm.Cond.code ({ cls := "MarkChainsModel", name := "acts", desc := "()I" } : Jvm.MethodName) prog_14_method_111_code (3 : Nat) (Option.some Jvm.ClassFile.FieldType.int)) ∈ kTb := kwm_8 53 rfl rfl
theorem kw_8_54 : (Jvm.Cond.methodLink "MarkChainsModel" (332 : Nat) ({ cls := "MarkChainsModel", name := "readAct", desc := "()Z" } : Jvm.MethodName)) ∈ kTb := kwm_8 54 rfl rfl
theorem kw_8_56 : (Jvm.Cond.instanceMethod ({ cls := "MarkChainsModel", name := "readAct", desc := "()Z" } : Jvm.MethodName)) ∈ kTb := kwm_8 56 rfl rfl
theorem kw_8_57 : (Jvm.Cond.code ({ cls := "MarkChainsModel", name := "readAct", desc := "()Z" } : Jvm.MethodName) prog_14_method_109_code (3 : Nat) (Option.some Jvm.ClassFile.FieldType.boolean)) ∈ kTb := kwm_8 57 rfl rfl
theorem kw_8_58 : (Jvm.Cond.methodLink "MarkChainsModel" (314 : Nat) ({ cls := "MarkChainsModel", name := "readAny", desc := "(I)Z" } : Jvm.MethodName)) ∈ kTb := kwm_8 58 rfl rfl
theorem kw_8_60 : (Jvm.Cond.instanceMethod ({ cls := "MarkChainsModel", name := "readAny", desc := "(I)Z" } : Jvm.MethodName)) ∈ kTb := kwm_8 60 rfl rfl
theorem kw_8_61 : (Jvm.Cond.code ({ cls := "MarkChainsModel", name := "readAny", desc := "(I)Z" } : Jvm.MethodName) prog_14_method_108_code (3 : Nat) (Option.some Jvm.ClassFile.FieldType.boolean)) ∈ kTb := kwm_8 61 rfl rfl
theorem kw_8_62 : (Jvm.Cond.methodLink "MarkChainsModel" (338 : Nat) ({ cls := "MarkChainsModel", name := "doAct", desc := "(I)I" } : Jvm.MethodName)) ∈ kTb := kwm_8 62 rfl rfl
theorem kw_8_64 : (Jvm.Cond.instanceMethod ({ cls := "MarkChainsModel", name := "doAct", desc := "(I)I" } : Jvm.MethodName)) ∈ kTb := kwm_8 64 rfl rfl
theorem kw_8_65 : (Jvm.Cond.code ({ cls := "MarkChainsModel", name := "doAct", desc := "(I)I" } : Jvm.MethodName) prog_14_method_110_code (2 : Nat) (Option.some Jvm.ClassFile.FieldType.int)) ∈ kTb := kwm_8 65 rfl rfl
theorem kw_8_66 : (Jvm.Cond.methodLink "MarkChainsModel" (317 : Nat) ({ cls := "MarkChainsModel", name := "ratify", desc := "(I)I" } : Jvm.MethodName)) ∈ kTb := kwm_8 66 rfl rfl
theorem kw_8_67 : (Jvm.Cond.methodLink "MarkChainsModel" (320 : Nat) ({ cls := "MarkChainsModel", name := "strike", desc := "(I)I" } : Jvm.MethodName)) ∈ kTb := kwm_8 67 rfl rfl
theorem kw_8_68 : (Jvm.Cond.methodLink "MarkChainsModel" (323 : Nat) ({ cls := "MarkChainsModel", name := "days", desc := "(I)I" } : Jvm.MethodName)) ∈ kTb := kwm_8 68 rfl rfl
theorem kw_8_69 : (Jvm.Cond.methodLink "MarkChainsModel" (326 : Nat) ({ cls := "MarkChainsModel", name := "paper", desc := "(II)I" } : Jvm.MethodName)) ∈ kTb := kwm_8 69 rfl rfl
theorem kw_8_70 : (Jvm.Cond.methodLink "MarkChainsModel" (329 : Nat) ({ cls := "MarkChainsModel", name := "ban", desc := "(III)I" } : Jvm.MethodName)) ∈ kTb := kwm_8 70 rfl rfl
theorem kw_8_71 : (Jvm.Cond.methodLink "MarkChainsLaw" (166 : Nat) ({ cls := "MarkChainsModel", name := "ended", desc := "()I" } : Jvm.MethodName)) ∈ kTb := kwm_8 71 rfl rfl
theorem kw_8_72 : (Jvm.Cond.instanceMethod ({ cls := "MarkChainsModel", name := "ended", desc := "()I" } : Jvm.MethodName)) ∈ kTb := kwm_8 72 rfl rfl
theorem kw_8_73 : (Jvm.Cond.selects "MarkChainsModel" ({ cls := "MarkChainsModel", name := "ended", desc := "()I" } : Jvm.MethodName) ({ cls := "MarkChainsModel", name := "ended", desc := "()I" } : Jvm.MethodName)) ∈ kTb := kwm_8 73 rfl rfl
theorem kw_8_74 : (Jvm.Cond.code ({ cls := "MarkChainsModel", name := "ended", desc := "()I" } : Jvm.MethodName) prog_14_method_112_code (1 : Nat) (Option.some Jvm.ClassFile.FieldType.int)) ∈ kTb := kwm_8 74 rfl rfl
theorem kw_8_75 : (Jvm.Cond.methodLink "MarkChainsLaw" (170 : Nat) ({ cls := "MarkChainsModel", name := "row", desc := "(I)I" } : Jvm.MethodName)) ∈ kTb := kwm_8 75 rfl rfl
theorem kw_8_76 : (Jvm.Cond.instanceMethod ({ cls := "MarkChainsModel", name := "row", desc := "(I)I" } : Jvm.MethodName)) ∈ kTb := kwm_8 76 rfl rfl
theorem kw_8_77 : (Jvm.Cond.selects "MarkChainsModel" ({ cls := "MarkChainsModel", name := "row", desc := "(I)I" } : Jvm.MethodName) ({ cls := "MarkChainsModel", name := "row", desc := "(I)I" } : Jvm.MethodName)) ∈ kTb := kwm_8 77 rfl rfl
theorem kw_8_78 : (Jvm.Cond.code ({ cls := "MarkChainsModel", name := "row", desc := "(I)I" } : Jvm.MethodName) prog_14_method_113_code (2 : Nat) (Option.some Jvm.ClassFile.FieldType.int)) ∈ kTb := kwm_8 78 rfl rfl
theorem kw_8_79 : (Jvm.Cond.methodLink "MarkChainsLaw" (206 : Nat) ({ cls := "MarkChainsModel", name := "write", desc := "(III)I" } : Jvm.MethodName)) ∈ kTb := kwm_8 79 rfl rfl
theorem kw_8_80 : (Jvm.Cond.instanceMethod ({ cls := "MarkChainsModel", name := "write", desc := "(III)I" } : Jvm.MethodName)) ∈ kTb := kwm_8 80 rfl rfl
theorem kw_8_81 : (Jvm.Cond.selects "MarkChainsModel" ({ cls := "MarkChainsModel", name := "write", desc := "(III)I" } : Jvm.MethodName) ({ cls := "MarkChainsModel", name := "write", desc := "(III)I" } : Jvm.MethodName)) ∈ kTb := kwm_8 81 rfl rfl
theorem kw_8_82 : (Jvm.Cond.code ({ cls := "MarkChainsModel", name := "write", desc := "(III)I" } : Jvm.MethodName) prog_14_method_116_code (5 : Nat) (Option.some Jvm.ClassFile.FieldType.int)) ∈ kTb := kwm_8 82 rfl rfl
theorem kw_8_83 : (Jvm.Cond.methodLink "MarkChainsModel" (344 : Nat) ({ cls := "MarkChainsModel", name := "writes", desc := "(I)V" } : Jvm.MethodName)) ∈ kTb := kwm_8 83 rfl rfl
theorem kw_8_85 : (Jvm.Cond.instanceMethod ({ cls := "MarkChainsModel", name := "writes", desc := "(I)V" } : Jvm.MethodName)) ∈ kTb := kwm_8 85 rfl rfl
theorem kw_8_86 : (Jvm.Cond.code ({ cls := "MarkChainsModel", name := "writes", desc := "(I)V" } : Jvm.MethodName) prog_14_method_114_code (2 : Nat) (Option.none : Option Jvm.ClassFile.FieldType)) ∈ kTb := kwm_8 86 rfl rfl
theorem kw_8_87 : (Jvm.Cond.methodLink "MarkChainsModel" (347 : Nat) ({ cls := "MarkChainsModel", name := "writeNumber", desc := "(I)V" } : Jvm.MethodName)) ∈ kTb := kwm_8 87 rfl rfl
theorem kw_8_89 : (Jvm.Cond.instanceMethod ({ cls := "MarkChainsModel", name := "writeNumber", desc := "(I)V" } : Jvm.MethodName)) ∈ kTb := kwm_8 89 rfl rfl
theorem kw_8_90 : (Jvm.Cond.code ({ cls := "MarkChainsModel", name := "writeNumber", desc := "(I)V" } : Jvm.MethodName) prog_14_method_115_code (3 : Nat) (Option.none : Option Jvm.ClassFile.FieldType)) ∈ kTb := kwm_8 90 rfl rfl
theorem kw_8_91 : (Jvm.Cond.methodLink "MarkChainsLaw" (210 : Nat) ({ cls := "MarkChainsModel", name := "octet", desc := "(I)I" } : Jvm.MethodName)) ∈ kTb := kwm_8 91 rfl rfl
theorem kw_8_92 : (Jvm.Cond.instanceMethod ({ cls := "MarkChainsModel", name := "octet", desc := "(I)I" } : Jvm.MethodName)) ∈ kTb := kwm_8 92 rfl rfl
theorem kw_8_93 : (Jvm.Cond.selects "MarkChainsModel" ({ cls := "MarkChainsModel", name := "octet", desc := "(I)I" } : Jvm.MethodName) ({ cls := "MarkChainsModel", name := "octet", desc := "(I)I" } : Jvm.MethodName)) ∈ kTb := kwm_8 93 rfl rfl
theorem kw_8_94 : (Jvm.Cond.code ({ cls := "MarkChainsModel", name := "octet", desc := "(I)I" } : Jvm.MethodName) prog_14_method_117_code (2 : Nat) (Option.some Jvm.ClassFile.FieldType.int)) ∈ kTb := kwm_8 94 rfl rfl
theorem kw_8_95 : (Jvm.Cond.fieldLink "java/lang/String" (15 : Nat) "java/lang/String" "coder" "B") ∈ kTb := kwm_8 95 rfl rfl
theorem kw_8_96 : (Jvm.Cond.fieldLink "java/lang/String" (9 : Nat) "java/lang/String" "value" "[B") ∈ kTb := kwm_8 96 rfl rfl
theorem kin_X0 : ∀ w ∈ u_ws RX0 TX0 5, w ∈ kTb := by
  rw [show u_ws RX0 TX0 5 = [Cond.laysFinal "MarkChains$Acts" "MarkChains$Acts" "letters" "[I", Cond.laysFinal "MarkChains$Acts" "MarkChains$Acts" "numbers" "[I", Cond.laysFinal "MarkChains$Acts" "MarkChains$Acts" "answers" "[I", Cond.lays "MarkChains$Acts" "MarkChains$Acts" "done" "I", Cond.lays "MarkChains$Acts" "MarkChains$Acts" "endedBy" "I"] from rfl]
  exact List.forall_mem_cons.mpr ⟨kw_1_229, List.forall_mem_cons.mpr ⟨kw_1_231, List.forall_mem_cons.mpr ⟨kw_1_233, List.forall_mem_cons.mpr ⟨kw_1_235, List.forall_mem_cons.mpr ⟨kw_1_237, fun _ h => absurd h List.not_mem_nil⟩⟩⟩⟩⟩
theorem kin_X1 : ∀ w ∈ u_ws RX1 TX1 16, w ∈ kTb := by
  rw [show u_ws RX1 TX1 16 = [Cond.laysFinal "MarkChains$Book" "MarkChains$Book" "events" "LMarkChains$Pairs;", Cond.laysFinal "MarkChains$Book" "MarkChains$Book" "places" "LMarkChains$Pairs;", Cond.laysFinal "MarkChains$Book" "MarkChains$Book" "athletes" "LMarkChains$Pairs;", Cond.laysFinal "MarkChains$Book" "MarkChains$Book" "event" "[I", Cond.laysFinal "MarkChains$Book" "MarkChains$Book" "athlete" "[I", Cond.laysFinal "MarkChains$Book" "MarkChains$Book" "place" "[I", Cond.laysFinal "MarkChains$Book" "MarkChains$Book" "day" "[I", Cond.laysFinal "MarkChains$Book" "MarkChains$Book" "minute" "[I", Cond.laysFinal "MarkChains$Book" "MarkChains$Book" "value" "[I", Cond.laysFinal "MarkChains$Book" "MarkChains$Book" "wind" "[I", Cond.laysFinal "MarkChains$Book" "MarkChains$Book" "shoe" "[I", Cond.laysFinal "MarkChains$Book" "MarkChains$Book" "papers" "[I", Cond.laysFinal "MarkChains$Book" "MarkChains$Book" "ratified" "[I", Cond.laysFinal "MarkChains$Book" "MarkChains$Book" "struck" "[I", Cond.laysFinal "MarkChains$Book" "MarkChains$Book" "order" "[I", Cond.lays "MarkChains$Book" "MarkChains$Book" "size" "I"] from rfl]
  exact List.forall_mem_cons.mpr ⟨kw_1_128, List.forall_mem_cons.mpr ⟨kw_1_130, List.forall_mem_cons.mpr ⟨kw_1_132, List.forall_mem_cons.mpr ⟨kw_1_134, List.forall_mem_cons.mpr ⟨kw_1_136, List.forall_mem_cons.mpr ⟨kw_1_138, List.forall_mem_cons.mpr ⟨kw_1_140, List.forall_mem_cons.mpr ⟨kw_1_142, List.forall_mem_cons.mpr ⟨kw_1_144, List.forall_mem_cons.mpr ⟨kw_1_146, List.forall_mem_cons.mpr ⟨kw_1_148, List.forall_mem_cons.mpr ⟨kw_1_150, List.forall_mem_cons.mpr ⟨kw_1_152, List.forall_mem_cons.mpr ⟨kw_1_154, List.forall_mem_cons.mpr ⟨kw_1_156, List.forall_mem_cons.mpr ⟨kw_1_158, fun _ h => absurd h List.not_mem_nil⟩⟩⟩⟩⟩⟩⟩⟩⟩⟩⟩⟩⟩⟩⟩⟩
theorem kin_X2 : ∀ w ∈ u_ws RX2 TX2 5, w ∈ kTb := by
  rw [show u_ws RX2 TX2 5 = [Cond.laysFinal "MarkChains$Deed" "MarkChains$Deed" "kind" "I", Cond.laysFinal "MarkChains$Deed" "MarkChains$Deed" "which" "I", Cond.laysFinal "MarkChains$Deed" "MarkChains$Deed" "old" "I", Cond.laysFinal "MarkChains$Deed" "MarkChains$Deed" "bits" "J", Cond.laysFinal "MarkChains$Deed" "MarkChains$Deed" "formula" "LMarkChains$Formula;"] from rfl]
  exact List.forall_mem_cons.mpr ⟨kw_3_108, List.forall_mem_cons.mpr ⟨kw_3_110, List.forall_mem_cons.mpr ⟨kw_3_112, List.forall_mem_cons.mpr ⟨kw_3_114, List.forall_mem_cons.mpr ⟨kw_3_116, fun _ h => absurd h List.not_mem_nil⟩⟩⟩⟩⟩
theorem kin_X3 : ∀ w ∈ u_ws RX3 TX3 3, w ∈ kTb := by
  rw [show u_ws RX3 TX3 3 = [Cond.laysFinal "MarkChains$Deeds" "MarkChains$Deeds" "ring" "[LMarkChains$Deed;", Cond.lays "MarkChains$Deeds" "MarkChains$Deeds" "next" "I", Cond.lays "MarkChains$Deeds" "MarkChains$Deeds" "size" "I"] from rfl]
  exact List.forall_mem_cons.mpr ⟨kw_2_12, List.forall_mem_cons.mpr ⟨kw_2_14, List.forall_mem_cons.mpr ⟨kw_2_16, fun _ h => absurd h List.not_mem_nil⟩⟩⟩
theorem kin_X4 : ∀ w ∈ u_ws RX4 TX4 4, w ∈ kTb := by
  rw [show u_ws RX4 TX4 4 = [Cond.laysFinal "MarkChains$Formula" "MarkChains$Formula" "code" "[I", Cond.laysFinal "MarkChains$Formula" "MarkChains$Formula" "ends" "[I", Cond.laysFinal "MarkChains$Formula" "MarkChains$Formula" "stack" "[I", Cond.lays "MarkChains$Formula" "MarkChains$Formula" "height" "I"] from rfl]
  exact List.forall_mem_cons.mpr ⟨kw_2_65, List.forall_mem_cons.mpr ⟨kw_2_67, List.forall_mem_cons.mpr ⟨kw_2_69, List.forall_mem_cons.mpr ⟨kw_2_71, fun _ h => absurd h List.not_mem_nil⟩⟩⟩⟩
theorem kin_X5 : ∀ w ∈ u_ws RX5 TX5 11, w ∈ kTb := by
  rw [show u_ws RX5 TX5 11 = [Cond.laysFinal "MarkChains$FormulaReader" "MarkChains$FormulaReader" "tape" "LMarkChains$Tape;", Cond.laysFinal "MarkChains$FormulaReader" "MarkChains$FormulaReader" "code" "[I", Cond.laysFinal "MarkChains$FormulaReader" "MarkChains$FormulaReader" "waiting" "[I", Cond.laysFinal "MarkChains$FormulaReader" "MarkChains$FormulaReader" "ends" "[I", Cond.lays "MarkChains$FormulaReader" "MarkChains$FormulaReader" "codeSize" "I", Cond.lays "MarkChains$FormulaReader" "MarkChains$FormulaReader" "waitingSize" "I", Cond.lays "MarkChains$FormulaReader" "MarkChains$FormulaReader" "conds" "I", Cond.lays "MarkChains$FormulaReader" "MarkChains$FormulaReader" "things" "I", Cond.lays "MarkChains$FormulaReader" "MarkChains$FormulaReader" "nested" "I", Cond.lays "MarkChains$FormulaReader" "MarkChains$FormulaReader" "state" "I", Cond.lays "MarkChains$FormulaReader" "MarkChains$FormulaReader" "isCompared" "Z"] from rfl]
  exact List.forall_mem_cons.mpr ⟨kw_1_192, List.forall_mem_cons.mpr ⟨kw_1_194, List.forall_mem_cons.mpr ⟨kw_1_196, List.forall_mem_cons.mpr ⟨kw_1_198, List.forall_mem_cons.mpr ⟨kw_1_200, List.forall_mem_cons.mpr ⟨kw_1_202, List.forall_mem_cons.mpr ⟨kw_1_204, List.forall_mem_cons.mpr ⟨kw_1_206, List.forall_mem_cons.mpr ⟨kw_1_208, List.forall_mem_cons.mpr ⟨kw_1_210, List.forall_mem_cons.mpr ⟨kw_1_212, fun _ h => absurd h List.not_mem_nil⟩⟩⟩⟩⟩⟩⟩⟩⟩⟩⟩
theorem kin_X6 : ∀ w ∈ u_ws RX6 TX6 2, w ∈ kTb := by
  rw [show u_ws RX6 TX6 2 = [Cond.laysFinal "MarkChains$ItemReader" "MarkChains$ItemReader" "tape" "LMarkChains$Tape;", Cond.laysFinal "MarkChains$ItemReader" "MarkChains$ItemReader" "book" "LMarkChains$Book;"] from rfl]
  exact List.forall_mem_cons.mpr ⟨kw_1_169, List.forall_mem_cons.mpr ⟨kw_1_171, fun _ h => absurd h List.not_mem_nil⟩⟩
theorem kin_X7 : ∀ w ∈ u_ws RX7 TX7 4, w ∈ kTb := by
  rw [show u_ws RX7 TX7 4 = [Cond.laysFinal "MarkChains$Line" "MarkChains$Line" "book" "LMarkChains$Book;", Cond.laysFinal "MarkChains$Line" "MarkChains$Line" "numbers" "[I", Cond.laysFinal "MarkChains$Line" "MarkChains$Line" "bestOf" "[I", Cond.lays "MarkChains$Line" "MarkChains$Line" "size" "I"] from rfl]
  exact List.forall_mem_cons.mpr ⟨kw_2_31, List.forall_mem_cons.mpr ⟨kw_2_33, List.forall_mem_cons.mpr ⟨kw_2_35, List.forall_mem_cons.mpr ⟨kw_2_37, fun _ h => absurd h List.not_mem_nil⟩⟩⟩⟩
theorem kin_X8 : ∀ w ∈ u_ws RX8 TX8 3, w ∈ kTb := by
  rw [show u_ws RX8 TX8 3 = [Cond.laysFinal "MarkChains$Pairs" "MarkChains$Pairs" "first" "[I", Cond.laysFinal "MarkChains$Pairs" "MarkChains$Pairs" "second" "[I", Cond.lays "MarkChains$Pairs" "MarkChains$Pairs" "size" "I"] from rfl]
  exact List.forall_mem_cons.mpr ⟨kw_1_85, List.forall_mem_cons.mpr ⟨kw_1_87, List.forall_mem_cons.mpr ⟨kw_1_89, fun _ h => absurd h List.not_mem_nil⟩⟩⟩
theorem kin_X9 : ∀ w ∈ u_ws RX9 TX9 2, w ∈ kTb := by
  rw [show u_ws RX9 TX9 2 = [Cond.laysFinal "MarkChains$Sheet" "MarkChains$Sheet" "bytes" "[I", Cond.lays "MarkChains$Sheet" "MarkChains$Sheet" "size" "I"] from rfl]
  exact List.forall_mem_cons.mpr ⟨kw_2_50, List.forall_mem_cons.mpr ⟨kw_2_52, fun _ h => absurd h List.not_mem_nil⟩⟩
theorem kin_X10 : ∀ w ∈ u_ws RX10 TX10 6, w ∈ kTb := by
  rw [show u_ws RX10 TX10 6 = [Cond.laysFinal "MarkChains$Tape" "MarkChains$Tape" "bytes" "[I", Cond.lays "MarkChains$Tape" "MarkChains$Tape" "length" "I", Cond.lays "MarkChains$Tape" "MarkChains$Tape" "place" "I", Cond.lays "MarkChains$Tape" "MarkChains$Tape" "number" "I", Cond.lays "MarkChains$Tape" "MarkChains$Tape" "numberPlace" "I", Cond.lays "MarkChains$Tape" "MarkChains$Tape" "fault" "I"] from rfl]
  exact List.forall_mem_cons.mpr ⟨kw_1_47, List.forall_mem_cons.mpr ⟨kw_1_49, List.forall_mem_cons.mpr ⟨kw_1_51, List.forall_mem_cons.mpr ⟨kw_1_53, List.forall_mem_cons.mpr ⟨kw_1_55, List.forall_mem_cons.mpr ⟨kw_1_57, fun _ h => absurd h List.not_mem_nil⟩⟩⟩⟩⟩⟩
theorem kin_X11 : ∀ w ∈ u_ws RX11 TX11 13, w ∈ kTb := by
  rw [show u_ws RX11 TX11 13 = [Cond.laysFinal "MarkChains" "MarkChains" "tape" "LMarkChains$Tape;", Cond.laysFinal "MarkChains" "MarkChains" "book" "LMarkChains$Book;", Cond.laysFinal "MarkChains" "MarkChains" "itemReader" "LMarkChains$ItemReader;", Cond.laysFinal "MarkChains" "MarkChains" "formulaReader" "LMarkChains$FormulaReader;", Cond.laysFinal "MarkChains" "MarkChains" "plan" "LMarkChains$Acts;", Cond.laysFinal "MarkChains" "MarkChains" "deeds" "LMarkChains$Deeds;", Cond.laysFinal "MarkChains" "MarkChains" "line" "LMarkChains$Line;", Cond.laysFinal "MarkChains" "MarkChains" "secondLine" "LMarkChains$Line;", Cond.laysFinal "MarkChains" "MarkChains" "sheet" "LMarkChains$Sheet;", Cond.laysFinal "MarkChains" "MarkChains" "bestPoints" "[I", Cond.lays "MarkChains" "MarkChains" "needed" "LMarkChains$Formula;", Cond.lays "MarkChains" "MarkChains" "scored" "LMarkChains$Formula;", Cond.lays "MarkChains" "MarkChains" "today" "I"] from rfl]
  exact List.forall_mem_cons.mpr ⟨kw_2_87, List.forall_mem_cons.mpr ⟨kw_2_89, List.forall_mem_cons.mpr ⟨kw_2_91, List.forall_mem_cons.mpr ⟨kw_2_93, List.forall_mem_cons.mpr ⟨kw_2_95, List.forall_mem_cons.mpr ⟨kw_2_97, List.forall_mem_cons.mpr ⟨kw_2_99, List.forall_mem_cons.mpr ⟨kw_2_101, List.forall_mem_cons.mpr ⟨kw_2_103, List.forall_mem_cons.mpr ⟨kw_2_105, List.forall_mem_cons.mpr ⟨kw_2_107, List.forall_mem_cons.mpr ⟨kw_2_109, List.forall_mem_cons.mpr ⟨kw_2_111, fun _ h => absurd h List.not_mem_nil⟩⟩⟩⟩⟩⟩⟩⟩⟩⟩⟩⟩⟩
theorem kin_X12 : ∀ w ∈ u_ws RX12 TX12 33, w ∈ kTb := by
  rw [show u_ws RX12 TX12 33 = [Cond.laysFinal "MarkChainsModel" "MarkChainsModel" "all" "[I", Cond.laysFinal "MarkChainsModel" "MarkChainsModel" "kept" "[I", Cond.laysFinal "MarkChainsModel" "MarkChainsModel" "ahead" "[I", Cond.lays "MarkChainsModel" "MarkChainsModel" "deeds" "I", Cond.laysFinal "MarkChainsModel" "MarkChainsModel" "tape" "[B", Cond.lays "MarkChainsModel" "MarkChainsModel" "taped" "I", Cond.lays "MarkChainsModel" "MarkChainsModel" "at" "I", Cond.lays "MarkChainsModel" "MarkChainsModel" "faultPlace" "I", Cond.lays "MarkChainsModel" "MarkChainsModel" "number" "I", Cond.laysFinal "MarkChainsModel" "MarkChainsModel" "newCode" "[I", Cond.laysFinal "MarkChainsModel" "MarkChainsModel" "newBegin" "[I", Cond.lays "MarkChainsModel" "MarkChainsModel" "newCodes" "I", Cond.lays "MarkChainsModel" "MarkChainsModel" "newThings" "I", Cond.laysFinal "MarkChainsModel" "MarkChainsModel" "opened" "[I", Cond.laysFinal "MarkChainsModel" "MarkChainsModel" "andWaits" "[Z", Cond.laysFinal "MarkChainsModel" "MarkChainsModel" "orWaits" "[Z", Cond.lays "MarkChainsModel" "MarkChainsModel" "opens" "I", Cond.laysFinal "MarkChainsModel" "MarkChainsModel" "pile" "[I", Cond.laysFinal "MarkChainsModel" "MarkChainsModel" "order" "[I", Cond.laysFinal "MarkChainsModel" "MarkChainsModel" "link" "[I", Cond.lays "MarkChainsModel" "MarkChainsModel" "links" "I", Cond.lays "MarkChainsModel" "MarkChainsModel" "added" "I", Cond.lays "MarkChainsModel" "MarkChainsModel" "left" "I", Cond.laysFinal "MarkChainsModel" "MarkChainsModel" "wasLinked" "[Z", Cond.lays "MarkChainsModel" "MarkChainsModel" "freshMany" "I", Cond.lays "MarkChainsModel" "MarkChainsModel" "freshFirst" "I", Cond.laysFinal "MarkChainsModel" "MarkChainsModel" "act" "[I", Cond.laysFinal "MarkChainsModel" "MarkChainsModel" "toldBy" "[I", Cond.lays "MarkChainsModel" "MarkChainsModel" "actMany" "I", Cond.lays "MarkChainsModel" "MarkChainsModel" "actsDone" "I", Cond.lays "MarkChainsModel" "MarkChainsModel" "endedAt" "I", Cond.laysFinal "MarkChainsModel" "MarkChainsModel" "written" "[B", Cond.lays "MarkChainsModel" "MarkChainsModel" "writtenLong" "I"] from rfl]
  exact List.forall_mem_cons.mpr ⟨kw_6_39, List.forall_mem_cons.mpr ⟨kw_6_41, List.forall_mem_cons.mpr ⟨kw_6_43, List.forall_mem_cons.mpr ⟨kw_6_45, List.forall_mem_cons.mpr ⟨kw_6_47, List.forall_mem_cons.mpr ⟨kw_6_49, List.forall_mem_cons.mpr ⟨kw_6_51, List.forall_mem_cons.mpr ⟨kw_6_53, List.forall_mem_cons.mpr ⟨kw_6_55, List.forall_mem_cons.mpr ⟨kw_6_57, List.forall_mem_cons.mpr ⟨kw_6_59, List.forall_mem_cons.mpr ⟨kw_6_61, List.forall_mem_cons.mpr ⟨kw_6_63, List.forall_mem_cons.mpr ⟨kw_6_65, List.forall_mem_cons.mpr ⟨kw_6_67, List.forall_mem_cons.mpr ⟨kw_6_69, List.forall_mem_cons.mpr ⟨kw_6_71, List.forall_mem_cons.mpr ⟨kw_6_73, List.forall_mem_cons.mpr ⟨kw_6_75, List.forall_mem_cons.mpr ⟨kw_6_77, List.forall_mem_cons.mpr ⟨kw_6_79, List.forall_mem_cons.mpr ⟨kw_6_81, List.forall_mem_cons.mpr ⟨kw_6_83, List.forall_mem_cons.mpr ⟨kw_6_85, List.forall_mem_cons.mpr ⟨kw_6_87, List.forall_mem_cons.mpr ⟨kw_6_89, List.forall_mem_cons.mpr ⟨kw_6_91, List.forall_mem_cons.mpr ⟨kw_6_93, List.forall_mem_cons.mpr ⟨kw_6_95, List.forall_mem_cons.mpr ⟨kw_6_97, List.forall_mem_cons.mpr ⟨kw_6_99, List.forall_mem_cons.mpr ⟨kw_6_101, List.forall_mem_cons.mpr ⟨kw_6_103, fun _ h => absurd h List.not_mem_nil⟩⟩⟩⟩⟩⟩⟩⟩⟩⟩⟩⟩⟩⟩⟩⟩⟩⟩⟩⟩⟩⟩⟩⟩⟩⟩⟩⟩⟩⟩⟩⟩⟩
def kNF : List (String × Nat × String × String × String × String) := [("MarkChains", 94, "MarkChains$Tape", "length", "I", "MarkChains"), ("MarkChains$Acts", 62, "MarkChains$Tape", "number", "I", "MarkChains"), ("MarkChains$ItemReader", 55, "MarkChains$Tape", "number", "I", "MarkChains"), ("MarkChains$FormulaReader", 115, "MarkChains$Tape", "number", "I", "MarkChains"), ("MarkChains", 133, "MarkChains$Tape", "fault", "I", "MarkChains"), ("MarkChains", 181, "MarkChains$Pairs", "first", "[I", "MarkChains"), ("MarkChains$Book", 109, "MarkChains$Pairs", "first", "[I", "MarkChains"), ("MarkChains", 184, "MarkChains$Pairs", "second", "[I", "MarkChains"), ("MarkChains$Book", 106, "MarkChains$Pairs", "second", "[I", "MarkChains"), ("MarkChains", 140, "MarkChains$Pairs", "size", "I", "MarkChains"), ("MarkChains$Book", 92, "MarkChains$Pairs", "size", "I", "MarkChains"), ("MarkChains$ItemReader", 88, "MarkChains$Book", "events", "LMarkChains$Pairs;", "MarkChains"), ("MarkChains", 136, "MarkChains$Book", "events", "LMarkChains$Pairs;", "MarkChains"), ("MarkChains$ItemReader", 100, "MarkChains$Book", "places", "LMarkChains$Pairs;", "MarkChains"), ("MarkChains", 145, "MarkChains$Book", "places", "LMarkChains$Pairs;", "MarkChains"), ("MarkChains$ItemReader", 97, "MarkChains$Book", "athletes", "LMarkChains$Pairs;", "MarkChains"), ("MarkChains", 148, "MarkChains$Book", "athletes", "LMarkChains$Pairs;", "MarkChains"), ("MarkChains", 266, "MarkChains$Book", "event", "[I", "MarkChains"), ("MarkChains$Line", 50, "MarkChains$Book", "athlete", "[I", "MarkChains"), ("MarkChains", 202, "MarkChains$Book", "athlete", "[I", "MarkChains"), ("MarkChains$Line", 56, "MarkChains$Book", "day", "[I", "MarkChains"), ("MarkChains", 199, "MarkChains$Book", "day", "[I", "MarkChains"), ("MarkChains$Line", 95, "MarkChains$Book", "minute", "[I", "MarkChains"), ("MarkChains$Line", 63, "MarkChains$Book", "value", "[I", "MarkChains"), ("MarkChains", 372, "MarkChains$Book", "value", "[I", "MarkChains"), ("MarkChains", 187, "MarkChains$Book", "papers", "[I", "MarkChains"), ("MarkChains", 193, "MarkChains$Book", "ratified", "[I", "MarkChains"), ("MarkChains", 196, "MarkChains$Book", "struck", "[I", "MarkChains"), ("MarkChains$Line", 29, "MarkChains$Book", "order", "[I", "MarkChains"), ("MarkChains$Line", 26, "MarkChains$Book", "size", "I", "MarkChains"), ("MarkChains", 151, "MarkChains$Book", "size", "I", "MarkChains"), ("MarkChains", 284, "MarkChains$FormulaReader", "things", "I", "MarkChains"), ("MarkChains", 334, "MarkChains$Acts", "answers", "[I", "MarkChains"), ("MarkChains", 331, "MarkChains$Acts", "done", "I", "MarkChains"), ("MarkChains", 321, "MarkChains$Acts", "endedBy", "I", "MarkChains"), ("MarkChains", 152, "MarkChains$Deeds", "size", "I", "MarkChains"), ("MarkChains", 242, "MarkChains$Line", "numbers", "[I", "MarkChains"), ("MarkChains", 272, "MarkChains$Line", "size", "I", "MarkChains"), ("MarkChains", 378, "MarkChains$Sheet", "bytes", "[I", "MarkChains"), ("MarkChains", 365, "MarkChains$Sheet", "size", "I", "MarkChains"), ("MarkChains", 424, "MarkChains$Deed", "kind", "I", "MarkChains"), ("MarkChains", 434, "MarkChains$Deed", "which", "I", "MarkChains"), ("MarkChains", 440, "MarkChains$Deed", "old", "I", "MarkChains"), ("MarkChains", 427, "MarkChains$Deed", "bits", "J", "MarkChains"), ("MarkChains", 431, "MarkChains$Deed", "formula", "LMarkChains$Formula;", "MarkChains")]
def kNM : List (String × Nat × MethodName × String) := [("MarkChains", 9, ⟨"MarkChains$Tape", "<init>", "()V"⟩, "MarkChains"), ("MarkChains", 18, ⟨"MarkChains$Book", "<init>", "()V"⟩, "MarkChains"), ("MarkChains", 43, ⟨"MarkChains$Acts", "<init>", "()V"⟩, "MarkChains"), ("MarkChains", 50, ⟨"MarkChains$Deeds", "<init>", "()V"⟩, "MarkChains"), ("MarkChains", 69, ⟨"MarkChains$Sheet", "<init>", "()V"⟩, "MarkChains")]
