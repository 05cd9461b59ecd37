abbrev M_B_init : mI := (⟨"FigureLeave$Bills", "<init>", "()V"⟩, prog_2_method_1_code, 1, none, { frames := 1, cells := 2, slots := 12, locals := 20 })
abbrev M_B_begin : mI := (⟨"FigureLeave$Bills", "begin", "()V"⟩, prog_2_method_2_code, 1, none, { frames := 0, cells := 0, slots := 0, locals := 0 })
abbrev M_B_become : mI := (⟨"FigureLeave$Bills", "become", "(LFigureLeave$Bills;)V"⟩, prog_2_method_3_code, 2, none, { frames := 1, cells := 0, slots := 0, locals := 26 })
abbrev M_B_holds : mI := (⟨"FigureLeave$Bills", "holds", "(I)Z"⟩, prog_2_method_4_code, 2, some .boolean, { frames := 0, cells := 0, slots := 0, locals := 0 })
abbrev M_B_isPaid : mI := (⟨"FigureLeave$Bills", "isPaid", "(I)Z"⟩, prog_2_method_5_code, 2, some .boolean, { frames := 0, cells := 0, slots := 0, locals := 0 })
abbrev M_B_add : mI := (⟨"FigureLeave$Bills", "add", "(II)V"⟩, prog_2_method_6_code, 3, none, { frames := 0, cells := 0, slots := 0, locals := 0 })
abbrev M_B_settle : mI := (⟨"FigureLeave$Bills", "settle", "(I)V"⟩, prog_2_method_7_code, 2, none, { frames := 1, cells := 0, slots := 0, locals := 21 })
abbrev M_B_worthOf : mI := (⟨"FigureLeave$Bills", "worthOf", "(I)I"⟩, prog_2_method_8_code, 4, some .int, { frames := 0, cells := 0, slots := 0, locals := 0 })
abbrev M_K_init : mI := (⟨"FigureLeave$Clerk", "<init>", "()V"⟩, prog_3_method_1_code, 1, none, { frames := 2, cells := 6, slots := 30, locals := 40 })
abbrev M_K_cheapest : mI := (⟨"FigureLeave$Clerk", "cheapest", "(LFigureLeave$House;I)I"⟩, prog_3_method_2_code, 8, some .int, { frames := 3, cells := 0, slots := 0, locals := 70 })
abbrev M_K_firstWithout : mI := (⟨"FigureLeave$Clerk", "firstWithout", "(LFigureLeave$House;)I"⟩, prog_3_method_3_code, 3, some .int, { frames := 4, cells := 0, slots := 0, locals := 93 })
abbrev M_K_byAny : mI := (⟨"FigureLeave$Clerk", "byAny", "(LFigureLeave$House;I)Z"⟩, prog_3_method_4_code, 4, some .boolean, { frames := 3, cells := 0, slots := 0, locals := 70 })
abbrev M_K_countOn : mI := (⟨"FigureLeave$Clerk", "countOn", "(LFigureLeave$House;)I"⟩, prog_3_method_5_code, 3, some .int, { frames := 3, cells := 0, slots := 0, locals := 69 })
abbrev M_K_nightsTill : mI := (⟨"FigureLeave$Clerk", "nightsTill", "(LFigureLeave$House;II)I"⟩, prog_3_method_6_code, 5, some .int, { frames := 3, cells := 0, slots := 0, locals := 70 })
abbrev M_K_dearestBills : mI := (⟨"FigureLeave$Clerk", "dearestBills", "(LFigureLeave$House;)I"⟩, prog_3_method_7_code, 6, some .int, { frames := 4, cells := 0, slots := 0, locals := 92 })
abbrev M_K_goTogether : mI := (⟨"FigureLeave$Clerk", "goTogether", "(LFigureLeave$House;I)Z"⟩, prog_3_method_8_code, 4, some .boolean, { frames := 3, cells := 0, slots := 0, locals := 69 })
abbrev M_K_planDays : mI := (⟨"FigureLeave$Clerk", "planDays", "(LFigureLeave$House;)I"⟩, prog_3_method_9_code, 3, some .int, { frames := 5, cells := 0, slots := 0, locals := 119 })
abbrev M_K_plannedDay : mI := (⟨"FigureLeave$Clerk", "plannedDay", "(I)I"⟩, prog_3_method_10_code, 3, some .int, { frames := 0, cells := 0, slots := 0, locals := 0 })
abbrev M_K_planWithin : mI := (⟨"FigureLeave$Clerk", "planWithin", "(LFigureLeave$House;I)Z"⟩, prog_3_method_11_code, 5, some .boolean, { frames := 4, cells := 0, slots := 0, locals := 95 })
abbrev M_K_holdsSoFar : mI := (⟨"FigureLeave$Clerk", "holdsSoFar", "(LFigureLeave$House;II)Z"⟩, prog_3_method_12_code, 7, some .boolean, { frames := 3, cells := 0, slots := 0, locals := 69 })
abbrev M_K_mostWanted : mI := (⟨"FigureLeave$Clerk", "mostWanted", "(LFigureLeave$House;)I"⟩, prog_3_method_13_code, 6, some .int, { frames := 4, cells := 0, slots := 0, locals := 94 })
abbrev M_K_numbersWith : mI := (⟨"FigureLeave$Clerk", "numbersWith", "(LFigureLeave$House;I)I"⟩, prog_3_method_14_code, 5, some .int, { frames := 3, cells := 0, slots := 0, locals := 70 })
abbrev M_K_restingPairs : mI := (⟨"FigureLeave$Clerk", "restingPairs", "(LFigureLeave$House;II)I"⟩, prog_3_method_15_code, 8, some .int, { frames := 5, cells := 0, slots := 0, locals := 120 })
abbrev M_K_gain : mI := (⟨"FigureLeave$Clerk", "gain", "(LFigureLeave$House;IIII)I"⟩, prog_3_method_16_code, 9, some .int, { frames := 4, cells := 0, slots := 0, locals := 92 })
abbrev M_K_luckyWays : mI := (⟨"FigureLeave$Clerk", "luckyWays", "(LFigureLeave$House;LFigureLeave$Line;I)I"⟩, prog_3_method_17_code, 6, some .int, { frames := 3, cells := 0, slots := 0, locals := 72 })
abbrev M_K_bearsFree : mI := (⟨"FigureLeave$Clerk", "bearsFree", "(LFigureLeave$House;LFigureLeave$Line;I)Z"⟩, prog_3_method_18_code, 6, some .boolean, { frames := 2, cells := 0, slots := 0, locals := 47 })
abbrev M_K_waysOf : mI := (⟨"FigureLeave$Clerk", "waysOf", "(III)I"⟩, prog_3_method_19_code, 6, some .int, { frames := 0, cells := 0, slots := 0, locals := 0 })
abbrev M_K_writtenBySeed : mI := (⟨"FigureLeave$Clerk", "writtenBySeed", "(LFigureLeave$House;II)I"⟩, prog_3_method_20_code, 9, some .int, { frames := 3, cells := 0, slots := 0, locals := 69 })
abbrev M_C_init : mI := (⟨"FigureLeave$Clues", "<init>", "()V"⟩, prog_4_method_1_code, 1, none, { frames := 1, cells := 6, slots := 36, locals := 20 })
abbrev M_C_become : mI := (⟨"FigureLeave$Clues", "become", "(LFigureLeave$Clues;)V"⟩, prog_4_method_2_code, 2, none, { frames := 1, cells := 0, slots := 0, locals := 26 })
abbrev M_C_addTrace : mI := (⟨"FigureLeave$Clues", "addTrace", "(II)V"⟩, prog_4_method_3_code, 3, none, { frames := 0, cells := 0, slots := 0, locals := 0 })
abbrev M_C_addNote : mI := (⟨"FigureLeave$Clues", "addNote", "(IIII)V"⟩, prog_4_method_4_code, 5, none, { frames := 0, cells := 0, slots := 0, locals := 0 })
abbrev M_C_dropTraces : mI := (⟨"FigureLeave$Clues", "dropTraces", "()I"⟩, prog_4_method_5_code, 2, some .int, { frames := 0, cells := 0, slots := 0, locals := 0 })
abbrev M_C_dropNotes : mI := (⟨"FigureLeave$Clues", "dropNotes", "()I"⟩, prog_4_method_6_code, 2, some .int, { frames := 0, cells := 0, slots := 0, locals := 0 })
abbrev M_C_kindsOf : mI := (⟨"FigureLeave$Clues", "kindsOf", "(I)I"⟩, prog_4_method_7_code, 4, some .int, { frames := 2, cells := 0, slots := 0, locals := 45 })
abbrev M_C_mayBe : mI := (⟨"FigureLeave$Clues", "mayBe", "(II)Z"⟩, prog_4_method_8_code, 4, some .boolean, { frames := 1, cells := 0, slots := 0, locals := 22 })
abbrev M_C_mixInto : mI := (⟨"FigureLeave$Clues", "mixInto", "(J)J"⟩, prog_4_method_9_code, 6, some .long, { frames := 0, cells := 0, slots := 0, locals := 0 })
abbrev M_H_init : mI := (⟨"FigureLeave$House", "<init>", "()V"⟩, prog_5_method_1_code, 1, none, { frames := 2, cells := 16, slots := 199, locals := 40 })
abbrev M_H_begin : mI := (⟨"FigureLeave$House", "begin", "()V"⟩, prog_5_method_2_code, 1, none, { frames := 2, cells := 0, slots := 0, locals := 43 })
abbrev M_H_become : mI := (⟨"FigureLeave$House", "become", "(LFigureLeave$House;)V"⟩, prog_5_method_3_code, 2, none, { frames := 2, cells := 0, slots := 0, locals := 47 })
abbrev M_H_tellFigure : mI := (⟨"FigureLeave$House", "tellFigure", "(III)V"⟩, prog_5_method_4_code, 4, none, { frames := 2, cells := 0, slots := 0, locals := 42 })
abbrev M_H_tellBill : mI := (⟨"FigureLeave$House", "tellBill", "(II)V"⟩, prog_5_method_5_code, 3, none, { frames := 1, cells := 0, slots := 0, locals := 22 })
abbrev M_H_remember : mI := (⟨"FigureLeave$House", "remember", "()V"⟩, prog_5_method_6_code, 1, none, { frames := 2, cells := 0, slots := 0, locals := 49 })
abbrev M_H_goBack : mI := (⟨"FigureLeave$House", "goBack", "()V"⟩, prog_5_method_7_code, 1, none, { frames := 2, cells := 0, slots := 0, locals := 49 })
abbrev M_H_sleep : mI := (⟨"FigureLeave$House", "sleep", "(I)V"⟩, prog_5_method_8_code, 3, none, { frames := 3, cells := 0, slots := 0, locals := 64 })
abbrev M_H_rests : mI := (⟨"FigureLeave$House", "rests", "(LFigureLeave$Shift;)V"⟩, prog_5_method_9_code, 3, none, { frames := 2, cells := 0, slots := 0, locals := 42 })
abbrev M_H_costOf : mI := (⟨"FigureLeave$House", "costOf", "(LFigureLeave$Line;)I"⟩, prog_5_method_10_code, 4, some .int, { frames := 1, cells := 0, slots := 0, locals := 22 })
abbrev M_H_puts : mI := (⟨"FigureLeave$House", "puts", "(LFigureLeave$Shift;LFigureLeave$Line;)Z"⟩, prog_5_method_11_code, 3, some .boolean, { frames := 2, cells := 0, slots := 0, locals := 47 })
abbrev M_H_takes : mI := (⟨"FigureLeave$House", "takes", "(LFigureLeave$Shift;LFigureLeave$Line;)Z"⟩, prog_5_method_12_code, 4, some .boolean, { frames := 2, cells := 0, slots := 0, locals := 47 })
abbrev M_H_wearBy : mI := (⟨"FigureLeave$House", "wearBy", "(LFigureLeave$Shift;LFigureLeave$Line;I)V"⟩, prog_5_method_13_code, 6, none, { frames := 1, cells := 0, slots := 0, locals := 22 })
abbrev M_H_bears : mI := (⟨"FigureLeave$House", "bears", "(LFigureLeave$Shift;LFigureLeave$Line;)Z"⟩, prog_5_method_14_code, 5, some .boolean, { frames := 0, cells := 0, slots := 0, locals := 0 })
abbrev M_H_leftOf : mI := (⟨"FigureLeave$House", "leftOf", "(I)I"⟩, prog_5_method_15_code, 4, some .int, { frames := 1, cells := 0, slots := 0, locals := 22 })
abbrev M_H_mixInto : mI := (⟨"FigureLeave$House", "mixInto", "(J)J"⟩, prog_5_method_16_code, 6, some .long, { frames := 1, cells := 0, slots := 0, locals := 25 })
abbrev M_I_wear : mI := (⟨"FigureLeave$Kind", "wear", "(III)I"⟩, prog_6_method_2_code, 3, some .int, { frames := 0, cells := 0, slots := 0, locals := 0 })
abbrev M_I_rest : mI := (⟨"FigureLeave$Kind", "rest", "(II)I"⟩, prog_6_method_3_code, 2, some .int, { frames := 1, cells := 0, slots := 0, locals := 21 })
abbrev M_L_init : mI := (⟨"FigureLeave$Line", "<init>", "()V"⟩, prog_7_method_1_code, 1, none, { frames := 1, cells := 1, slots := 4, locals := 20 })
abbrev M_L_tell : mI := (⟨"FigureLeave$Line", "tell", "(II)V"⟩, prog_7_method_2_code, 3, none, { frames := 1, cells := 0, slots := 0, locals := 21 })
abbrev M_L_addNumber : mI := (⟨"FigureLeave$Line", "addNumber", "(I)V"⟩, prog_7_method_3_code, 2, none, { frames := 0, cells := 0, slots := 0, locals := 0 })
abbrev M_P_init : mI := (⟨"FigureLeave$Past", "<init>", "()V"⟩, prog_8_method_1_code, 1, none, { frames := 1, cells := 1, slots := 104, locals := 20 })
abbrev M_P_become : mI := (⟨"FigureLeave$Past", "become", "(LFigureLeave$Past;)V"⟩, prog_8_method_2_code, 2, none, { frames := 1, cells := 0, slots := 0, locals := 26 })
abbrev M_P_push : mI := (⟨"FigureLeave$Past", "push", "(LFigureLeave$Shift;LFigureLeave$Bills;)V"⟩, prog_8_method_3_code, 4, none, { frames := 1, cells := 0, slots := 0, locals := 26 })
abbrev M_P_pop : mI := (⟨"FigureLeave$Past", "pop", "(LFigureLeave$Shift;LFigureLeave$Bills;)V"⟩, prog_8_method_4_code, 4, none, { frames := 1, cells := 0, slots := 0, locals := 26 })
abbrev M_S_init : mI := (⟨"FigureLeave$Shift", "<init>", "()V"⟩, prog_9_method_1_code, 1, none, { frames := 1, cells := 1, slots := 10, locals := 20 })
abbrev M_S_begin : mI := (⟨"FigureLeave$Shift", "begin", "()V"⟩, prog_9_method_2_code, 1, none, { frames := 1, cells := 0, slots := 0, locals := 23 })
abbrev M_S_become : mI := (⟨"FigureLeave$Shift", "become", "(LFigureLeave$Shift;)V"⟩, prog_9_method_3_code, 2, none, { frames := 1, cells := 0, slots := 0, locals := 26 })
abbrev M_S_wornTogether : mI := (⟨"FigureLeave$Shift", "wornTogether", "()I"⟩, prog_9_method_4_code, 3, some .int, { frames := 0, cells := 0, slots := 0, locals := 0 })
abbrev M_U_init : mI := (⟨"FigureLeave$Sleuth", "<init>", "()V"⟩, prog_10_method_1_code, 1, none, { frames := 2, cells := 2, slots := 6, locals := 40 })
abbrev M_U_howManyLines : mI := (⟨"FigureLeave$Sleuth", "howManyLines", "(LFigureLeave$House;)I"⟩, prog_10_method_2_code, 4, some .int, { frames := 3, cells := 0, slots := 0, locals := 69 })
abbrev M_U_lineAt : mI := (⟨"FigureLeave$Sleuth", "lineAt", "(LFigureLeave$House;I)I"⟩, prog_10_method_3_code, 5, some .int, { frames := 3, cells := 0, slots := 0, locals := 69 })
abbrev M_U_fitsTraces : mI := (⟨"FigureLeave$Sleuth", "fitsTraces", "(LFigureLeave$House;I)Z"⟩, prog_10_method_4_code, 4, some .boolean, { frames := 2, cells := 0, slots := 0, locals := 46 })
abbrev M_U_moreWorn : mI := (⟨"FigureLeave$Sleuth", "moreWorn", "(LFigureLeave$House;I)I"⟩, prog_10_method_5_code, 5, some .int, { frames := 1, cells := 0, slots := 0, locals := 22 })
abbrev M_U_nextLook : mI := (⟨"FigureLeave$Sleuth", "nextLook", "(I)I"⟩, prog_10_method_6_code, 7, some .int, { frames := 2, cells := 0, slots := 0, locals := 50 })
abbrev M_U_mostAlike : mI := (⟨"FigureLeave$Sleuth", "mostAlike", "(III)I"⟩, prog_10_method_7_code, 9, some .int, { frames := 1, cells := 0, slots := 0, locals := 22 })
abbrev M_T_init : mI := (⟨"FigureLeave$Text", "<init>", "()V"⟩, prog_11_method_1_code, 1, none, { frames := 2, cells := 3, slots := 156, locals := 40 })
abbrev M_T_readInto : mI := (⟨"FigureLeave$Text", "readInto", "(LFigureLeave$House;)I"⟩, prog_11_method_2_code, 3, some .int, { frames := 6, cells := 0, slots := 0, locals := 130 })
abbrev M_T_readItem : mI := (⟨"FigureLeave$Text", "readItem", "(LFigureLeave$House;Z)Z"⟩, prog_11_method_3_code, 4, some .boolean, { frames := 5, cells := 0, slots := 0, locals := 107 })
abbrev M_T_readFigure : mI := (⟨"FigureLeave$Text", "readFigure", "(LFigureLeave$House;)Z"⟩, prog_11_method_4_code, 4, some .boolean, { frames := 3, cells := 0, slots := 0, locals := 65 })
abbrev M_T_readBill : mI := (⟨"FigureLeave$Text", "readBill", "(LFigureLeave$House;)Z"⟩, prog_11_method_5_code, 3, some .boolean, { frames := 3, cells := 0, slots := 0, locals := 64 })
abbrev M_T_readWrite : mI := (⟨"FigureLeave$Text", "readWrite", "(LFigureLeave$House;)Z"⟩, prog_11_method_6_code, 3, some .boolean, { frames := 3, cells := 0, slots := 0, locals := 69 })
abbrev M_T_readNight : mI := (⟨"FigureLeave$Text", "readNight", "(LFigureLeave$House;)Z"⟩, prog_11_method_7_code, 2, some .boolean, { frames := 4, cells := 0, slots := 0, locals := 86 })
abbrev M_T_nextIsNumber : mI := (⟨"FigureLeave$Text", "nextIsNumber", "(II)Z"⟩, prog_11_method_8_code, 3, some .boolean, { frames := 2, cells := 0, slots := 0, locals := 42 })
abbrev M_T_nextIsStop : mI := (⟨"FigureLeave$Text", "nextIsStop", "()Z"⟩, prog_11_method_9_code, 1, some .boolean, { frames := 2, cells := 0, slots := 0, locals := 42 })
abbrev M_T_nextToken : mI := (⟨"FigureLeave$Text", "nextToken", "()V"⟩, prog_11_method_10_code, 1, none, { frames := 1, cells := 0, slots := 0, locals := 22 })
abbrev M_T_weighNumber : mI := (⟨"FigureLeave$Text", "weighNumber", "()V"⟩, prog_11_method_11_code, 2, none, { frames := 0, cells := 0, slots := 0, locals := 0 })
abbrev M_T_isWord : mI := (⟨"FigureLeave$Text", "isWord", "(Ljava/lang/String;)Z"⟩, prog_11_method_12_code, 3, some .boolean, { frames := 4, cells := 0, slots := 0, locals := 85 })
abbrev M_T_sortAt : mI := (⟨"FigureLeave$Text", "sortAt", "(I)I"⟩, prog_11_method_13_code, 3, some .int, { frames := 0, cells := 0, slots := 0, locals := 0 })
abbrev M_F_init : mI := (⟨"FigureLeave", "<init>", "()V"⟩, prog_1_method_1_code, 1, none, { frames := 3, cells := 51, slots := 624, locals := 60 })
abbrev M_F_house : mI := (⟨"FigureLeave", "house", "()I"⟩, prog_1_method_2_code, 2, some .int, { frames := 3, cells := 0, slots := 0, locals := 63 })
abbrev M_F_figure : mI := (⟨"FigureLeave", "figure", "(III)I"⟩, prog_1_method_3_code, 5, some .int, { frames := 3, cells := 0, slots := 0, locals := 65 })
abbrev M_F_bill : mI := (⟨"FigureLeave", "bill", "(II)I"⟩, prog_1_method_4_code, 3, some .int, { frames := 2, cells := 0, slots := 0, locals := 44 })
abbrev M_F_type : mI := (⟨"FigureLeave", "type", "(I)I"⟩, prog_1_method_5_code, 2, some .int, { frames := 1, cells := 0, slots := 0, locals := 22 })
abbrev M_F_clear : mI := (⟨"FigureLeave", "clear", "()I"⟩, prog_1_method_6_code, 2, some .int, { frames := 0, cells := 0, slots := 0, locals := 0 })
abbrev M_F_read : mI := (⟨"FigureLeave", "read", "()I"⟩, prog_1_method_7_code, 2, some .int, { frames := 7, cells := 0, slots := 0, locals := 152 })
abbrev M_F_write : mI := (⟨"FigureLeave", "write", "(II)I"⟩, prog_1_method_8_code, 3, some .int, { frames := 3, cells := 0, slots := 0, locals := 70 })
abbrev M_F_pay : mI := (⟨"FigureLeave", "pay", "(I)I"⟩, prog_1_method_9_code, 3, some .int, { frames := 3, cells := 0, slots := 0, locals := 70 })
abbrev M_F_night : mI := (⟨"FigureLeave", "night", "(I)I"⟩, prog_1_method_10_code, 2, some .int, { frames := 4, cells := 0, slots := 0, locals := 86 })
abbrev M_F_undo : mI := (⟨"FigureLeave", "undo", "()I"⟩, prog_1_method_11_code, 1, some .int, { frames := 3, cells := 0, slots := 0, locals := 69 })
abbrev M_F_of : mI := (⟨"FigureLeave", "of", "(II)I"⟩, prog_1_method_12_code, 3, some .int, { frames := 2, cells := 0, slots := 0, locals := 45 })
abbrev M_F_about : mI := (⟨"FigureLeave", "about", "(II)I"⟩, prog_1_method_13_code, 3, some .int, { frames := 1, cells := 0, slots := 0, locals := 21 })
abbrev M_F_wears : mI := (⟨"FigureLeave", "wears", "(II)I"⟩, prog_1_method_14_code, 3, some .int, { frames := 2, cells := 0, slots := 0, locals := 42 })
abbrev M_F_cost : mI := (⟨"FigureLeave", "cost", "(II)I"⟩, prog_1_method_15_code, 3, some .int, { frames := 2, cells := 0, slots := 0, locals := 45 })
abbrev M_F_can : mI := (⟨"FigureLeave", "can", "(II)I"⟩, prog_1_method_16_code, 3, some .int, { frames := 3, cells := 0, slots := 0, locals := 70 })
abbrev M_F_best : mI := (⟨"FigureLeave", "best", "(I)I"⟩, prog_1_method_17_code, 2, some .int, { frames := 4, cells := 0, slots := 0, locals := 97 })
abbrev M_F_first : mI := (⟨"FigureLeave", "first", "()I"⟩, prog_1_method_18_code, 1, some .int, { frames := 5, cells := 0, slots := 0, locals := 115 })
abbrev M_F_counts : mI := (⟨"FigureLeave", "counts", "()I"⟩, prog_1_method_19_code, 1, some .int, { frames := 4, cells := 0, slots := 0, locals := 91 })
abbrev M_F_when : mI := (⟨"FigureLeave", "when", "(II)I"⟩, prog_1_method_20_code, 3, some .int, { frames := 4, cells := 0, slots := 0, locals := 94 })
abbrev M_F_most : mI := (⟨"FigureLeave", "most", "(I)I"⟩, prog_1_method_21_code, 3, some .int, { frames := 5, cells := 0, slots := 0, locals := 117 })
abbrev M_F_plan : mI := (⟨"FigureLeave", "plan", "(I)I"⟩, prog_1_method_22_code, 3, some .int, { frames := 6, cells := 0, slots := 0, locals := 141 })
abbrev M_F_wanted : mI := (⟨"FigureLeave", "wanted", "(I)I"⟩, prog_1_method_23_code, 3, some .int, { frames := 5, cells := 0, slots := 0, locals := 119 })
abbrev M_F_trace : mI := (⟨"FigureLeave", "trace", "(II)I"⟩, prog_1_method_24_code, 3, some .int, { frames := 2, cells := 0, slots := 0, locals := 42 })
abbrev M_F_which : mI := (⟨"FigureLeave", "which", "(I)I"⟩, prog_1_method_25_code, 2, some .int, { frames := 4, cells := 0, slots := 0, locals := 93 })
abbrev M_F_note : mI := (⟨"FigureLeave", "note", "(IIII)I"⟩, prog_1_method_26_code, 5, some .int, { frames := 2, cells := 0, slots := 0, locals := 42 })
abbrev M_F_forget : mI := (⟨"FigureLeave", "forget", "(I)I"⟩, prog_1_method_27_code, 2, some .int, { frames := 1, cells := 0, slots := 0, locals := 22 })
abbrev M_F_is : mI := (⟨"FigureLeave", "is", "(I)I"⟩, prog_1_method_28_code, 2, some .int, { frames := 3, cells := 0, slots := 0, locals := 68 })
abbrev M_F_look : mI := (⟨"FigureLeave", "look", "(I)I"⟩, prog_1_method_29_code, 2, some .int, { frames := 3, cells := 0, slots := 0, locals := 76 })
abbrev M_F_two : mI := (⟨"FigureLeave", "two", "(II)I"⟩, prog_1_method_30_code, 3, some .int, { frames := 6, cells := 0, slots := 0, locals := 147 })
abbrev M_F_odds : mI := (⟨"FigureLeave", "odds", "(III)I"⟩, prog_1_method_31_code, 6, some .int, { frames := 4, cells := 0, slots := 0, locals := 97 })
abbrev M_F_years : mI := (⟨"FigureLeave", "years", "(II)I"⟩, prog_1_method_32_code, 3, some .int, { frames := 4, cells := 0, slots := 0, locals := 97 })
abbrev M_F_part : mI := (⟨"FigureLeave", "part", "(I)J"⟩, prog_1_method_33_code, 2, some .long, { frames := 1, cells := 0, slots := 0, locals := 20 })
abbrev M_F_image : mI := (⟨"FigureLeave", "image", "(I)I"⟩, prog_1_method_34_code, 3, some .int, { frames := 3, cells := 17, slots := 205, locals := 68 })
abbrev M_F_from : mI := (⟨"FigureLeave", "from", "(I)I"⟩, prog_1_method_35_code, 3, some .int, { frames := 3, cells := 0, slots := 0, locals := 68 })
abbrev M_F_status : mI := (⟨"FigureLeave", "status", "(I)I"⟩, prog_1_method_36_code, 2, some .int, { frames := 1, cells := 0, slots := 0, locals := 20 })
abbrev M_F_count : mI := (⟨"FigureLeave", "count", "(I)I"⟩, prog_1_method_37_code, 2, some .int, { frames := 2, cells := 0, slots := 0, locals := 43 })
abbrev M_F_digest : mI := (⟨"FigureLeave", "digest", "()J"⟩, prog_1_method_38_code, 4, some .long, { frames := 2, cells := 0, slots := 0, locals := 50 })
abbrev M_F_howMany : mI := (⟨"FigureLeave", "howMany", "(I)I"⟩, prog_1_method_39_code, 2, some .int, { frames := 1, cells := 0, slots := 0, locals := 22 })
abbrev M_F_setFraction : mI := (⟨"FigureLeave", "setFraction", "(II)V"⟩, prog_1_method_40_code, 7, none, { frames := 0, cells := 0, slots := 0, locals := 0 })
abbrev M_F_bad : mI := (⟨"FigureLeave", "bad", "()I"⟩, prog_1_method_41_code, 1, some .int, { frames := 0, cells := 0, slots := 0, locals := 0 })
abbrev M_F_no : mI := (⟨"FigureLeave", "no", "()I"⟩, prog_1_method_42_code, 1, some .int, { frames := 0, cells := 0, slots := 0, locals := 0 })
abbrev M_F_full : mI := (⟨"FigureLeave", "full", "()I"⟩, prog_1_method_43_code, 1, some .int, { frames := 0, cells := 0, slots := 0, locals := 0 })
abbrev M_F_within : mI := (⟨"FigureLeave", "within", "(III)Z"⟩, prog_1_method_44_code, 3, some .boolean, { frames := 0, cells := 0, slots := 0, locals := 0 })
abbrev M_F_isFigure : mI := (⟨"FigureLeave", "isFigure", "(I)Z"⟩, prog_1_method_45_code, 1, some .boolean, { frames := 1, cells := 0, slots := 0, locals := 22 })
abbrev M_F_isNumber : mI := (⟨"FigureLeave", "isNumber", "(I)Z"⟩, prog_1_method_46_code, 1, some .boolean, { frames := 1, cells := 0, slots := 0, locals := 22 })
abbrev M_F_isSign : mI := (⟨"FigureLeave", "isSign", "(I)Z"⟩, prog_1_method_47_code, 1, some .boolean, { frames := 1, cells := 0, slots := 0, locals := 22 })
abbrev M_M_init : mI := (⟨"FigureLeaveModel", "<init>", "()V"⟩, prog_13_method_1_code, 1, none, { frames := 1, cells := 8, slots := 925, locals := 21 })
abbrev M_M_in : mI := (⟨"FigureLeaveModel", "in", "(III)Z"⟩, prog_13_method_3_code, 3, some .boolean, { frames := 0, cells := 0, slots := 0, locals := 0 })
abbrev M_M_refuses : mI := (⟨"FigureLeaveModel", "refuses", "(I)I"⟩, prog_13_method_4_code, 2, some .int, { frames := 0, cells := 0, slots := 0, locals := 0 })
abbrev M_M_refusesAs : mI := (⟨"FigureLeaveModel", "refusesAs", "(I)I"⟩, prog_13_method_5_code, 2, some .int, { frames := 0, cells := 0, slots := 0, locals := 0 })
abbrev M_M_begins : mI := (⟨"FigureLeaveModel", "begins", "([I)V"⟩, prog_13_method_6_code, 2, none, { frames := 0, cells := 0, slots := 0, locals := 0 })
abbrev M_M_wearOf : mI := (⟨"FigureLeaveModel", "wearOf", "(III)I"⟩, prog_13_method_7_code, 3, some .int, { frames := 0, cells := 0, slots := 0, locals := 0 })
abbrev M_M_restOf : mI := (⟨"FigureLeaveModel", "restOf", "(II)I"⟩, prog_13_method_8_code, 2, some .int, { frames := 0, cells := 0, slots := 0, locals := 0 })
abbrev M_M_wornNow : mI := (⟨"FigureLeaveModel", "wornNow", "()V"⟩, prog_13_method_9_code, 2, none, { frames := 0, cells := 0, slots := 0, locals := 0 })
abbrev M_M_rests : mI := (⟨"FigureLeaveModel", "rests", "()V"⟩, prog_13_method_10_code, 3, none, { frames := 1, cells := 0, slots := 0, locals := 21 })
abbrev M_M_adds : mI := (⟨"FigureLeaveModel", "adds", "(I)V"⟩, prog_13_method_11_code, 2, none, { frames := 0, cells := 0, slots := 0, locals := 0 })
abbrev M_M_line : mI := (⟨"FigureLeaveModel", "line", "(II)V"⟩, prog_13_method_12_code, 3, none, { frames := 1, cells := 0, slots := 0, locals := 21 })
abbrev M_M_wearsBy : mI := (⟨"FigureLeaveModel", "wearsBy", "([III)I"⟩, prog_13_method_13_code, 4, some .int, { frames := 1, cells := 0, slots := 0, locals := 22 })
abbrev M_M_costOf : mI := (⟨"FigureLeaveModel", "costOf", "(II)I"⟩, prog_13_method_14_code, 5, some .int, { frames := 2, cells := 0, slots := 0, locals := 45 })
abbrev M_M_wornBy : mI := (⟨"FigureLeaveModel", "wornBy", "(I)I"⟩, prog_13_method_15_code, 4, some .int, { frames := 2, cells := 0, slots := 0, locals := 45 })
abbrev M_M_canOf : mI := (⟨"FigureLeaveModel", "canOf", "([III)Z"⟩, prog_13_method_16_code, 9, some .boolean, { frames := 2, cells := 0, slots := 0, locals := 45 })
abbrev M_M_writes : mI := (⟨"FigureLeaveModel", "writes", "([III)V"⟩, prog_13_method_17_code, 5, none, { frames := 2, cells := 0, slots := 0, locals := 45 })
abbrev M_M_sleeps : mI := (⟨"FigureLeaveModel", "sleeps", "([I)V"⟩, prog_13_method_18_code, 3, none, { frames := 1, cells := 0, slots := 0, locals := 21 })
abbrev M_M_asideBy : mI := (⟨"FigureLeaveModel", "asideBy", "(II)V"⟩, prog_13_method_19_code, 4, none, { frames := 2, cells := 0, slots := 0, locals := 45 })
abbrev M_M_isWithin : mI := (⟨"FigureLeaveModel", "isWithin", "(I)Z"⟩, prog_13_method_20_code, 4, some .boolean, { frames := 2, cells := 0, slots := 0, locals := 43 })
abbrev M_M_house : mI := (⟨"FigureLeaveModel", "house", "()I"⟩, prog_13_method_21_code, 2, some .int, { frames := 1, cells := 0, slots := 0, locals := 21 })
abbrev M_M_figure : mI := (⟨"FigureLeaveModel", "figure", "(III)I"⟩, prog_13_method_22_code, 5, some .int, { frames := 1, cells := 0, slots := 0, locals := 22 })
abbrev M_M_bills : mI := (⟨"FigureLeaveModel", "bills", "([III)V"⟩, prog_13_method_23_code, 3, none, { frames := 0, cells := 0, slots := 0, locals := 0 })
abbrev M_M_bill : mI := (⟨"FigureLeaveModel", "bill", "(II)I"⟩, prog_13_method_24_code, 3, some .int, { frames := 1, cells := 0, slots := 0, locals := 22 })
abbrev M_M_type : mI := (⟨"FigureLeaveModel", "type", "(I)I"⟩, prog_13_method_25_code, 2, some .int, { frames := 1, cells := 0, slots := 0, locals := 22 })
abbrev M_M_clear : mI := (⟨"FigureLeaveModel", "clear", "()I"⟩, prog_13_method_26_code, 2, some .int, { frames := 0, cells := 0, slots := 0, locals := 0 })
abbrev M_M_at : mI := (⟨"FigureLeaveModel", "at", "(I)I"⟩, prog_13_method_27_code, 2, some .int, { frames := 0, cells := 0, slots := 0, locals := 0 })
abbrev M_M_isLetter : mI := (⟨"FigureLeaveModel", "isLetter", "(I)Z"⟩, prog_13_method_28_code, 1, some .boolean, { frames := 1, cells := 0, slots := 0, locals := 22 })
abbrev M_M_word : mI := (⟨"FigureLeaveModel", "word", "()I"⟩, prog_13_method_29_code, 2, some .int, { frames := 2, cells := 0, slots := 0, locals := 42 })
abbrev M_M_advances : mI := (⟨"FigureLeaveModel", "advances", "()V"⟩, prog_13_method_30_code, 3, none, { frames := 3, cells := 0, slots := 0, locals := 63 })
abbrev M_M_isWell : mI := (⟨"FigureLeaveModel", "isWell", "()Z"⟩, prog_13_method_31_code, 1, some .boolean, { frames := 0, cells := 0, slots := 0, locals := 0 })
abbrev M_M_takes : mI := (⟨"FigureLeaveModel", "takes", "(Z)I"⟩, prog_13_method_32_code, 3, some .int, { frames := 4, cells := 0, slots := 0, locals := 85 })
abbrev M_M_number : mI := (⟨"FigureLeaveModel", "number", "(II)I"⟩, prog_13_method_33_code, 3, some .int, { frames := 5, cells := 0, slots := 0, locals := 107 })
abbrev M_M_sum : mI := (⟨"FigureLeaveModel", "sum", "(IIIII)I"⟩, prog_13_method_34_code, 6, some .int, { frames := 0, cells := 0, slots := 0, locals := 0 })
abbrev M_M_wordIs : mI := (⟨"FigureLeaveModel", "wordIs", "()I"⟩, prog_13_method_35_code, 1, some .int, { frames := 1, cells := 0, slots := 0, locals := 25 })
abbrev M_M_reads : mI := (⟨"FigureLeaveModel", "reads", "(I)V"⟩, prog_13_method_36_code, 5, none, { frames := 6, cells := 0, slots := 0, locals := 129 })
abbrev M_M_read : mI := (⟨"FigureLeaveModel", "read", "()I"⟩, prog_13_method_37_code, 4, some .int, { frames := 7, cells := 0, slots := 0, locals := 153 })
abbrev M_M_notes : mI := (⟨"FigureLeaveModel", "notes", "()V"⟩, prog_13_method_38_code, 3, none, { frames := 0, cells := 0, slots := 0, locals := 0 })
abbrev M_M_areLine : mI := (⟨"FigureLeaveModel", "areLine", "(II)Z"⟩, prog_13_method_39_code, 2, some .boolean, { frames := 1, cells := 0, slots := 0, locals := 22 })
abbrev M_M_write : mI := (⟨"FigureLeaveModel", "write", "(II)I"⟩, prog_13_method_40_code, 4, some .int, { frames := 3, cells := 0, slots := 0, locals := 73 })
abbrev M_M_isBill : mI := (⟨"FigureLeaveModel", "isBill", "(I)Z"⟩, prog_13_method_41_code, 2, some .boolean, { frames := 1, cells := 0, slots := 0, locals := 22 })
abbrev M_M_isPaid : mI := (⟨"FigureLeaveModel", "isPaid", "(I)Z"⟩, prog_13_method_42_code, 2, some .boolean, { frames := 0, cells := 0, slots := 0, locals := 0 })
abbrev M_M_pay : mI := (⟨"FigureLeaveModel", "pay", "(I)I"⟩, prog_13_method_43_code, 3, some .int, { frames := 3, cells := 0, slots := 0, locals := 73 })
abbrev M_M_night : mI := (⟨"FigureLeaveModel", "night", "(I)I"⟩, prog_13_method_44_code, 3, some .int, { frames := 2, cells := 0, slots := 0, locals := 43 })
abbrev M_M_undo : mI := (⟨"FigureLeaveModel", "undo", "()I"⟩, prog_13_method_45_code, 3, some .int, { frames := 1, cells := 0, slots := 0, locals := 21 })
abbrev M_M_leftOf : mI := (⟨"FigureLeaveModel", "leftOf", "(I)I"⟩, prog_13_method_46_code, 4, some .int, { frames := 1, cells := 0, slots := 0, locals := 22 })
abbrev M_M_of : mI := (⟨"FigureLeaveModel", "of", "(II)I"⟩, prog_13_method_47_code, 3, some .int, { frames := 2, cells := 0, slots := 0, locals := 45 })
abbrev M_M_about : mI := (⟨"FigureLeaveModel", "about", "(II)I"⟩, prog_13_method_48_code, 3, some .int, { frames := 2, cells := 0, slots := 0, locals := 43 })
abbrev M_M_wears : mI := (⟨"FigureLeaveModel", "wears", "(II)I"⟩, prog_13_method_49_code, 3, some .int, { frames := 1, cells := 0, slots := 0, locals := 22 })
abbrev M_M_cost : mI := (⟨"FigureLeaveModel", "cost", "(II)I"⟩, prog_13_method_50_code, 3, some .int, { frames := 3, cells := 0, slots := 0, locals := 69 })
abbrev M_M_can : mI := (⟨"FigureLeaveModel", "can", "(II)I"⟩, prog_13_method_51_code, 3, some .int, { frames := 3, cells := 0, slots := 0, locals := 73 })
abbrev M_M_bestOf : mI := (⟨"FigureLeaveModel", "bestOf", "(I)I"⟩, prog_13_method_52_code, 6, some .int, { frames := 3, cells := 0, slots := 0, locals := 73 })
abbrev M_M_best : mI := (⟨"FigureLeaveModel", "best", "(I)I"⟩, prog_13_method_53_code, 2, some .int, { frames := 4, cells := 0, slots := 0, locals := 98 })
abbrev M_M_first : mI := (⟨"FigureLeaveModel", "first", "()I"⟩, prog_13_method_54_code, 2, some .int, { frames := 4, cells := 0, slots := 0, locals := 98 })
abbrev M_M_counts : mI := (⟨"FigureLeaveModel", "counts", "()I"⟩, prog_13_method_55_code, 3, some .int, { frames := 3, cells := 0, slots := 0, locals := 68 })
abbrev M_M_when : mI := (⟨"FigureLeaveModel", "when", "(II)I"⟩, prog_13_method_56_code, 8, some .int, { frames := 2, cells := 0, slots := 0, locals := 45 })
abbrev M_M_canAll : mI := (⟨"FigureLeaveModel", "canAll", "(I)Z"⟩, prog_13_method_57_code, 3, some .boolean, { frames := 4, cells := 0, slots := 0, locals := 89 })
abbrev M_M_areWithin : mI := (⟨"FigureLeaveModel", "areWithin", "(I)Z"⟩, prog_13_method_58_code, 4, some .boolean, { frames := 3, cells := 0, slots := 0, locals := 66 })
abbrev M_M_worthOf : mI := (⟨"FigureLeaveModel", "worthOf", "(I)I"⟩, prog_13_method_59_code, 4, some .int, { frames := 0, cells := 0, slots := 0, locals := 0 })
abbrev M_M_unpaid : mI := (⟨"FigureLeaveModel", "unpaid", "()I"⟩, prog_13_method_60_code, 1, some .int, { frames := 0, cells := 0, slots := 0, locals := 0 })
abbrev M_M_most : mI := (⟨"FigureLeaveModel", "most", "(I)I"⟩, prog_13_method_61_code, 4, some .int, { frames := 5, cells := 0, slots := 0, locals := 111 })
abbrev M_M_dayOf : mI := (⟨"FigureLeaveModel", "dayOf", "(II)I"⟩, prog_13_method_62_code, 2, some .int, { frames := 0, cells := 0, slots := 0, locals := 0 })
abbrev M_M_daysOf : mI := (⟨"FigureLeaveModel", "daysOf", "(I)I"⟩, prog_13_method_63_code, 6, some .int, { frames := 4, cells := 0, slots := 0, locals := 89 })
abbrev M_M_plan : mI := (⟨"FigureLeaveModel", "plan", "(I)I"⟩, prog_13_method_64_code, 7, some .int, { frames := 5, cells := 0, slots := 0, locals := 114 })
abbrev M_M_manyCan : mI := (⟨"FigureLeaveModel", "manyCan", "()I"⟩, prog_13_method_65_code, 3, some .int, { frames := 3, cells := 0, slots := 0, locals := 73 })
abbrev M_M_wanted : mI := (⟨"FigureLeaveModel", "wanted", "(I)I"⟩, prog_13_method_66_code, 6, some .int, { frames := 4, cells := 0, slots := 0, locals := 95 })
abbrev M_M_trace : mI := (⟨"FigureLeaveModel", "trace", "(II)I"⟩, prog_13_method_67_code, 3, some .int, { frames := 1, cells := 0, slots := 0, locals := 22 })
abbrev M_M_isTraced : mI := (⟨"FigureLeaveModel", "isTraced", "(II)Z"⟩, prog_13_method_68_code, 5, some .boolean, { frames := 3, cells := 0, slots := 0, locals := 68 })
abbrev M_M_which : mI := (⟨"FigureLeaveModel", "which", "(I)I"⟩, prog_13_method_69_code, 4, some .int, { frames := 4, cells := 0, slots := 0, locals := 92 })
abbrev M_M_note : mI := (⟨"FigureLeaveModel", "note", "(IIII)I"⟩, prog_13_method_70_code, 6, some .int, { frames := 1, cells := 0, slots := 0, locals := 22 })
abbrev M_M_forget : mI := (⟨"FigureLeaveModel", "forget", "(I)I"⟩, prog_13_method_71_code, 4, some .int, { frames := 1, cells := 0, slots := 0, locals := 22 })
abbrev M_M_kindsOf : mI := (⟨"FigureLeaveModel", "kindsOf", "(I)I"⟩, prog_13_method_72_code, 6, some .int, { frames := 1, cells := 0, slots := 0, locals := 22 })
abbrev M_M_is : mI := (⟨"FigureLeaveModel", "is", "(I)I"⟩, prog_13_method_73_code, 2, some .int, { frames := 2, cells := 0, slots := 0, locals := 47 })
abbrev M_M_look : mI := (⟨"FigureLeaveModel", "look", "(I)I"⟩, prog_13_method_74_code, 12, some .int, { frames := 2, cells := 0, slots := 0, locals := 47 })
abbrev M_M_has : mI := (⟨"FigureLeaveModel", "has", "(II)I"⟩, prog_13_method_75_code, 3, some .int, { frames := 5, cells := 0, slots := 0, locals := 111 })
abbrev M_M_two : mI := (⟨"FigureLeaveModel", "two", "(II)I"⟩, prog_13_method_76_code, 7, some .int, { frames := 6, cells := 0, slots := 0, locals := 133 })
abbrev M_M_gcd : mI := (⟨"FigureLeaveModel", "gcd", "(JJ)J"⟩, prog_13_method_77_code, 10, some .long, { frames := 0, cells := 0, slots := 0, locals := 0 })
abbrev M_M_canFree : mI := (⟨"FigureLeaveModel", "canFree", "(III)Z"⟩, prog_13_method_78_code, 8, some .boolean, { frames := 2, cells := 0, slots := 0, locals := 45 })
abbrev M_M_odds : mI := (⟨"FigureLeaveModel", "odds", "(III)I"⟩, prog_13_method_79_code, 13, some .int, { frames := 3, cells := 0, slots := 0, locals := 72 })
abbrev M_M_years : mI := (⟨"FigureLeaveModel", "years", "(II)I"⟩, prog_13_method_80_code, 8, some .int, { frames := 3, cells := 0, slots := 0, locals := 68 })
abbrev M_M_takesBack : mI := (⟨"FigureLeaveModel", "takesBack", "(II)V"⟩, prog_13_method_81_code, 4, none, { frames := 2, cells := 0, slots := 0, locals := 45 })
abbrev M_M_part : mI := (⟨"FigureLeaveModel", "part", "(I)J"⟩, prog_13_method_82_code, 2, some .long, { frames := 1, cells := 0, slots := 0, locals := 22 })
abbrev M_M_image : mI := (⟨"FigureLeaveModel", "image", "(I)I"⟩, prog_13_method_83_code, 3, some .int, { frames := 1, cells := 0, slots := 0, locals := 22 })
abbrev M_M_from : mI := (⟨"FigureLeaveModel", "from", "(I)I"⟩, prog_13_method_84_code, 3, some .int, { frames := 1, cells := 0, slots := 0, locals := 22 })
abbrev M_M_status : mI := (⟨"FigureLeaveModel", "status", "(I)I"⟩, prog_13_method_85_code, 2, some .int, { frames := 1, cells := 0, slots := 0, locals := 22 })
abbrev M_M_counted : mI := (⟨"FigureLeaveModel", "counted", "(I)I"⟩, prog_13_method_86_code, 4, some .int, { frames := 0, cells := 0, slots := 0, locals := 0 })
abbrev M_M_count : mI := (⟨"FigureLeaveModel", "count", "(I)I"⟩, prog_13_method_87_code, 2, some .int, { frames := 1, cells := 0, slots := 0, locals := 23 })
abbrev M_M_digest : mI := (⟨"FigureLeaveModel", "digest", "()J"⟩, prog_13_method_88_code, 4, some .long, { frames := 1, cells := 0, slots := 0, locals := 23 })
abbrev M_J_length : mI := (⟨"java/lang/String", "length", "()I"⟩, prog_15_method_54_code, 1, some .int, { frames := 1, cells := 0, slots := 0, locals := 20 })
abbrev M_J_charAt : mI := (⟨"java/lang/String", "charAt", "(I)C"⟩, prog_15_method_56_code, 2, some .char, { frames := 3, cells := 0, slots := 0, locals := 64 })
abbrev M_J_coder : mI := (⟨"java/lang/String", "coder", "()B"⟩, prog_15_method_152_code, 1, some .byte, { frames := 0, cells := 0, slots := 0, locals := 0 })
abbrev M_J_isLatin1 : mI := (⟨"java/lang/String", "isLatin1", "()Z"⟩, prog_15_method_154_code, 1, some .boolean, { frames := 0, cells := 0, slots := 0, locals := 0 })
abbrev M_J_checkIndex : mI := (⟨"java/lang/String", "checkIndex", "(II)V"⟩, prog_15_method_155_code, 2, none, { frames := 1, cells := 0, slots := 0, locals := 22 })
abbrev M_Q_charAt : mI := (⟨"java/lang/StringLatin1", "charAt", "([BI)C"⟩, prog_16_method_2_code, 2, some .char, { frames := 2, cells := 0, slots := 0, locals := 43 })
abbrev M_A_fill : mI := (⟨"java/util/Arrays", "fill", "([II)V"⟩, prog_19_method_103_code, 4, none, { frames := 0, cells := 0, slots := 0, locals := 0 })
abbrev M_R_checkIndex : mI := (⟨"jdk/internal/util/Preconditions", "checkIndex", "(IILjava/util/function/BiFunction;)I"⟩, prog_20_method_11_code, 3, some .int, { frames := 0, cells := 0, slots := 0, locals := 0 })
abbrev M_W_law : mI := (x, code, maxLocals, ret, room_1)
theorem gw_s {w : Cond} (i : Nat) (h : (k2_sels lw_privs)[i]? = some w) (g : goodWord w = true) : w ∈ gw := gw_in (List.mem_append_left _ (List.mem_of_getElem? h)) g
theorem gw_1 {w : Cond} (i : Nat) (h : tables_1_1[i]? = some w) (g : goodWord w = true) : w ∈ gw := gw_in (List.mem_append_right _ (List.mem_append_left _ (List.mem_of_getElem? h))) g
theorem nw_1 {w : Cond} (i : Nat) (h : tables_1_1[i]? = some w) (g : nwk w = true) : w ∈ nw := List.mem_filter.mpr ⟨List.mem_append_right _ (List.mem_append_left _ (List.mem_of_getElem? h)), g⟩
theorem gw_2 {w : Cond} (i : Nat) (h : tables_1_2[i]? = some w) (g : goodWord w = true) : w ∈ gw := gw_in (List.mem_append_right _ (List.mem_append_right _ (List.mem_append_left _ (List.mem_of_getElem? h)))) g
theorem nw_2 {w : Cond} (i : Nat) (h : tables_1_2[i]? = some w) (g : nwk w = true) : w ∈ nw := List.mem_filter.mpr ⟨List.mem_append_right _ (List.mem_append_right _ (List.mem_append_left _ (List.mem_of_getElem? h))), g⟩
theorem gw_3 {w : Cond} (i : Nat) (h : tables_1_3[i]? = some w) (g : goodWord w = true) : w ∈ gw := gw_in (List.mem_append_right _ (List.mem_append_right _ (List.mem_append_right _ (List.mem_append_left _ (List.mem_of_getElem? h))))) g
theorem nw_3 {w : Cond} (i : Nat) (h : tables_1_3[i]? = some w) (g : nwk w = true) : w ∈ nw := List.mem_filter.mpr ⟨List.mem_append_right _ (List.mem_append_right _ (List.mem_append_right _ (List.mem_append_left _ (List.mem_of_getElem? h)))), g⟩
theorem gw_4 {w : Cond} (i : Nat) (h : tables_1_4[i]? = some w) (g : goodWord w = true) : w ∈ gw := gw_in (List.mem_append_right _ (List.mem_append_right _ (List.mem_append_right _ (List.mem_append_right _ (List.mem_append_left _ (List.mem_of_getElem? h)))))) g
theorem nw_4 {w : Cond} (i : Nat) (h : tables_1_4[i]? = some w) (g : nwk w = true) : w ∈ nw := List.mem_filter.mpr ⟨List.mem_append_right _ (List.mem_append_right _ (List.mem_append_right _ (List.mem_append_right _ (List.mem_append_left _ (List.mem_of_getElem? h))))), g⟩
theorem gw_5 {w : Cond} (i : Nat) (h : tables_1_5[i]? = some w) (g : goodWord w = true) : w ∈ gw := gw_in (List.mem_append_right _ (List.mem_append_right _ (List.mem_append_right _ (List.mem_append_right _ (List.mem_append_right _ (List.mem_append_left _ (List.mem_of_getElem? h))))))) g
theorem nw_5 {w : Cond} (i : Nat) (h : tables_1_5[i]? = some w) (g : nwk w = true) : w ∈ nw := List.mem_filter.mpr ⟨List.mem_append_right _ (List.mem_append_right _ (List.mem_append_right _ (List.mem_append_right _ (List.mem_append_right _ (List.mem_append_left _ (List.mem_of_getElem? h)))))), g⟩
theorem gw_6 {w : Cond} (i : Nat) (h : tables_1_6[i]? = some w) (g : goodWord w = true) : w ∈ gw := gw_in (List.mem_append_right _ (List.mem_append_right _ (List.mem_append_right _ (List.mem_append_right _ (List.mem_append_right _ (List.mem_append_right _ (List.mem_of_getElem? h))))))) g
theorem nw_6 {w : Cond} (i : Nat) (h : tables_1_6[i]? = some w) (g : nwk w = true) : w ∈ nw := List.mem_filter.mpr ⟨List.mem_append_right _ (List.mem_append_right _ (List.mem_append_right _ (List.mem_append_right _ (List.mem_append_right _ (List.mem_append_right _ (List.mem_of_getElem? h)))))), g⟩
theorem m_B_init : fMN M_B_init 0 := ⟨⟨rfl, gw_1 60 (by decide +kernel) (by decide +kernel), rfl⟩, ⟨gw_1 61 (by decide +kernel) (by decide +kernel), gw_1 4 (by decide +kernel) (by decide +kernel), by decide, by decide, by decide +kernel⟩⟩
theorem m_B_begin : fMV M_B_begin 0 := ⟨⟨gw_2 89 (by decide +kernel) (by decide +kernel), gw_s 2 (by decide +kernel) (by decide +kernel)⟩, ⟨gw_2 90 (by decide +kernel) (by decide +kernel), gw_1 4 (by decide +kernel) (by decide +kernel), by decide, by decide, by decide +kernel⟩⟩
theorem m_B_become : fMV M_B_become 1 := ⟨⟨gw_3 72 (by decide +kernel) (by decide +kernel), gw_s 31 (by decide +kernel) (by decide +kernel)⟩, ⟨gw_3 73 (by decide +kernel) (by decide +kernel), gw_1 4 (by decide +kernel) (by decide +kernel), by decide, by decide, by decide +kernel⟩⟩
theorem m_B_holds : fMV M_B_holds 1 := ⟨⟨gw_3 118 (by decide +kernel) (by decide +kernel), gw_s 39 (by decide +kernel) (by decide +kernel)⟩, ⟨gw_3 119 (by decide +kernel) (by decide +kernel), gw_1 4 (by decide +kernel) (by decide +kernel), by decide, by decide, by decide +kernel⟩⟩
theorem m_B_isPaid : fMV M_B_isPaid 1 := ⟨⟨gw_3 122 (by decide +kernel) (by decide +kernel), gw_s 40 (by decide +kernel) (by decide +kernel)⟩, ⟨gw_3 123 (by decide +kernel) (by decide +kernel), gw_1 4 (by decide +kernel) (by decide +kernel), by decide, by decide, by decide +kernel⟩⟩
theorem m_B_add : fMV M_B_add 2 := ⟨⟨gw_2 135 (by decide +kernel) (by decide +kernel), gw_s 9 (by decide +kernel) (by decide +kernel)⟩, ⟨gw_2 136 (by decide +kernel) (by decide +kernel), gw_1 4 (by decide +kernel) (by decide +kernel), by decide, by decide, by decide +kernel⟩⟩
theorem m_B_settle : fMV M_B_settle 1 := ⟨⟨gw_3 126 (by decide +kernel) (by decide +kernel), gw_s 41 (by decide +kernel) (by decide +kernel)⟩, ⟨gw_3 127 (by decide +kernel) (by decide +kernel), gw_1 4 (by decide +kernel) (by decide +kernel), by decide, by decide, by decide +kernel⟩⟩
theorem m_B_worthOf : fMV M_B_worthOf 1 := ⟨⟨gw_3 227 (by decide +kernel) (by decide +kernel), gw_s 51 (by decide +kernel) (by decide +kernel)⟩, ⟨gw_3 228 (by decide +kernel) (by decide +kernel), gw_1 4 (by decide +kernel) (by decide +kernel), by decide, by decide, by decide +kernel⟩⟩
theorem m_K_init : fMN M_K_init 0 := ⟨⟨rfl, gw_1 186 (by decide +kernel) (by decide +kernel), rfl⟩, ⟨gw_1 187 (by decide +kernel) (by decide +kernel), gw_1 8 (by decide +kernel) (by decide +kernel), by decide, by decide, by decide +kernel⟩⟩
theorem m_K_cheapest : fMV M_K_cheapest 2 := ⟨⟨gw_3 181 (by decide +kernel) (by decide +kernel), gw_s 45 (by decide +kernel) (by decide +kernel)⟩, ⟨gw_3 182 (by decide +kernel) (by decide +kernel), gw_1 8 (by decide +kernel) (by decide +kernel), by decide, by decide, by decide +kernel⟩⟩
theorem m_K_firstWithout : fMV M_K_firstWithout 1 := ⟨⟨gw_3 192 (by decide +kernel) (by decide +kernel), gw_s 46 (by decide +kernel) (by decide +kernel)⟩, ⟨gw_3 193 (by decide +kernel) (by decide +kernel), gw_1 8 (by decide +kernel) (by decide +kernel), by decide, by decide, by decide +kernel⟩⟩
theorem m_K_byAny : fMV M_K_byAny 2 := ⟨⟨gw_3 196 (by decide +kernel) (by decide +kernel), gw_s 47 (by decide +kernel) (by decide +kernel)⟩, ⟨gw_3 197 (by decide +kernel) (by decide +kernel), gw_1 8 (by decide +kernel) (by decide +kernel), by decide, by decide, by decide +kernel⟩⟩
theorem m_K_countOn : fMV M_K_countOn 1 := ⟨⟨gw_3 204 (by decide +kernel) (by decide +kernel), gw_s 48 (by decide +kernel) (by decide +kernel)⟩, ⟨gw_3 205 (by decide +kernel) (by decide +kernel), gw_1 8 (by decide +kernel) (by decide +kernel), by decide, by decide, by decide +kernel⟩⟩
theorem m_K_nightsTill : fMV M_K_nightsTill 3 := ⟨⟨gw_3 214 (by decide +kernel) (by decide +kernel), gw_s 49 (by decide +kernel) (by decide +kernel)⟩, ⟨gw_3 215 (by decide +kernel) (by decide +kernel), gw_1 8 (by decide +kernel) (by decide +kernel), by decide, by decide, by decide +kernel⟩⟩
theorem m_K_dearestBills : fMV M_K_dearestBills 1 := ⟨⟨gw_3 223 (by decide +kernel) (by decide +kernel), gw_s 50 (by decide +kernel) (by decide +kernel)⟩, ⟨gw_3 224 (by decide +kernel) (by decide +kernel), gw_1 8 (by decide +kernel) (by decide +kernel), by decide, by decide, by decide +kernel⟩⟩
theorem m_K_goTogether : fMV M_K_goTogether 2 := ⟨⟨gw_3 231 (by decide +kernel) (by decide +kernel), gw_s 52 (by decide +kernel) (by decide +kernel)⟩, ⟨gw_3 232 (by decide +kernel) (by decide +kernel), gw_1 8 (by decide +kernel) (by decide +kernel), by decide, by decide, by decide +kernel⟩⟩
theorem m_K_planDays : fMV M_K_planDays 1 := ⟨⟨gw_4 0 (by decide +kernel) (by decide +kernel), gw_s 53 (by decide +kernel) (by decide +kernel)⟩, ⟨gw_4 1 (by decide +kernel) (by decide +kernel), gw_1 8 (by decide +kernel) (by decide +kernel), by decide, by decide, by decide +kernel⟩⟩
theorem m_K_plannedDay : fMV M_K_plannedDay 1 := ⟨⟨gw_4 14 (by decide +kernel) (by decide +kernel), gw_s 56 (by decide +kernel) (by decide +kernel)⟩, ⟨gw_4 15 (by decide +kernel) (by decide +kernel), gw_1 8 (by decide +kernel) (by decide +kernel), by decide, by decide, by decide +kernel⟩⟩
theorem m_K_planWithin : fMV M_K_planWithin 2 := ⟨⟨gw_4 5 (by decide +kernel) (by decide +kernel), gw_s 54 (by decide +kernel) (by decide +kernel)⟩, ⟨gw_4 6 (by decide +kernel) (by decide +kernel), gw_1 8 (by decide +kernel) (by decide +kernel), by decide, by decide, by decide +kernel⟩⟩
theorem m_K_holdsSoFar : fMV M_K_holdsSoFar 3 := ⟨⟨gw_4 10 (by decide +kernel) (by decide +kernel), gw_s 55 (by decide +kernel) (by decide +kernel)⟩, ⟨gw_4 11 (by decide +kernel) (by decide +kernel), gw_1 8 (by decide +kernel) (by decide +kernel), by decide, by decide, by decide +kernel⟩⟩
theorem m_K_mostWanted : fMV M_K_mostWanted 1 := ⟨⟨gw_4 22 (by decide +kernel) (by decide +kernel), gw_s 57 (by decide +kernel) (by decide +kernel)⟩, ⟨gw_4 23 (by decide +kernel) (by decide +kernel), gw_1 8 (by decide +kernel) (by decide +kernel), by decide, by decide, by decide +kernel⟩⟩
theorem m_K_numbersWith : fMV M_K_numbersWith 2 := ⟨⟨gw_4 26 (by decide +kernel) (by decide +kernel), gw_s 58 (by decide +kernel) (by decide +kernel)⟩, ⟨gw_4 27 (by decide +kernel) (by decide +kernel), gw_1 8 (by decide +kernel) (by decide +kernel), by decide, by decide, by decide +kernel⟩⟩
theorem m_K_restingPairs : fMV M_K_restingPairs 3 := ⟨⟨gw_4 106 (by decide +kernel) (by decide +kernel), gw_s 69 (by decide +kernel) (by decide +kernel)⟩, ⟨gw_4 107 (by decide +kernel) (by decide +kernel), gw_1 8 (by decide +kernel) (by decide +kernel), by decide, by decide, by decide +kernel⟩⟩
theorem m_K_gain : fMV M_K_gain 5 := ⟨⟨gw_4 110 (by decide +kernel) (by decide +kernel), gw_s 70 (by decide +kernel) (by decide +kernel)⟩, ⟨gw_4 111 (by decide +kernel) (by decide +kernel), gw_1 8 (by decide +kernel) (by decide +kernel), by decide, by decide, by decide +kernel⟩⟩
theorem m_K_luckyWays : fMV M_K_luckyWays 3 := ⟨⟨gw_4 118 (by decide +kernel) (by decide +kernel), gw_s 71 (by decide +kernel) (by decide +kernel)⟩, ⟨gw_4 119 (by decide +kernel) (by decide +kernel), gw_1 8 (by decide +kernel) (by decide +kernel), by decide, by decide, by decide +kernel⟩⟩
theorem m_K_bearsFree : fMV M_K_bearsFree 3 := ⟨⟨gw_4 122 (by decide +kernel) (by decide +kernel), gw_s 72 (by decide +kernel) (by decide +kernel)⟩, ⟨gw_4 123 (by decide +kernel) (by decide +kernel), gw_1 8 (by decide +kernel) (by decide +kernel), by decide, by decide, by decide +kernel⟩⟩
theorem m_K_waysOf : fMV M_K_waysOf 3 := ⟨⟨gw_4 128 (by decide +kernel) (by decide +kernel), gw_s 73 (by decide +kernel) (by decide +kernel)⟩, ⟨gw_4 129 (by decide +kernel) (by decide +kernel), gw_1 8 (by decide +kernel) (by decide +kernel), by decide, by decide, by decide +kernel⟩⟩
theorem m_K_writtenBySeed : fMV M_K_writtenBySeed 3 := ⟨⟨gw_4 141 (by decide +kernel) (by decide +kernel), gw_s 75 (by decide +kernel) (by decide +kernel)⟩, ⟨gw_4 142 (by decide +kernel) (by decide +kernel), gw_1 8 (by decide +kernel) (by decide +kernel), by decide, by decide, by decide +kernel⟩⟩
theorem m_C_init : fMN M_C_init 0 := ⟨⟨rfl, gw_1 97 (by decide +kernel) (by decide +kernel), rfl⟩, ⟨gw_1 98 (by decide +kernel) (by decide +kernel), gw_1 5 (by decide +kernel) (by decide +kernel), by decide, by decide, by decide +kernel⟩⟩
theorem m_C_become : fMV M_C_become 1 := ⟨⟨gw_3 77 (by decide +kernel) (by decide +kernel), gw_s 32 (by decide +kernel) (by decide +kernel)⟩, ⟨gw_3 78 (by decide +kernel) (by decide +kernel), gw_1 5 (by decide +kernel) (by decide +kernel), by decide, by decide, by decide +kernel⟩⟩
theorem m_C_addTrace : fMV M_C_addTrace 2 := ⟨⟨gw_4 36 (by decide +kernel) (by decide +kernel), gw_s 59 (by decide +kernel) (by decide +kernel)⟩, ⟨gw_4 37 (by decide +kernel) (by decide +kernel), gw_1 5 (by decide +kernel) (by decide +kernel), by decide, by decide, by decide +kernel⟩⟩
theorem m_C_addNote : fMV M_C_addNote 4 := ⟨⟨gw_4 66 (by decide +kernel) (by decide +kernel), gw_s 64 (by decide +kernel) (by decide +kernel)⟩, ⟨gw_4 67 (by decide +kernel) (by decide +kernel), gw_1 5 (by decide +kernel) (by decide +kernel), by decide, by decide, by decide +kernel⟩⟩
theorem m_C_dropTraces : fMV M_C_dropTraces 0 := ⟨⟨gw_2 93 (by decide +kernel) (by decide +kernel), gw_s 3 (by decide +kernel) (by decide +kernel)⟩, ⟨gw_2 94 (by decide +kernel) (by decide +kernel), gw_1 5 (by decide +kernel) (by decide +kernel), by decide, by decide, by decide +kernel⟩⟩
theorem m_C_dropNotes : fMV M_C_dropNotes 0 := ⟨⟨gw_2 97 (by decide +kernel) (by decide +kernel), gw_s 4 (by decide +kernel) (by decide +kernel)⟩, ⟨gw_2 98 (by decide +kernel) (by decide +kernel), gw_1 5 (by decide +kernel) (by decide +kernel), by decide, by decide, by decide +kernel⟩⟩
theorem m_C_kindsOf : fMV M_C_kindsOf 1 := ⟨⟨gw_4 80 (by decide +kernel) (by decide +kernel), gw_s 65 (by decide +kernel) (by decide +kernel)⟩, ⟨gw_4 81 (by decide +kernel) (by decide +kernel), gw_1 5 (by decide +kernel) (by decide +kernel), by decide, by decide, by decide +kernel⟩⟩
theorem m_C_mayBe : fMV M_C_mayBe 2 := ⟨⟨gw_4 84 (by decide +kernel) (by decide +kernel), gw_s 66 (by decide +kernel) (by decide +kernel)⟩, ⟨gw_4 85 (by decide +kernel) (by decide +kernel), gw_1 5 (by decide +kernel) (by decide +kernel), by decide, by decide, by decide +kernel⟩⟩
theorem m_C_mixInto : fMV M_C_mixInto 1 := ⟨⟨gw_4 189 (by decide +kernel) (by decide +kernel), gw_s 79 (by decide +kernel) (by decide +kernel)⟩, ⟨gw_4 190 (by decide +kernel) (by decide +kernel), gw_1 5 (by decide +kernel) (by decide +kernel), by decide, by decide, by decide +kernel⟩⟩
theorem m_H_init : fMN M_H_init 0 := ⟨⟨rfl, gw_1 31 (by decide +kernel) (by decide +kernel), rfl⟩, ⟨gw_1 32 (by decide +kernel) (by decide +kernel), gw_1 2 (by decide +kernel) (by decide +kernel), by decide, by decide, by decide +kernel⟩⟩
theorem m_H_begin : fMV M_H_begin 0 := ⟨⟨gw_2 80 (by decide +kernel) (by decide +kernel), gw_s 0 (by decide +kernel) (by decide +kernel)⟩, ⟨gw_2 81 (by decide +kernel) (by decide +kernel), gw_1 2 (by decide +kernel) (by decide +kernel), by decide, by decide, by decide +kernel⟩⟩
theorem m_H_become : fMV M_H_become 1 := ⟨⟨gw_3 60 (by decide +kernel) (by decide +kernel), gw_s 29 (by decide +kernel) (by decide +kernel)⟩, ⟨gw_3 61 (by decide +kernel) (by decide +kernel), gw_1 2 (by decide +kernel) (by decide +kernel), by decide, by decide, by decide +kernel⟩⟩
theorem m_H_tellFigure : fMV M_H_tellFigure 3 := ⟨⟨gw_2 115 (by decide +kernel) (by decide +kernel), gw_s 6 (by decide +kernel) (by decide +kernel)⟩, ⟨gw_2 116 (by decide +kernel) (by decide +kernel), gw_1 2 (by decide +kernel) (by decide +kernel), by decide, by decide, by decide +kernel⟩⟩
theorem m_H_tellBill : fMV M_H_tellBill 2 := ⟨⟨gw_2 131 (by decide +kernel) (by decide +kernel), gw_s 8 (by decide +kernel) (by decide +kernel)⟩, ⟨gw_2 132 (by decide +kernel) (by decide +kernel), gw_1 2 (by decide +kernel) (by decide +kernel), by decide, by decide, by decide +kernel⟩⟩
theorem m_H_remember : fMV M_H_remember 0 := ⟨⟨gw_3 101 (by decide +kernel) (by decide +kernel), gw_s 36 (by decide +kernel) (by decide +kernel)⟩, ⟨gw_3 102 (by decide +kernel) (by decide +kernel), gw_1 2 (by decide +kernel) (by decide +kernel), by decide, by decide, by decide +kernel⟩⟩
theorem m_H_goBack : fMV M_H_goBack 0 := ⟨⟨gw_3 140 (by decide +kernel) (by decide +kernel), gw_s 42 (by decide +kernel) (by decide +kernel)⟩, ⟨gw_3 141 (by decide +kernel) (by decide +kernel), gw_1 2 (by decide +kernel) (by decide +kernel), by decide, by decide, by decide +kernel⟩⟩
theorem m_H_sleep : fMV M_H_sleep 1 := ⟨⟨gw_3 38 (by decide +kernel) (by decide +kernel), gw_s 26 (by decide +kernel) (by decide +kernel)⟩, ⟨gw_3 39 (by decide +kernel) (by decide +kernel), gw_1 2 (by decide +kernel) (by decide +kernel), by decide, by decide, by decide +kernel⟩⟩
theorem m_H_rests : fMV M_H_rests 1 := ⟨⟨gw_3 42 (by decide +kernel) (by decide +kernel), gw_s 27 (by decide +kernel) (by decide +kernel)⟩, ⟨gw_3 43 (by decide +kernel) (by decide +kernel), gw_1 2 (by decide +kernel) (by decide +kernel), by decide, by decide, by decide +kernel⟩⟩
theorem m_H_costOf : fMV M_H_costOf 1 := ⟨⟨gw_3 110 (by decide +kernel) (by decide +kernel), gw_s 38 (by decide +kernel) (by decide +kernel)⟩, ⟨gw_3 111 (by decide +kernel) (by decide +kernel), gw_1 2 (by decide +kernel) (by decide +kernel), by decide, by decide, by decide +kernel⟩⟩
theorem m_H_puts : fMV M_H_puts 2 := ⟨⟨gw_3 18 (by decide +kernel) (by decide +kernel), gw_s 22 (by decide +kernel) (by decide +kernel)⟩, ⟨gw_3 19 (by decide +kernel) (by decide +kernel), gw_1 2 (by decide +kernel) (by decide +kernel), by decide, by decide, by decide +kernel⟩⟩
theorem m_H_takes : fMV M_H_takes 2 := ⟨⟨gw_3 93 (by decide +kernel) (by decide +kernel), gw_s 34 (by decide +kernel) (by decide +kernel)⟩, ⟨gw_3 94 (by decide +kernel) (by decide +kernel), gw_1 2 (by decide +kernel) (by decide +kernel), by decide, by decide, by decide +kernel⟩⟩
theorem m_H_wearBy : fMV M_H_wearBy 3 := ⟨⟨gw_3 22 (by decide +kernel) (by decide +kernel), gw_s 23 (by decide +kernel) (by decide +kernel)⟩, ⟨gw_3 23 (by decide +kernel) (by decide +kernel), gw_1 2 (by decide +kernel) (by decide +kernel), by decide, by decide, by decide +kernel⟩⟩
theorem m_H_bears : fMV M_H_bears 2 := ⟨⟨gw_3 29 (by decide +kernel) (by decide +kernel), gw_s 24 (by decide +kernel) (by decide +kernel)⟩, ⟨gw_3 30 (by decide +kernel) (by decide +kernel), gw_1 2 (by decide +kernel) (by decide +kernel), by decide, by decide, by decide +kernel⟩⟩
theorem m_H_leftOf : fMV M_H_leftOf 1 := ⟨⟨gw_3 152 (by decide +kernel) (by decide +kernel), gw_s 44 (by decide +kernel) (by decide +kernel)⟩, ⟨gw_3 153 (by decide +kernel) (by decide +kernel), gw_1 2 (by decide +kernel) (by decide +kernel), by decide, by decide, by decide +kernel⟩⟩
theorem m_H_mixInto : fMV M_H_mixInto 1 := ⟨⟨gw_4 184 (by decide +kernel) (by decide +kernel), gw_s 78 (by decide +kernel) (by decide +kernel)⟩, ⟨gw_4 185 (by decide +kernel) (by decide +kernel), gw_1 2 (by decide +kernel) (by decide +kernel), by decide, by decide, by decide +kernel⟩⟩
theorem m_I_wear : fMS M_I_wear 3 := ⟨gw_3 25 (by decide +kernel) (by decide +kernel), ⟨gw_3 26 (by decide +kernel) (by decide +kernel), gw_1 18 (by decide +kernel) (by decide +kernel), by decide, by decide, by decide +kernel⟩⟩
theorem m_I_rest : fMS M_I_rest 2 := ⟨gw_3 45 (by decide +kernel) (by decide +kernel), ⟨gw_3 46 (by decide +kernel) (by decide +kernel), gw_1 18 (by decide +kernel) (by decide +kernel), by decide, by decide, by decide +kernel⟩⟩
theorem m_L_init : fMN M_L_init 0 := ⟨⟨rfl, gw_1 192 (by decide +kernel) (by decide +kernel), rfl⟩, ⟨gw_1 193 (by decide +kernel) (by decide +kernel), gw_1 9 (by decide +kernel) (by decide +kernel), by decide, by decide, by decide +kernel⟩⟩
theorem m_L_tell : fMV M_L_tell 2 := ⟨⟨gw_3 7 (by decide +kernel) (by decide +kernel), gw_s 20 (by decide +kernel) (by decide +kernel)⟩, ⟨gw_3 8 (by decide +kernel) (by decide +kernel), gw_1 9 (by decide +kernel) (by decide +kernel), by decide, by decide, by decide +kernel⟩⟩
theorem m_L_addNumber : fMV M_L_addNumber 1 := ⟨⟨gw_3 11 (by decide +kernel) (by decide +kernel), gw_s 21 (by decide +kernel) (by decide +kernel)⟩, ⟨gw_3 12 (by decide +kernel) (by decide +kernel), gw_1 9 (by decide +kernel) (by decide +kernel), by decide, by decide, by decide +kernel⟩⟩
theorem m_P_init : fMN M_P_init 0 := ⟨⟨rfl, gw_1 133 (by decide +kernel) (by decide +kernel), rfl⟩, ⟨gw_1 134 (by decide +kernel) (by decide +kernel), gw_1 6 (by decide +kernel) (by decide +kernel), by decide, by decide, by decide +kernel⟩⟩
theorem m_P_become : fMV M_P_become 1 := ⟨⟨gw_3 82 (by decide +kernel) (by decide +kernel), gw_s 33 (by decide +kernel) (by decide +kernel)⟩, ⟨gw_3 83 (by decide +kernel) (by decide +kernel), gw_1 6 (by decide +kernel) (by decide +kernel), by decide, by decide, by decide +kernel⟩⟩
theorem m_P_push : fMV M_P_push 2 := ⟨⟨gw_3 105 (by decide +kernel) (by decide +kernel), gw_s 37 (by decide +kernel) (by decide +kernel)⟩, ⟨gw_3 106 (by decide +kernel) (by decide +kernel), gw_1 6 (by decide +kernel) (by decide +kernel), by decide, by decide, by decide +kernel⟩⟩
theorem m_P_pop : fMV M_P_pop 2 := ⟨⟨gw_3 144 (by decide +kernel) (by decide +kernel), gw_s 43 (by decide +kernel) (by decide +kernel)⟩, ⟨gw_3 145 (by decide +kernel) (by decide +kernel), gw_1 6 (by decide +kernel) (by decide +kernel), by decide, by decide, by decide +kernel⟩⟩
theorem m_S_init : fMN M_S_init 0 := ⟨⟨rfl, gw_1 37 (by decide +kernel) (by decide +kernel), rfl⟩, ⟨gw_1 38 (by decide +kernel) (by decide +kernel), gw_1 3 (by decide +kernel) (by decide +kernel), by decide, by decide, by decide +kernel⟩⟩
theorem m_S_begin : fMV M_S_begin 0 := ⟨⟨gw_2 84 (by decide +kernel) (by decide +kernel), gw_s 1 (by decide +kernel) (by decide +kernel)⟩, ⟨gw_2 85 (by decide +kernel) (by decide +kernel), gw_1 3 (by decide +kernel) (by decide +kernel), by decide, by decide, by decide +kernel⟩⟩
theorem m_S_become : fMV M_S_become 1 := ⟨⟨gw_3 67 (by decide +kernel) (by decide +kernel), gw_s 30 (by decide +kernel) (by decide +kernel)⟩, ⟨gw_3 68 (by decide +kernel) (by decide +kernel), gw_1 3 (by decide +kernel) (by decide +kernel), by decide, by decide, by decide +kernel⟩⟩
theorem m_S_wornTogether : fMV M_S_wornTogether 0 := ⟨⟨gw_4 174 (by decide +kernel) (by decide +kernel), gw_s 77 (by decide +kernel) (by decide +kernel)⟩, ⟨gw_4 175 (by decide +kernel) (by decide +kernel), gw_1 3 (by decide +kernel) (by decide +kernel), by decide, by decide, by decide +kernel⟩⟩
theorem m_U_init : fMN M_U_init 0 := ⟨⟨rfl, gw_1 233 (by decide +kernel) (by decide +kernel), rfl⟩, ⟨gw_1 234 (by decide +kernel) (by decide +kernel), gw_1 10 (by decide +kernel) (by decide +kernel), by decide, by decide, by decide +kernel⟩⟩
theorem m_U_howManyLines : fMV M_U_howManyLines 1 := ⟨⟨gw_4 44 (by decide +kernel) (by decide +kernel), gw_s 60 (by decide +kernel) (by decide +kernel)⟩, ⟨gw_4 45 (by decide +kernel) (by decide +kernel), gw_1 10 (by decide +kernel) (by decide +kernel), by decide, by decide, by decide +kernel⟩⟩
theorem m_U_lineAt : fMV M_U_lineAt 2 := ⟨⟨gw_4 58 (by decide +kernel) (by decide +kernel), gw_s 63 (by decide +kernel) (by decide +kernel)⟩, ⟨gw_4 59 (by decide +kernel) (by decide +kernel), gw_1 10 (by decide +kernel) (by decide +kernel), by decide, by decide, by decide +kernel⟩⟩
theorem m_U_fitsTraces : fMV M_U_fitsTraces 2 := ⟨⟨gw_4 48 (by decide +kernel) (by decide +kernel), gw_s 61 (by decide +kernel) (by decide +kernel)⟩, ⟨gw_4 49 (by decide +kernel) (by decide +kernel), gw_1 10 (by decide +kernel) (by decide +kernel), by decide, by decide, by decide +kernel⟩⟩
theorem m_U_moreWorn : fMV M_U_moreWorn 2 := ⟨⟨gw_4 53 (by decide +kernel) (by decide +kernel), gw_s 62 (by decide +kernel) (by decide +kernel)⟩, ⟨gw_4 54 (by decide +kernel) (by decide +kernel), gw_1 10 (by decide +kernel) (by decide +kernel), by decide, by decide, by decide +kernel⟩⟩
theorem m_U_nextLook : fMV M_U_nextLook 1 := ⟨⟨gw_4 93 (by decide +kernel) (by decide +kernel), gw_s 67 (by decide +kernel) (by decide +kernel)⟩, ⟨gw_4 94 (by decide +kernel) (by decide +kernel), gw_1 10 (by decide +kernel) (by decide +kernel), by decide, by decide, by decide +kernel⟩⟩
theorem m_U_mostAlike : fMV M_U_mostAlike 3 := ⟨⟨gw_4 97 (by decide +kernel) (by decide +kernel), gw_s 68 (by decide +kernel) (by decide +kernel)⟩, ⟨gw_4 98 (by decide +kernel) (by decide +kernel), gw_1 10 (by decide +kernel) (by decide +kernel), by decide, by decide, by decide +kernel⟩⟩
theorem m_T_init : fMN M_T_init 0 := ⟨⟨rfl, gw_2 5 (by decide +kernel) (by decide +kernel), rfl⟩, ⟨gw_2 6 (by decide +kernel) (by decide +kernel), gw_1 11 (by decide +kernel) (by decide +kernel), by decide, by decide, by decide +kernel⟩⟩
theorem m_T_readInto : fMV M_T_readInto 1 := ⟨⟨gw_2 151 (by decide +kernel) (by decide +kernel), gw_s 10 (by decide +kernel) (by decide +kernel)⟩, ⟨gw_2 152 (by decide +kernel) (by decide +kernel), gw_1 11 (by decide +kernel) (by decide +kernel), by decide, by decide, by decide +kernel⟩⟩
theorem m_T_readItem : fMV M_T_readItem 2 := ⟨⟨gw_2 168 (by decide +kernel) (by decide +kernel), gw_s 14 (by decide +kernel) (by decide +kernel)⟩, ⟨gw_2 169 (by decide +kernel) (by decide +kernel), gw_1 11 (by decide +kernel) (by decide +kernel), by decide, by decide, by decide +kernel⟩⟩
theorem m_T_readFigure : fMV M_T_readFigure 1 := ⟨⟨gw_2 226 (by decide +kernel) (by decide +kernel), gw_s 16 (by decide +kernel) (by decide +kernel)⟩, ⟨gw_2 227 (by decide +kernel) (by decide +kernel), gw_1 11 (by decide +kernel) (by decide +kernel), by decide, by decide, by decide +kernel⟩⟩
theorem m_T_readBill : fMV M_T_readBill 1 := ⟨⟨gw_2 237 (by decide +kernel) (by decide +kernel), gw_s 18 (by decide +kernel) (by decide +kernel)⟩, ⟨gw_2 238 (by decide +kernel) (by decide +kernel), gw_1 11 (by decide +kernel) (by decide +kernel), by decide, by decide, by decide +kernel⟩⟩
theorem m_T_readWrite : fMV M_T_readWrite 1 := ⟨⟨gw_3 3 (by decide +kernel) (by decide +kernel), gw_s 19 (by decide +kernel) (by decide +kernel)⟩, ⟨gw_3 4 (by decide +kernel) (by decide +kernel), gw_1 11 (by decide +kernel) (by decide +kernel), by decide, by decide, by decide +kernel⟩⟩
theorem m_T_readNight : fMV M_T_readNight 1 := ⟨⟨gw_3 34 (by decide +kernel) (by decide +kernel), gw_s 25 (by decide +kernel) (by decide +kernel)⟩, ⟨gw_3 35 (by decide +kernel) (by decide +kernel), gw_1 11 (by decide +kernel) (by decide +kernel), by decide, by decide, by decide +kernel⟩⟩
theorem m_T_nextIsNumber : fMV M_T_nextIsNumber 2 := ⟨⟨gw_2 230 (by decide +kernel) (by decide +kernel), gw_s 17 (by decide +kernel) (by decide +kernel)⟩, ⟨gw_2 231 (by decide +kernel) (by decide +kernel), gw_1 11 (by decide +kernel) (by decide +kernel), by decide, by decide, by decide +kernel⟩⟩
theorem m_T_nextIsStop : fMV M_T_nextIsStop 0 := ⟨⟨gw_3 56 (by decide +kernel) (by decide +kernel), gw_s 28 (by decide +kernel) (by decide +kernel)⟩, ⟨gw_3 57 (by decide +kernel) (by decide +kernel), gw_1 11 (by decide +kernel) (by decide +kernel), by decide, by decide, by decide +kernel⟩⟩
theorem m_T_nextToken : fMV M_T_nextToken 0 := ⟨⟨gw_2 156 (by decide +kernel) (by decide +kernel), gw_s 11 (by decide +kernel) (by decide +kernel)⟩, ⟨gw_2 157 (by decide +kernel) (by decide +kernel), gw_1 11 (by decide +kernel) (by decide +kernel), by decide, by decide, by decide +kernel⟩⟩
theorem m_T_weighNumber : fMV M_T_weighNumber 0 := ⟨⟨gw_2 164 (by decide +kernel) (by decide +kernel), gw_s 13 (by decide +kernel) (by decide +kernel)⟩, ⟨gw_2 165 (by decide +kernel) (by decide +kernel), gw_1 11 (by decide +kernel) (by decide +kernel), by decide, by decide, by decide +kernel⟩⟩
theorem m_T_isWord : fMV M_T_isWord 1 := ⟨⟨gw_2 173 (by decide +kernel) (by decide +kernel), gw_s 15 (by decide +kernel) (by decide +kernel)⟩, ⟨gw_2 174 (by decide +kernel) (by decide +kernel), gw_1 11 (by decide +kernel) (by decide +kernel), by decide, by decide, by decide +kernel⟩⟩
theorem m_T_sortAt : fMV M_T_sortAt 1 := ⟨⟨gw_2 160 (by decide +kernel) (by decide +kernel), gw_s 12 (by decide +kernel) (by decide +kernel)⟩, ⟨gw_2 161 (by decide +kernel) (by decide +kernel), gw_1 11 (by decide +kernel) (by decide +kernel), by decide, by decide, by decide +kernel⟩⟩
theorem m_F_init : fMN M_F_init 0 := ⟨⟨rfl, gw_1 23 (by decide +kernel) (by decide +kernel), rfl⟩, ⟨gw_1 24 (by decide +kernel) (by decide +kernel), gw_1 1 (by decide +kernel) (by decide +kernel), by decide, by decide, by decide +kernel⟩⟩
theorem m_F_house : fMV M_F_house 0 := ⟨⟨gw_2 75 (by decide +kernel) (by decide +kernel), gw_2 76 (by decide +kernel) (by decide +kernel)⟩, ⟨gw_2 77 (by decide +kernel) (by decide +kernel), gw_1 1 (by decide +kernel) (by decide +kernel), by decide, by decide, by decide +kernel⟩⟩
theorem m_F_figure : fMV M_F_figure 3 := ⟨⟨gw_2 100 (by decide +kernel) (by decide +kernel), gw_2 101 (by decide +kernel) (by decide +kernel)⟩, ⟨gw_2 102 (by decide +kernel) (by decide +kernel), gw_1 1 (by decide +kernel) (by decide +kernel), by decide, by decide, by decide +kernel⟩⟩
theorem m_F_bill : fMV M_F_bill 2 := ⟨⟨gw_2 119 (by decide +kernel) (by decide +kernel), gw_2 120 (by decide +kernel) (by decide +kernel)⟩, ⟨gw_2 121 (by decide +kernel) (by decide +kernel), gw_1 1 (by decide +kernel) (by decide +kernel), by decide, by decide, by decide +kernel⟩⟩
theorem m_F_type : fMV M_F_type 1 := ⟨⟨gw_2 138 (by decide +kernel) (by decide +kernel), gw_2 139 (by decide +kernel) (by decide +kernel)⟩, ⟨gw_2 140 (by decide +kernel) (by decide +kernel), gw_1 1 (by decide +kernel) (by decide +kernel), by decide, by decide, by decide +kernel⟩⟩
theorem m_F_clear : fMV M_F_clear 0 := ⟨⟨gw_2 142 (by decide +kernel) (by decide +kernel), gw_2 143 (by decide +kernel) (by decide +kernel)⟩, ⟨gw_2 144 (by decide +kernel) (by decide +kernel), gw_1 1 (by decide +kernel) (by decide +kernel), by decide, by decide, by decide +kernel⟩⟩
theorem m_F_read : fMV M_F_read 0 := ⟨⟨gw_2 146 (by decide +kernel) (by decide +kernel), gw_2 147 (by decide +kernel) (by decide +kernel)⟩, ⟨gw_2 148 (by decide +kernel) (by decide +kernel), gw_1 1 (by decide +kernel) (by decide +kernel), by decide, by decide, by decide +kernel⟩⟩
theorem m_F_write : fMV M_F_write 2 := ⟨⟨gw_3 87 (by decide +kernel) (by decide +kernel), gw_3 88 (by decide +kernel) (by decide +kernel)⟩, ⟨gw_3 89 (by decide +kernel) (by decide +kernel), gw_1 1 (by decide +kernel) (by decide +kernel), by decide, by decide, by decide +kernel⟩⟩
theorem m_F_pay : fMV M_F_pay 1 := ⟨⟨gw_3 113 (by decide +kernel) (by decide +kernel), gw_3 114 (by decide +kernel) (by decide +kernel)⟩, ⟨gw_3 115 (by decide +kernel) (by decide +kernel), gw_1 1 (by decide +kernel) (by decide +kernel), by decide, by decide, by decide +kernel⟩⟩
theorem m_F_night : fMV M_F_night 1 := ⟨⟨gw_3 130 (by decide +kernel) (by decide +kernel), gw_3 131 (by decide +kernel) (by decide +kernel)⟩, ⟨gw_3 132 (by decide +kernel) (by decide +kernel), gw_1 1 (by decide +kernel) (by decide +kernel), by decide, by decide, by decide +kernel⟩⟩
theorem m_F_undo : fMV M_F_undo 0 := ⟨⟨gw_3 135 (by decide +kernel) (by decide +kernel), gw_3 136 (by decide +kernel) (by decide +kernel)⟩, ⟨gw_3 137 (by decide +kernel) (by decide +kernel), gw_1 1 (by decide +kernel) (by decide +kernel), by decide, by decide, by decide +kernel⟩⟩
theorem m_F_of : fMV M_F_of 2 := ⟨⟨gw_3 147 (by decide +kernel) (by decide +kernel), gw_3 148 (by decide +kernel) (by decide +kernel)⟩, ⟨gw_3 149 (by decide +kernel) (by decide +kernel), gw_1 1 (by decide +kernel) (by decide +kernel), by decide, by decide, by decide +kernel⟩⟩
theorem m_F_about : fMV M_F_about 2 := ⟨⟨gw_3 156 (by decide +kernel) (by decide +kernel), gw_3 157 (by decide +kernel) (by decide +kernel)⟩, ⟨gw_3 158 (by decide +kernel) (by decide +kernel), gw_1 1 (by decide +kernel) (by decide +kernel), by decide, by decide, by decide +kernel⟩⟩
theorem m_F_wears : fMV M_F_wears 2 := ⟨⟨gw_3 160 (by decide +kernel) (by decide +kernel), gw_3 161 (by decide +kernel) (by decide +kernel)⟩, ⟨gw_3 162 (by decide +kernel) (by decide +kernel), gw_1 1 (by decide +kernel) (by decide +kernel), by decide, by decide, by decide +kernel⟩⟩
theorem m_F_cost : fMV M_F_cost 2 := ⟨⟨gw_3 168 (by decide +kernel) (by decide +kernel), gw_3 169 (by decide +kernel) (by decide +kernel)⟩, ⟨gw_3 170 (by decide +kernel) (by decide +kernel), gw_1 1 (by decide +kernel) (by decide +kernel), by decide, by decide, by decide +kernel⟩⟩
theorem m_F_can : fMV M_F_can 2 := ⟨⟨gw_3 172 (by decide +kernel) (by decide +kernel), gw_3 173 (by decide +kernel) (by decide +kernel)⟩, ⟨gw_3 174 (by decide +kernel) (by decide +kernel), gw_1 1 (by decide +kernel) (by decide +kernel), by decide, by decide, by decide +kernel⟩⟩
theorem m_F_best : fMV M_F_best 1 := ⟨⟨gw_3 176 (by decide +kernel) (by decide +kernel), gw_3 177 (by decide +kernel) (by decide +kernel)⟩, ⟨gw_3 178 (by decide +kernel) (by decide +kernel), gw_1 1 (by decide +kernel) (by decide +kernel), by decide, by decide, by decide +kernel⟩⟩
theorem m_F_first : fMV M_F_first 0 := ⟨⟨gw_3 187 (by decide +kernel) (by decide +kernel), gw_3 188 (by decide +kernel) (by decide +kernel)⟩, ⟨gw_3 189 (by decide +kernel) (by decide +kernel), gw_1 1 (by decide +kernel) (by decide +kernel), by decide, by decide, by decide +kernel⟩⟩
theorem m_F_counts : fMV M_F_counts 0 := ⟨⟨gw_3 199 (by decide +kernel) (by decide +kernel), gw_3 200 (by decide +kernel) (by decide +kernel)⟩, ⟨gw_3 201 (by decide +kernel) (by decide +kernel), gw_1 1 (by decide +kernel) (by decide +kernel), by decide, by decide, by decide +kernel⟩⟩
theorem m_F_when : fMV M_F_when 2 := ⟨⟨gw_3 209 (by decide +kernel) (by decide +kernel), gw_3 210 (by decide +kernel) (by decide +kernel)⟩, ⟨gw_3 211 (by decide +kernel) (by decide +kernel), gw_1 1 (by decide +kernel) (by decide +kernel), by decide, by decide, by decide +kernel⟩⟩
theorem m_F_most : fMV M_F_most 1 := ⟨⟨gw_3 218 (by decide +kernel) (by decide +kernel), gw_3 219 (by decide +kernel) (by decide +kernel)⟩, ⟨gw_3 220 (by decide +kernel) (by decide +kernel), gw_1 1 (by decide +kernel) (by decide +kernel), by decide, by decide, by decide +kernel⟩⟩
theorem m_F_plan : fMV M_F_plan 1 := ⟨⟨gw_3 235 (by decide +kernel) (by decide +kernel), gw_3 236 (by decide +kernel) (by decide +kernel)⟩, ⟨gw_3 237 (by decide +kernel) (by decide +kernel), gw_1 1 (by decide +kernel) (by decide +kernel), by decide, by decide, by decide +kernel⟩⟩
theorem m_F_wanted : fMV M_F_wanted 1 := ⟨⟨gw_4 17 (by decide +kernel) (by decide +kernel), gw_4 18 (by decide +kernel) (by decide +kernel)⟩, ⟨gw_4 19 (by decide +kernel) (by decide +kernel), gw_1 1 (by decide +kernel) (by decide +kernel), by decide, by decide, by decide +kernel⟩⟩
theorem m_F_trace : fMV M_F_trace 2 := ⟨⟨gw_4 31 (by decide +kernel) (by decide +kernel), gw_4 32 (by decide +kernel) (by decide +kernel)⟩, ⟨gw_4 33 (by decide +kernel) (by decide +kernel), gw_1 1 (by decide +kernel) (by decide +kernel), by decide, by decide, by decide +kernel⟩⟩
theorem m_F_which : fMV M_F_which 1 := ⟨⟨gw_4 39 (by decide +kernel) (by decide +kernel), gw_4 40 (by decide +kernel) (by decide +kernel)⟩, ⟨gw_4 41 (by decide +kernel) (by decide +kernel), gw_1 1 (by decide +kernel) (by decide +kernel), by decide, by decide, by decide +kernel⟩⟩
theorem m_F_note : fMV M_F_note 4 := ⟨⟨gw_4 61 (by decide +kernel) (by decide +kernel), gw_4 62 (by decide +kernel) (by decide +kernel)⟩, ⟨gw_4 63 (by decide +kernel) (by decide +kernel), gw_1 1 (by decide +kernel) (by decide +kernel), by decide, by decide, by decide +kernel⟩⟩
theorem m_F_forget : fMV M_F_forget 1 := ⟨⟨gw_4 69 (by decide +kernel) (by decide +kernel), gw_4 70 (by decide +kernel) (by decide +kernel)⟩, ⟨gw_4 71 (by decide +kernel) (by decide +kernel), gw_1 1 (by decide +kernel) (by decide +kernel), by decide, by decide, by decide +kernel⟩⟩
theorem m_F_is : fMV M_F_is 1 := ⟨⟨gw_4 75 (by decide +kernel) (by decide +kernel), gw_4 76 (by decide +kernel) (by decide +kernel)⟩, ⟨gw_4 77 (by decide +kernel) (by decide +kernel), gw_1 1 (by decide +kernel) (by decide +kernel), by decide, by decide, by decide +kernel⟩⟩
theorem m_F_look : fMV M_F_look 1 := ⟨⟨gw_4 88 (by decide +kernel) (by decide +kernel), gw_4 89 (by decide +kernel) (by decide +kernel)⟩, ⟨gw_4 90 (by decide +kernel) (by decide +kernel), gw_1 1 (by decide +kernel) (by decide +kernel), by decide, by decide, by decide +kernel⟩⟩
theorem m_F_two : fMV M_F_two 2 := ⟨⟨gw_4 101 (by decide +kernel) (by decide +kernel), gw_4 102 (by decide +kernel) (by decide +kernel)⟩, ⟨gw_4 103 (by decide +kernel) (by decide +kernel), gw_1 1 (by decide +kernel) (by decide +kernel), by decide, by decide, by decide +kernel⟩⟩
theorem m_F_odds : fMV M_F_odds 3 := ⟨⟨gw_4 113 (by decide +kernel) (by decide +kernel), gw_4 114 (by decide +kernel) (by decide +kernel)⟩, ⟨gw_4 115 (by decide +kernel) (by decide +kernel), gw_1 1 (by decide +kernel) (by decide +kernel), by decide, by decide, by decide +kernel⟩⟩
theorem m_F_years : fMV M_F_years 2 := ⟨⟨gw_4 135 (by decide +kernel) (by decide +kernel), gw_4 136 (by decide +kernel) (by decide +kernel)⟩, ⟨gw_4 137 (by decide +kernel) (by decide +kernel), gw_1 1 (by decide +kernel) (by decide +kernel), by decide, by decide, by decide +kernel⟩⟩
theorem m_F_part : fMV M_F_part 1 := ⟨⟨gw_4 149 (by decide +kernel) (by decide +kernel), gw_4 150 (by decide +kernel) (by decide +kernel)⟩, ⟨gw_4 151 (by decide +kernel) (by decide +kernel), gw_1 1 (by decide +kernel) (by decide +kernel), by decide, by decide, by decide +kernel⟩⟩
theorem m_F_image : fMV M_F_image 1 := ⟨⟨gw_4 153 (by decide +kernel) (by decide +kernel), gw_4 154 (by decide +kernel) (by decide +kernel)⟩, ⟨gw_4 155 (by decide +kernel) (by decide +kernel), gw_1 1 (by decide +kernel) (by decide +kernel), by decide, by decide, by decide +kernel⟩⟩
theorem m_F_from : fMV M_F_from 1 := ⟨⟨gw_4 157 (by decide +kernel) (by decide +kernel), gw_4 158 (by decide +kernel) (by decide +kernel)⟩, ⟨gw_4 159 (by decide +kernel) (by decide +kernel), gw_1 1 (by decide +kernel) (by decide +kernel), by decide, by decide, by decide +kernel⟩⟩
theorem m_F_status : fMV M_F_status 1 := ⟨⟨gw_4 161 (by decide +kernel) (by decide +kernel), gw_4 162 (by decide +kernel) (by decide +kernel)⟩, ⟨gw_4 163 (by decide +kernel) (by decide +kernel), gw_1 1 (by decide +kernel) (by decide +kernel), by decide, by decide, by decide +kernel⟩⟩
theorem m_F_count : fMV M_F_count 1 := ⟨⟨gw_4 165 (by decide +kernel) (by decide +kernel), gw_4 166 (by decide +kernel) (by decide +kernel)⟩, ⟨gw_4 167 (by decide +kernel) (by decide +kernel), gw_1 1 (by decide +kernel) (by decide +kernel), by decide, by decide, by decide +kernel⟩⟩
theorem m_F_digest : fMV M_F_digest 0 := ⟨⟨gw_4 177 (by decide +kernel) (by decide +kernel), gw_4 178 (by decide +kernel) (by decide +kernel)⟩, ⟨gw_4 179 (by decide +kernel) (by decide +kernel), gw_1 1 (by decide +kernel) (by decide +kernel), by decide, by decide, by decide +kernel⟩⟩
theorem m_F_howMany : fMV M_F_howMany 1 := ⟨⟨gw_4 170 (by decide +kernel) (by decide +kernel), gw_s 76 (by decide +kernel) (by decide +kernel)⟩, ⟨gw_4 171 (by decide +kernel) (by decide +kernel), gw_1 1 (by decide +kernel) (by decide +kernel), by decide, by decide, by decide +kernel⟩⟩
theorem m_F_setFraction : fMV M_F_setFraction 2 := ⟨⟨gw_4 132 (by decide +kernel) (by decide +kernel), gw_s 74 (by decide +kernel) (by decide +kernel)⟩, ⟨gw_4 133 (by decide +kernel) (by decide +kernel), gw_1 1 (by decide +kernel) (by decide +kernel), by decide, by decide, by decide +kernel⟩⟩
theorem m_F_bad : fMV M_F_bad 0 := ⟨⟨gw_2 111 (by decide +kernel) (by decide +kernel), gw_s 5 (by decide +kernel) (by decide +kernel)⟩, ⟨gw_2 112 (by decide +kernel) (by decide +kernel), gw_1 1 (by decide +kernel) (by decide +kernel), by decide, by decide, by decide +kernel⟩⟩
theorem m_F_no : fMV M_F_no 0 := ⟨⟨gw_3 97 (by decide +kernel) (by decide +kernel), gw_s 35 (by decide +kernel) (by decide +kernel)⟩, ⟨gw_3 98 (by decide +kernel) (by decide +kernel), gw_1 1 (by decide +kernel) (by decide +kernel), by decide, by decide, by decide +kernel⟩⟩
theorem m_F_full : fMV M_F_full 0 := ⟨⟨gw_2 127 (by decide +kernel) (by decide +kernel), gw_s 7 (by decide +kernel) (by decide +kernel)⟩, ⟨gw_2 128 (by decide +kernel) (by decide +kernel), gw_1 1 (by decide +kernel) (by decide +kernel), by decide, by decide, by decide +kernel⟩⟩
theorem m_F_within : fMS M_F_within 3 := ⟨gw_2 107 (by decide +kernel) (by decide +kernel), ⟨gw_2 108 (by decide +kernel) (by decide +kernel), gw_1 1 (by decide +kernel) (by decide +kernel), by decide, by decide, by decide +kernel⟩⟩
theorem m_F_isFigure : fMS M_F_isFigure 1 := ⟨gw_2 104 (by decide +kernel) (by decide +kernel), ⟨gw_2 105 (by decide +kernel) (by decide +kernel), gw_1 1 (by decide +kernel) (by decide +kernel), by decide, by decide, by decide +kernel⟩⟩
theorem m_F_isNumber : fMS M_F_isNumber 1 := ⟨gw_2 123 (by decide +kernel) (by decide +kernel), ⟨gw_2 124 (by decide +kernel) (by decide +kernel), gw_1 1 (by decide +kernel) (by decide +kernel), by decide, by decide, by decide +kernel⟩⟩
theorem m_F_isSign : fMS M_F_isSign 1 := ⟨gw_3 164 (by decide +kernel) (by decide +kernel), ⟨gw_3 165 (by decide +kernel) (by decide +kernel), gw_1 1 (by decide +kernel) (by decide +kernel), by decide, by decide, by decide +kernel⟩⟩
theorem m_M_init : fMN M_M_init 0 := ⟨⟨rfl, gw_4 195 (by decide +kernel) (by decide +kernel), rfl⟩, ⟨gw_4 196 (by decide +kernel) (by decide +kernel), gw_1 12 (by decide +kernel) (by decide +kernel), by decide, by decide, by decide +kernel⟩⟩
theorem m_M_in : fMS M_M_in 3 := ⟨gw_5 23 (by decide +kernel) (by decide +kernel), ⟨gw_5 24 (by decide +kernel) (by decide +kernel), gw_1 12 (by decide +kernel) (by decide +kernel), by decide, by decide, by decide +kernel⟩⟩
theorem m_M_refuses : fMV M_M_refuses 1 := ⟨⟨gw_5 27 (by decide +kernel) (by decide +kernel), gw_s 80 (by decide +kernel) (by decide +kernel)⟩, ⟨gw_5 28 (by decide +kernel) (by decide +kernel), gw_1 12 (by decide +kernel) (by decide +kernel), by decide, by decide, by decide +kernel⟩⟩
theorem m_M_refusesAs : fMV M_M_refusesAs 1 := ⟨⟨gw_5 236 (by decide +kernel) (by decide +kernel), gw_s 108 (by decide +kernel) (by decide +kernel)⟩, ⟨gw_5 237 (by decide +kernel) (by decide +kernel), gw_1 12 (by decide +kernel) (by decide +kernel), by decide, by decide, by decide +kernel⟩⟩
theorem m_M_begins : fMS M_M_begins 1 := ⟨gw_4 199 (by decide +kernel) (by decide +kernel), ⟨gw_4 200 (by decide +kernel) (by decide +kernel), gw_1 12 (by decide +kernel) (by decide +kernel), by decide, by decide, by decide +kernel⟩⟩
theorem m_M_wearOf : fMS M_M_wearOf 3 := ⟨gw_5 103 (by decide +kernel) (by decide +kernel), ⟨gw_5 104 (by decide +kernel) (by decide +kernel), gw_1 12 (by decide +kernel) (by decide +kernel), by decide, by decide, by decide +kernel⟩⟩
theorem m_M_restOf : fMS M_M_restOf 2 := ⟨gw_5 113 (by decide +kernel) (by decide +kernel), ⟨gw_5 114 (by decide +kernel) (by decide +kernel), gw_1 12 (by decide +kernel) (by decide +kernel), by decide, by decide, by decide +kernel⟩⟩
theorem m_M_wornNow : fMV M_M_wornNow 0 := ⟨⟨gw_5 192 (by decide +kernel) (by decide +kernel), gw_s 100 (by decide +kernel) (by decide +kernel)⟩, ⟨gw_5 193 (by decide +kernel) (by decide +kernel), gw_1 12 (by decide +kernel) (by decide +kernel), by decide, by decide, by decide +kernel⟩⟩
theorem m_M_rests : fMV M_M_rests 0 := ⟨⟨gw_5 208 (by decide +kernel) (by decide +kernel), gw_s 103 (by decide +kernel) (by decide +kernel)⟩, ⟨gw_5 209 (by decide +kernel) (by decide +kernel), gw_1 12 (by decide +kernel) (by decide +kernel), by decide, by decide, by decide +kernel⟩⟩
theorem m_M_adds : fMV M_M_adds 1 := ⟨⟨gw_5 96 (by decide +kernel) (by decide +kernel), gw_s 91 (by decide +kernel) (by decide +kernel)⟩, ⟨gw_5 97 (by decide +kernel) (by decide +kernel), gw_1 12 (by decide +kernel) (by decide +kernel), by decide, by decide, by decide +kernel⟩⟩
theorem m_M_line : fMV M_M_line 2 := ⟨⟨gw_5 92 (by decide +kernel) (by decide +kernel), gw_s 90 (by decide +kernel) (by decide +kernel)⟩, ⟨gw_5 93 (by decide +kernel) (by decide +kernel), gw_1 12 (by decide +kernel) (by decide +kernel), by decide, by decide, by decide +kernel⟩⟩
theorem m_M_wearsBy : fMV M_M_wearsBy 3 := ⟨⟨gw_5 100 (by decide +kernel) (by decide +kernel), gw_s 92 (by decide +kernel) (by decide +kernel)⟩, ⟨gw_5 101 (by decide +kernel) (by decide +kernel), gw_1 12 (by decide +kernel) (by decide +kernel), by decide, by decide, by decide +kernel⟩⟩
theorem m_M_costOf : fMV M_M_costOf 2 := ⟨⟨gw_5 128 (by decide +kernel) (by decide +kernel), gw_s 95 (by decide +kernel) (by decide +kernel)⟩, ⟨gw_5 129 (by decide +kernel) (by decide +kernel), gw_1 12 (by decide +kernel) (by decide +kernel), by decide, by decide, by decide +kernel⟩⟩
theorem m_M_wornBy : fMV M_M_wornBy 1 := ⟨⟨gw_6 27 (by decide +kernel) (by decide +kernel), gw_s 112 (by decide +kernel) (by decide +kernel)⟩, ⟨gw_6 28 (by decide +kernel) (by decide +kernel), gw_1 12 (by decide +kernel) (by decide +kernel), by decide, by decide, by decide +kernel⟩⟩
theorem m_M_canOf : fMV M_M_canOf 3 := ⟨⟨gw_5 88 (by decide +kernel) (by decide +kernel), gw_s 89 (by decide +kernel) (by decide +kernel)⟩, ⟨gw_5 89 (by decide +kernel) (by decide +kernel), gw_1 12 (by decide +kernel) (by decide +kernel), by decide, by decide, by decide +kernel⟩⟩
theorem m_M_writes : fMV M_M_writes 3 := ⟨⟨gw_5 107 (by decide +kernel) (by decide +kernel), gw_s 93 (by decide +kernel) (by decide +kernel)⟩, ⟨gw_5 108 (by decide +kernel) (by decide +kernel), gw_1 12 (by decide +kernel) (by decide +kernel), by decide, by decide, by decide +kernel⟩⟩
theorem m_M_sleeps : fMS M_M_sleeps 1 := ⟨gw_5 110 (by decide +kernel) (by decide +kernel), ⟨gw_5 111 (by decide +kernel) (by decide +kernel), gw_1 12 (by decide +kernel) (by decide +kernel), by decide, by decide, by decide +kernel⟩⟩
theorem m_M_asideBy : fMV M_M_asideBy 2 := ⟨⟨gw_5 196 (by decide +kernel) (by decide +kernel), gw_s 101 (by decide +kernel) (by decide +kernel)⟩, ⟨gw_5 197 (by decide +kernel) (by decide +kernel), gw_1 12 (by decide +kernel) (by decide +kernel), by decide, by decide, by decide +kernel⟩⟩
theorem m_M_isWithin : fMV M_M_isWithin 1 := ⟨⟨gw_5 200 (by decide +kernel) (by decide +kernel), gw_s 102 (by decide +kernel) (by decide +kernel)⟩, ⟨gw_5 201 (by decide +kernel) (by decide +kernel), gw_1 12 (by decide +kernel) (by decide +kernel), by decide, by decide, by decide +kernel⟩⟩
theorem m_M_house : fMV M_M_house 0 := ⟨⟨gw_5 15 (by decide +kernel) (by decide +kernel), gw_5 16 (by decide +kernel) (by decide +kernel)⟩, ⟨gw_5 17 (by decide +kernel) (by decide +kernel), gw_1 12 (by decide +kernel) (by decide +kernel), by decide, by decide, by decide +kernel⟩⟩
theorem m_M_figure : fMV M_M_figure 3 := ⟨⟨gw_5 19 (by decide +kernel) (by decide +kernel), gw_5 20 (by decide +kernel) (by decide +kernel)⟩, ⟨gw_5 21 (by decide +kernel) (by decide +kernel), gw_1 12 (by decide +kernel) (by decide +kernel), by decide, by decide, by decide +kernel⟩⟩
theorem m_M_bills : fMS M_M_bills 3 := ⟨gw_5 34 (by decide +kernel) (by decide +kernel), ⟨gw_5 35 (by decide +kernel) (by decide +kernel), gw_1 12 (by decide +kernel) (by decide +kernel), by decide, by decide, by decide +kernel⟩⟩
theorem m_M_bill : fMV M_M_bill 2 := ⟨⟨gw_5 30 (by decide +kernel) (by decide +kernel), gw_5 31 (by decide +kernel) (by decide +kernel)⟩, ⟨gw_5 32 (by decide +kernel) (by decide +kernel), gw_1 12 (by decide +kernel) (by decide +kernel), by decide, by decide, by decide +kernel⟩⟩
theorem m_M_type : fMV M_M_type 1 := ⟨⟨gw_5 37 (by decide +kernel) (by decide +kernel), gw_5 38 (by decide +kernel) (by decide +kernel)⟩, ⟨gw_5 39 (by decide +kernel) (by decide +kernel), gw_1 12 (by decide +kernel) (by decide +kernel), by decide, by decide, by decide +kernel⟩⟩
theorem m_M_clear : fMV M_M_clear 0 := ⟨⟨gw_5 41 (by decide +kernel) (by decide +kernel), gw_5 42 (by decide +kernel) (by decide +kernel)⟩, ⟨gw_5 43 (by decide +kernel) (by decide +kernel), gw_1 12 (by decide +kernel) (by decide +kernel), by decide, by decide, by decide +kernel⟩⟩
theorem m_M_at : fMV M_M_at 1 := ⟨⟨gw_5 54 (by decide +kernel) (by decide +kernel), gw_s 82 (by decide +kernel) (by decide +kernel)⟩, ⟨gw_5 55 (by decide +kernel) (by decide +kernel), gw_1 12 (by decide +kernel) (by decide +kernel), by decide, by decide, by decide +kernel⟩⟩
theorem m_M_isLetter : fMS M_M_isLetter 1 := ⟨gw_5 57 (by decide +kernel) (by decide +kernel), ⟨gw_5 58 (by decide +kernel) (by decide +kernel), gw_1 12 (by decide +kernel) (by decide +kernel), by decide, by decide, by decide +kernel⟩⟩
theorem m_M_word : fMV M_M_word 0 := ⟨⟨gw_5 61 (by decide +kernel) (by decide +kernel), gw_s 83 (by decide +kernel) (by decide +kernel)⟩, ⟨gw_5 62 (by decide +kernel) (by decide +kernel), gw_1 12 (by decide +kernel) (by decide +kernel), by decide, by decide, by decide +kernel⟩⟩
theorem m_M_advances : fMV M_M_advances 0 := ⟨⟨gw_5 50 (by decide +kernel) (by decide +kernel), gw_s 81 (by decide +kernel) (by decide +kernel)⟩, ⟨gw_5 51 (by decide +kernel) (by decide +kernel), gw_1 12 (by decide +kernel) (by decide +kernel), by decide, by decide, by decide +kernel⟩⟩
theorem m_M_isWell : fMV M_M_isWell 0 := ⟨⟨gw_5 65 (by decide +kernel) (by decide +kernel), gw_s 84 (by decide +kernel) (by decide +kernel)⟩, ⟨gw_5 66 (by decide +kernel) (by decide +kernel), gw_1 12 (by decide +kernel) (by decide +kernel), by decide, by decide, by decide +kernel⟩⟩
theorem m_M_takes : fMV M_M_takes 1 := ⟨⟨gw_5 76 (by decide +kernel) (by decide +kernel), gw_s 86 (by decide +kernel) (by decide +kernel)⟩, ⟨gw_5 77 (by decide +kernel) (by decide +kernel), gw_1 12 (by decide +kernel) (by decide +kernel), by decide, by decide, by decide +kernel⟩⟩
theorem m_M_number : fMV M_M_number 2 := ⟨⟨gw_5 84 (by decide +kernel) (by decide +kernel), gw_s 88 (by decide +kernel) (by decide +kernel)⟩, ⟨gw_5 85 (by decide +kernel) (by decide +kernel), gw_1 12 (by decide +kernel) (by decide +kernel), by decide, by decide, by decide +kernel⟩⟩
theorem m_M_sum : fMS M_M_sum 5 := ⟨gw_5 72 (by decide +kernel) (by decide +kernel), ⟨gw_5 73 (by decide +kernel) (by decide +kernel), gw_1 12 (by decide +kernel) (by decide +kernel), by decide, by decide, by decide +kernel⟩⟩
theorem m_M_wordIs : fMV M_M_wordIs 0 := ⟨⟨gw_5 69 (by decide +kernel) (by decide +kernel), gw_s 85 (by decide +kernel) (by decide +kernel)⟩, ⟨gw_5 70 (by decide +kernel) (by decide +kernel), gw_1 12 (by decide +kernel) (by decide +kernel), by decide, by decide, by decide +kernel⟩⟩
theorem m_M_reads : fMV M_M_reads 1 := ⟨⟨gw_5 80 (by decide +kernel) (by decide +kernel), gw_s 87 (by decide +kernel) (by decide +kernel)⟩, ⟨gw_5 81 (by decide +kernel) (by decide +kernel), gw_1 12 (by decide +kernel) (by decide +kernel), by decide, by decide, by decide +kernel⟩⟩
theorem m_M_read : fMV M_M_read 0 := ⟨⟨gw_5 45 (by decide +kernel) (by decide +kernel), gw_5 46 (by decide +kernel) (by decide +kernel)⟩, ⟨gw_5 47 (by decide +kernel) (by decide +kernel), gw_1 12 (by decide +kernel) (by decide +kernel), by decide, by decide, by decide +kernel⟩⟩
theorem m_M_notes : fMV M_M_notes 0 := ⟨⟨gw_5 124 (by decide +kernel) (by decide +kernel), gw_s 94 (by decide +kernel) (by decide +kernel)⟩, ⟨gw_5 125 (by decide +kernel) (by decide +kernel), gw_1 12 (by decide +kernel) (by decide +kernel), by decide, by decide, by decide +kernel⟩⟩
theorem m_M_areLine : fMS M_M_areLine 2 := ⟨gw_5 120 (by decide +kernel) (by decide +kernel), ⟨gw_5 121 (by decide +kernel) (by decide +kernel), gw_1 12 (by decide +kernel) (by decide +kernel), by decide, by decide, by decide +kernel⟩⟩
theorem m_M_write : fMV M_M_write 2 := ⟨⟨gw_5 116 (by decide +kernel) (by decide +kernel), gw_5 117 (by decide +kernel) (by decide +kernel)⟩, ⟨gw_5 118 (by decide +kernel) (by decide +kernel), gw_1 12 (by decide +kernel) (by decide +kernel), by decide, by decide, by decide +kernel⟩⟩
theorem m_M_isBill : fMV M_M_isBill 1 := ⟨⟨gw_5 136 (by decide +kernel) (by decide +kernel), gw_s 96 (by decide +kernel) (by decide +kernel)⟩, ⟨gw_5 137 (by decide +kernel) (by decide +kernel), gw_1 12 (by decide +kernel) (by decide +kernel), by decide, by decide, by decide +kernel⟩⟩
theorem m_M_isPaid : fMV M_M_isPaid 1 := ⟨⟨gw_5 140 (by decide +kernel) (by decide +kernel), gw_s 97 (by decide +kernel) (by decide +kernel)⟩, ⟨gw_5 141 (by decide +kernel) (by decide +kernel), gw_1 12 (by decide +kernel) (by decide +kernel), by decide, by decide, by decide +kernel⟩⟩
theorem m_M_pay : fMV M_M_pay 1 := ⟨⟨gw_5 131 (by decide +kernel) (by decide +kernel), gw_5 132 (by decide +kernel) (by decide +kernel)⟩, ⟨gw_5 133 (by decide +kernel) (by decide +kernel), gw_1 12 (by decide +kernel) (by decide +kernel), by decide, by decide, by decide +kernel⟩⟩
theorem m_M_night : fMV M_M_night 1 := ⟨⟨gw_5 143 (by decide +kernel) (by decide +kernel), gw_5 144 (by decide +kernel) (by decide +kernel)⟩, ⟨gw_5 145 (by decide +kernel) (by decide +kernel), gw_1 12 (by decide +kernel) (by decide +kernel), by decide, by decide, by decide +kernel⟩⟩
theorem m_M_undo : fMV M_M_undo 0 := ⟨⟨gw_5 147 (by decide +kernel) (by decide +kernel), gw_5 148 (by decide +kernel) (by decide +kernel)⟩, ⟨gw_5 149 (by decide +kernel) (by decide +kernel), gw_1 12 (by decide +kernel) (by decide +kernel), by decide, by decide, by decide +kernel⟩⟩
theorem m_M_leftOf : fMV M_M_leftOf 1 := ⟨⟨gw_5 156 (by decide +kernel) (by decide +kernel), gw_s 98 (by decide +kernel) (by decide +kernel)⟩, ⟨gw_5 157 (by decide +kernel) (by decide +kernel), gw_1 12 (by decide +kernel) (by decide +kernel), by decide, by decide, by decide +kernel⟩⟩
theorem m_M_of : fMV M_M_of 2 := ⟨⟨gw_5 151 (by decide +kernel) (by decide +kernel), gw_5 152 (by decide +kernel) (by decide +kernel)⟩, ⟨gw_5 153 (by decide +kernel) (by decide +kernel), gw_1 12 (by decide +kernel) (by decide +kernel), by decide, by decide, by decide +kernel⟩⟩
theorem m_M_about : fMV M_M_about 2 := ⟨⟨gw_5 159 (by decide +kernel) (by decide +kernel), gw_5 160 (by decide +kernel) (by decide +kernel)⟩, ⟨gw_5 161 (by decide +kernel) (by decide +kernel), gw_1 12 (by decide +kernel) (by decide +kernel), by decide, by decide, by decide +kernel⟩⟩
theorem m_M_wears : fMV M_M_wears 2 := ⟨⟨gw_5 163 (by decide +kernel) (by decide +kernel), gw_5 164 (by decide +kernel) (by decide +kernel)⟩, ⟨gw_5 165 (by decide +kernel) (by decide +kernel), gw_1 12 (by decide +kernel) (by decide +kernel), by decide, by decide, by decide +kernel⟩⟩
theorem m_M_cost : fMV M_M_cost 2 := ⟨⟨gw_5 167 (by decide +kernel) (by decide +kernel), gw_5 168 (by decide +kernel) (by decide +kernel)⟩, ⟨gw_5 169 (by decide +kernel) (by decide +kernel), gw_1 12 (by decide +kernel) (by decide +kernel), by decide, by decide, by decide +kernel⟩⟩
theorem m_M_can : fMV M_M_can 2 := ⟨⟨gw_5 171 (by decide +kernel) (by decide +kernel), gw_5 172 (by decide +kernel) (by decide +kernel)⟩, ⟨gw_5 173 (by decide +kernel) (by decide +kernel), gw_1 12 (by decide +kernel) (by decide +kernel), by decide, by decide, by decide +kernel⟩⟩
theorem m_M_bestOf : fMV M_M_bestOf 1 := ⟨⟨gw_5 180 (by decide +kernel) (by decide +kernel), gw_s 99 (by decide +kernel) (by decide +kernel)⟩, ⟨gw_5 181 (by decide +kernel) (by decide +kernel), gw_1 12 (by decide +kernel) (by decide +kernel), by decide, by decide, by decide +kernel⟩⟩
theorem m_M_best : fMV M_M_best 1 := ⟨⟨gw_5 175 (by decide +kernel) (by decide +kernel), gw_5 176 (by decide +kernel) (by decide +kernel)⟩, ⟨gw_5 177 (by decide +kernel) (by decide +kernel), gw_1 12 (by decide +kernel) (by decide +kernel), by decide, by decide, by decide +kernel⟩⟩
theorem m_M_first : fMV M_M_first 0 := ⟨⟨gw_5 183 (by decide +kernel) (by decide +kernel), gw_5 184 (by decide +kernel) (by decide +kernel)⟩, ⟨gw_5 185 (by decide +kernel) (by decide +kernel), gw_1 12 (by decide +kernel) (by decide +kernel), by decide, by decide, by decide +kernel⟩⟩
theorem m_M_counts : fMV M_M_counts 0 := ⟨⟨gw_5 187 (by decide +kernel) (by decide +kernel), gw_5 188 (by decide +kernel) (by decide +kernel)⟩, ⟨gw_5 189 (by decide +kernel) (by decide +kernel), gw_1 12 (by decide +kernel) (by decide +kernel), by decide, by decide, by decide +kernel⟩⟩
theorem m_M_when : fMV M_M_when 2 := ⟨⟨gw_5 203 (by decide +kernel) (by decide +kernel), gw_5 204 (by decide +kernel) (by decide +kernel)⟩, ⟨gw_5 205 (by decide +kernel) (by decide +kernel), gw_1 12 (by decide +kernel) (by decide +kernel), by decide, by decide, by decide +kernel⟩⟩
theorem m_M_canAll : fMV M_M_canAll 1 := ⟨⟨gw_5 224 (by decide +kernel) (by decide +kernel), gw_s 106 (by decide +kernel) (by decide +kernel)⟩, ⟨gw_5 225 (by decide +kernel) (by decide +kernel), gw_1 12 (by decide +kernel) (by decide +kernel), by decide, by decide, by decide +kernel⟩⟩
theorem m_M_areWithin : fMV M_M_areWithin 1 := ⟨⟨gw_5 228 (by decide +kernel) (by decide +kernel), gw_s 107 (by decide +kernel) (by decide +kernel)⟩, ⟨gw_5 229 (by decide +kernel) (by decide +kernel), gw_1 12 (by decide +kernel) (by decide +kernel), by decide, by decide, by decide +kernel⟩⟩
theorem m_M_worthOf : fMV M_M_worthOf 1 := ⟨⟨gw_5 220 (by decide +kernel) (by decide +kernel), gw_s 105 (by decide +kernel) (by decide +kernel)⟩, ⟨gw_5 221 (by decide +kernel) (by decide +kernel), gw_1 12 (by decide +kernel) (by decide +kernel), by decide, by decide, by decide +kernel⟩⟩
theorem m_M_unpaid : fMV M_M_unpaid 0 := ⟨⟨gw_5 216 (by decide +kernel) (by decide +kernel), gw_s 104 (by decide +kernel) (by decide +kernel)⟩, ⟨gw_5 217 (by decide +kernel) (by decide +kernel), gw_1 12 (by decide +kernel) (by decide +kernel), by decide, by decide, by decide +kernel⟩⟩
theorem m_M_most : fMV M_M_most 1 := ⟨⟨gw_5 211 (by decide +kernel) (by decide +kernel), gw_5 212 (by decide +kernel) (by decide +kernel)⟩, ⟨gw_5 213 (by decide +kernel) (by decide +kernel), gw_1 12 (by decide +kernel) (by decide +kernel), by decide, by decide, by decide +kernel⟩⟩
theorem m_M_dayOf : fMS M_M_dayOf 2 := ⟨gw_5 239 (by decide +kernel) (by decide +kernel), ⟨gw_6 0 (by decide +kernel) (by decide +kernel), gw_1 12 (by decide +kernel) (by decide +kernel), by decide, by decide, by decide +kernel⟩⟩
theorem m_M_daysOf : fMV M_M_daysOf 1 := ⟨⟨gw_6 3 (by decide +kernel) (by decide +kernel), gw_s 109 (by decide +kernel) (by decide +kernel)⟩, ⟨gw_6 4 (by decide +kernel) (by decide +kernel), gw_1 12 (by decide +kernel) (by decide +kernel), by decide, by decide, by decide +kernel⟩⟩
theorem m_M_plan : fMV M_M_plan 1 := ⟨⟨gw_5 231 (by decide +kernel) (by decide +kernel), gw_5 232 (by decide +kernel) (by decide +kernel)⟩, ⟨gw_5 233 (by decide +kernel) (by decide +kernel), gw_1 12 (by decide +kernel) (by decide +kernel), by decide, by decide, by decide +kernel⟩⟩
theorem m_M_manyCan : fMV M_M_manyCan 0 := ⟨⟨gw_6 11 (by decide +kernel) (by decide +kernel), gw_s 110 (by decide +kernel) (by decide +kernel)⟩, ⟨gw_6 12 (by decide +kernel) (by decide +kernel), gw_1 12 (by decide +kernel) (by decide +kernel), by decide, by decide, by decide +kernel⟩⟩
theorem m_M_wanted : fMV M_M_wanted 1 := ⟨⟨gw_6 6 (by decide +kernel) (by decide +kernel), gw_6 7 (by decide +kernel) (by decide +kernel)⟩, ⟨gw_6 8 (by decide +kernel) (by decide +kernel), gw_1 12 (by decide +kernel) (by decide +kernel), by decide, by decide, by decide +kernel⟩⟩
theorem m_M_trace : fMV M_M_trace 2 := ⟨⟨gw_6 14 (by decide +kernel) (by decide +kernel), gw_6 15 (by decide +kernel) (by decide +kernel)⟩, ⟨gw_6 16 (by decide +kernel) (by decide +kernel), gw_1 12 (by decide +kernel) (by decide +kernel), by decide, by decide, by decide +kernel⟩⟩
theorem m_M_isTraced : fMV M_M_isTraced 2 := ⟨⟨gw_6 23 (by decide +kernel) (by decide +kernel), gw_s 111 (by decide +kernel) (by decide +kernel)⟩, ⟨gw_6 24 (by decide +kernel) (by decide +kernel), gw_1 12 (by decide +kernel) (by decide +kernel), by decide, by decide, by decide +kernel⟩⟩
theorem m_M_which : fMV M_M_which 1 := ⟨⟨gw_6 18 (by decide +kernel) (by decide +kernel), gw_6 19 (by decide +kernel) (by decide +kernel)⟩, ⟨gw_6 20 (by decide +kernel) (by decide +kernel), gw_1 12 (by decide +kernel) (by decide +kernel), by decide, by decide, by decide +kernel⟩⟩
theorem m_M_note : fMV M_M_note 4 := ⟨⟨gw_6 30 (by decide +kernel) (by decide +kernel), gw_6 31 (by decide +kernel) (by decide +kernel)⟩, ⟨gw_6 32 (by decide +kernel) (by decide +kernel), gw_1 12 (by decide +kernel) (by decide +kernel), by decide, by decide, by decide +kernel⟩⟩
theorem m_M_forget : fMV M_M_forget 1 := ⟨⟨gw_6 34 (by decide +kernel) (by decide +kernel), gw_6 35 (by decide +kernel) (by decide +kernel)⟩, ⟨gw_6 36 (by decide +kernel) (by decide +kernel), gw_1 12 (by decide +kernel) (by decide +kernel), by decide, by decide, by decide +kernel⟩⟩
theorem m_M_kindsOf : fMV M_M_kindsOf 1 := ⟨⟨gw_6 43 (by decide +kernel) (by decide +kernel), gw_s 113 (by decide +kernel) (by decide +kernel)⟩, ⟨gw_6 44 (by decide +kernel) (by decide +kernel), gw_1 12 (by decide +kernel) (by decide +kernel), by decide, by decide, by decide +kernel⟩⟩
theorem m_M_is : fMV M_M_is 1 := ⟨⟨gw_6 38 (by decide +kernel) (by decide +kernel), gw_6 39 (by decide +kernel) (by decide +kernel)⟩, ⟨gw_6 40 (by decide +kernel) (by decide +kernel), gw_1 12 (by decide +kernel) (by decide +kernel), by decide, by decide, by decide +kernel⟩⟩
theorem m_M_look : fMV M_M_look 1 := ⟨⟨gw_6 46 (by decide +kernel) (by decide +kernel), gw_6 47 (by decide +kernel) (by decide +kernel)⟩, ⟨gw_6 48 (by decide +kernel) (by decide +kernel), gw_1 12 (by decide +kernel) (by decide +kernel), by decide, by decide, by decide +kernel⟩⟩
theorem m_M_has : fMV M_M_has 2 := ⟨⟨gw_6 55 (by decide +kernel) (by decide +kernel), gw_s 114 (by decide +kernel) (by decide +kernel)⟩, ⟨gw_6 56 (by decide +kernel) (by decide +kernel), gw_1 12 (by decide +kernel) (by decide +kernel), by decide, by decide, by decide +kernel⟩⟩
theorem m_M_two : fMV M_M_two 2 := ⟨⟨gw_6 50 (by decide +kernel) (by decide +kernel), gw_6 51 (by decide +kernel) (by decide +kernel)⟩, ⟨gw_6 52 (by decide +kernel) (by decide +kernel), gw_1 12 (by decide +kernel) (by decide +kernel), by decide, by decide, by decide +kernel⟩⟩
theorem m_M_gcd : fMS M_M_gcd 2 := ⟨gw_6 67 (by decide +kernel) (by decide +kernel), ⟨gw_6 68 (by decide +kernel) (by decide +kernel), gw_1 12 (by decide +kernel) (by decide +kernel), by decide, by decide, by decide +kernel⟩⟩
theorem m_M_canFree : fMV M_M_canFree 3 := ⟨⟨gw_6 64 (by decide +kernel) (by decide +kernel), gw_s 115 (by decide +kernel) (by decide +kernel)⟩, ⟨gw_6 65 (by decide +kernel) (by decide +kernel), gw_1 12 (by decide +kernel) (by decide +kernel), by decide, by decide, by decide +kernel⟩⟩
theorem m_M_odds : fMV M_M_odds 3 := ⟨⟨gw_6 58 (by decide +kernel) (by decide +kernel), gw_6 59 (by decide +kernel) (by decide +kernel)⟩, ⟨gw_6 60 (by decide +kernel) (by decide +kernel), gw_1 12 (by decide +kernel) (by decide +kernel), by decide, by decide, by decide +kernel⟩⟩
theorem m_M_years : fMV M_M_years 2 := ⟨⟨gw_6 70 (by decide +kernel) (by decide +kernel), gw_6 71 (by decide +kernel) (by decide +kernel)⟩, ⟨gw_6 72 (by decide +kernel) (by decide +kernel), gw_1 12 (by decide +kernel) (by decide +kernel), by decide, by decide, by decide +kernel⟩⟩
theorem m_M_takesBack : fMV M_M_takesBack 2 := ⟨⟨gw_6 81 (by decide +kernel) (by decide +kernel), gw_s 116 (by decide +kernel) (by decide +kernel)⟩, ⟨gw_6 82 (by decide +kernel) (by decide +kernel), gw_1 12 (by decide +kernel) (by decide +kernel), by decide, by decide, by decide +kernel⟩⟩
theorem m_M_part : fMV M_M_part 1 := ⟨⟨gw_6 84 (by decide +kernel) (by decide +kernel), gw_6 85 (by decide +kernel) (by decide +kernel)⟩, ⟨gw_6 86 (by decide +kernel) (by decide +kernel), gw_1 12 (by decide +kernel) (by decide +kernel), by decide, by decide, by decide +kernel⟩⟩
theorem m_M_image : fMV M_M_image 1 := ⟨⟨gw_6 88 (by decide +kernel) (by decide +kernel), gw_6 89 (by decide +kernel) (by decide +kernel)⟩, ⟨gw_6 90 (by decide +kernel) (by decide +kernel), gw_1 12 (by decide +kernel) (by decide +kernel), by decide, by decide, by decide +kernel⟩⟩
theorem m_M_from : fMV M_M_from 1 := ⟨⟨gw_6 92 (by decide +kernel) (by decide +kernel), gw_6 93 (by decide +kernel) (by decide +kernel)⟩, ⟨gw_6 94 (by decide +kernel) (by decide +kernel), gw_1 12 (by decide +kernel) (by decide +kernel), by decide, by decide, by decide +kernel⟩⟩
theorem m_M_status : fMV M_M_status 1 := ⟨⟨gw_6 96 (by decide +kernel) (by decide +kernel), gw_6 97 (by decide +kernel) (by decide +kernel)⟩, ⟨gw_6 98 (by decide +kernel) (by decide +kernel), gw_1 12 (by decide +kernel) (by decide +kernel), by decide, by decide, by decide +kernel⟩⟩
theorem m_M_counted : fMV M_M_counted 1 := ⟨⟨gw_6 105 (by decide +kernel) (by decide +kernel), gw_s 117 (by decide +kernel) (by decide +kernel)⟩, ⟨gw_6 106 (by decide +kernel) (by decide +kernel), gw_1 12 (by decide +kernel) (by decide +kernel), by decide, by decide, by decide +kernel⟩⟩
theorem m_M_count : fMV M_M_count 1 := ⟨⟨gw_6 100 (by decide +kernel) (by decide +kernel), gw_6 101 (by decide +kernel) (by decide +kernel)⟩, ⟨gw_6 102 (by decide +kernel) (by decide +kernel), gw_1 12 (by decide +kernel) (by decide +kernel), by decide, by decide, by decide +kernel⟩⟩
theorem m_M_digest : fMV M_M_digest 0 := ⟨⟨gw_6 108 (by decide +kernel) (by decide +kernel), gw_6 109 (by decide +kernel) (by decide +kernel)⟩, ⟨gw_6 110 (by decide +kernel) (by decide +kernel), gw_1 12 (by decide +kernel) (by decide +kernel), by decide, by decide, by decide +kernel⟩⟩
theorem m_J_length : fMV M_J_length 0 := ⟨⟨gw_2 176 (by decide +kernel) (by decide +kernel), gw_2 177 (by decide +kernel) (by decide +kernel)⟩, ⟨gw_2 178 (by decide +kernel) (by decide +kernel), gw_1 13 (by decide +kernel) (by decide +kernel), by decide, by decide, by decide +kernel⟩⟩
theorem m_J_charAt : fMV M_J_charAt 1 := ⟨⟨gw_2 186 (by decide +kernel) (by decide +kernel), gw_2 187 (by decide +kernel) (by decide +kernel)⟩, ⟨gw_2 188 (by decide +kernel) (by decide +kernel), gw_1 13 (by decide +kernel) (by decide +kernel), by decide, by decide, by decide +kernel⟩⟩
theorem m_J_coder : fMV M_J_coder 0 := ⟨⟨gw_2 180 (by decide +kernel) (by decide +kernel), gw_2 181 (by decide +kernel) (by decide +kernel)⟩, ⟨gw_2 182 (by decide +kernel) (by decide +kernel), gw_1 13 (by decide +kernel) (by decide +kernel), by decide, by decide, by decide +kernel⟩⟩
theorem m_J_isLatin1 : fMV M_J_isLatin1 0 := ⟨⟨gw_2 190 (by decide +kernel) (by decide +kernel), gw_2 191 (by decide +kernel) (by decide +kernel)⟩, ⟨gw_2 192 (by decide +kernel) (by decide +kernel), gw_1 13 (by decide +kernel) (by decide +kernel), by decide, by decide, by decide +kernel⟩⟩
theorem m_J_checkIndex : fMS M_J_checkIndex 2 := ⟨gw_2 197 (by decide +kernel) (by decide +kernel), ⟨gw_2 198 (by decide +kernel) (by decide +kernel), gw_1 13 (by decide +kernel) (by decide +kernel), by decide, by decide, by decide +kernel⟩⟩
theorem m_Q_charAt : fMS M_Q_charAt 2 := ⟨gw_2 194 (by decide +kernel) (by decide +kernel), ⟨gw_2 195 (by decide +kernel) (by decide +kernel), gw_1 14 (by decide +kernel) (by decide +kernel), by decide, by decide, by decide +kernel⟩⟩
theorem m_A_fill : fMS M_A_fill 2 := ⟨gw_1 146 (by decide +kernel) (by decide +kernel), ⟨gw_1 147 (by decide +kernel) (by decide +kernel), gw_1 7 (by decide +kernel) (by decide +kernel), by decide, by decide, by decide +kernel⟩⟩
theorem m_R_checkIndex : fMS M_R_checkIndex 3 := ⟨gw_2 202 (by decide +kernel) (by decide +kernel), ⟨gw_2 203 (by decide +kernel) (by decide +kernel), gw_1 15 (by decide +kernel) (by decide +kernel), by decide, by decide, by decide +kernel⟩⟩
theorem k_F_1 : Cond.methodLink "FigureLeave" 1 objectInit ∈ gw := gw_1 25 (by decide +kernel) (by decide +kernel)
theorem n_F_7 : fNW "FigureLeave" 7 1 [.null, .null, .null, .null, .null, .null] 6 := ⟨"FigureLeave$House", cT_H, cy_H, rfl, gw_1 28 (by decide +kernel) (by decide +kernel), gw_1 29 (by decide +kernel) (by decide +kernel), gw_1 2 (by decide +kernel) (by decide +kernel), cp_H, by decide +kernel, fun _ => rfl⟩
theorem na_F_7 : Cond.classLink "FigureLeave" 7 "FigureLeave$House" ∈ gw := gw_1 28 (by decide +kernel) (by decide +kernel)
theorem k_F_9 : fML "FigureLeave" 9 M_H_init := Or.inr ⟨"FigureLeave", nw_1 30 (by decide +kernel) rfl⟩
theorem l_F_10 : fFL "FigureLeave" 10 0 0 := ⟨"FigureLeave", cT_F, 12, rfl, by decide, rfl, Or.inl (gw_2 37 (by decide +kernel) (by decide +kernel))⟩
theorem q_F_10 : fPF "FigureLeave" 10 0 0 (.object "FigureLeave$House") := ⟨"FigureLeave", cT_F, 12, rfl, by decide, rfl, rfl, rfl, by decide +kernel, gw_2 37 (by decide +kernel) (by decide +kernel)⟩
theorem l_F_16 : fFL "FigureLeave" 16 0 1 := ⟨"FigureLeave", cT_F, 12, rfl, by decide, rfl, Or.inl (gw_2 38 (by decide +kernel) (by decide +kernel))⟩
theorem q_F_16 : fPF "FigureLeave" 16 0 1 (.object "FigureLeave$House") := ⟨"FigureLeave", cT_F, 12, rfl, by decide, rfl, rfl, rfl, by decide +kernel, gw_2 38 (by decide +kernel) (by decide +kernel)⟩
theorem l_F_19 : fFL "FigureLeave" 19 0 2 := ⟨"FigureLeave", cT_F, 12, rfl, by decide, rfl, Or.inl (gw_2 39 (by decide +kernel) (by decide +kernel))⟩
theorem q_F_19 : fPF "FigureLeave" 19 0 2 (.array (.object "FigureLeave$House")) := ⟨"FigureLeave", cT_F, 12, rfl, by decide, rfl, rfl, rfl, by decide +kernel, gw_2 39 (by decide +kernel) (by decide +kernel)⟩
theorem n_F_23 : fNW "FigureLeave" 23 7 [.null, .null, .null, .null, .int 0, .int 0] 6 := ⟨"FigureLeave$Clerk", cT_K, cy_K, rfl, gw_1 183 (by decide +kernel) (by decide +kernel), gw_1 184 (by decide +kernel) (by decide +kernel), gw_1 8 (by decide +kernel) (by decide +kernel), cp_K, by decide +kernel, fun _ => rfl⟩
theorem k_F_25 : fML "FigureLeave" 25 M_K_init := Or.inr ⟨"FigureLeave", nw_1 185 (by decide +kernel) rfl⟩
theorem l_F_26 : fFL "FigureLeave" 26 0 3 := ⟨"FigureLeave", cT_F, 12, rfl, by decide, rfl, Or.inl (gw_2 40 (by decide +kernel) (by decide +kernel))⟩
theorem q_F_26 : fPF "FigureLeave" 26 0 3 (.object "FigureLeave$Clerk") := ⟨"FigureLeave", cT_F, 12, rfl, by decide, rfl, rfl, rfl, by decide +kernel, gw_2 40 (by decide +kernel) (by decide +kernel)⟩
theorem n_F_30 : fNW "FigureLeave" 30 8 [.null] 1 := ⟨"FigureLeave$Sleuth", cT_U, cy_U, rfl, gw_1 230 (by decide +kernel) (by decide +kernel), gw_1 231 (by decide +kernel) (by decide +kernel), gw_1 10 (by decide +kernel) (by decide +kernel), cp_U, by decide +kernel, fun _ => rfl⟩
theorem k_F_32 : fML "FigureLeave" 32 M_U_init := Or.inr ⟨"FigureLeave", nw_1 232 (by decide +kernel) rfl⟩
theorem l_F_33 : fFL "FigureLeave" 33 0 4 := ⟨"FigureLeave", cT_F, 12, rfl, by decide, rfl, Or.inl (gw_2 41 (by decide +kernel) (by decide +kernel))⟩
theorem q_F_33 : fPF "FigureLeave" 33 0 4 (.object "FigureLeave$Sleuth") := ⟨"FigureLeave", cT_F, 12, rfl, by decide, rfl, rfl, rfl, by decide +kernel, gw_2 41 (by decide +kernel) (by decide +kernel)⟩
theorem n_F_37 : fNW "FigureLeave" 37 9 [.null, .null, .int 0, .int 0, .int 0, .int 0, .int 0] 7 := ⟨"FigureLeave$Text", cT_T, cy_T, rfl, gw_2 2 (by decide +kernel) (by decide +kernel), gw_2 3 (by decide +kernel) (by decide +kernel), gw_1 11 (by decide +kernel) (by decide +kernel), cp_T, by decide +kernel, fun _ => rfl⟩
theorem k_F_39 : fML "FigureLeave" 39 M_T_init := Or.inr ⟨"FigureLeave", nw_2 4 (by decide +kernel) rfl⟩
theorem l_F_40 : fFL "FigureLeave" 40 0 5 := ⟨"FigureLeave", cT_F, 12, rfl, by decide, rfl, Or.inl (gw_2 42 (by decide +kernel) (by decide +kernel))⟩
theorem q_F_40 : fPF "FigureLeave" 40 0 5 (.object "FigureLeave$Text") := ⟨"FigureLeave", cT_F, 12, rfl, by decide, rfl, rfl, rfl, by decide +kernel, gw_2 42 (by decide +kernel) (by decide +kernel)⟩
theorem n_F_44 : fNW "FigureLeave" 44 6 [.null, .int 0] 2 := ⟨"FigureLeave$Line", cT_L, cy_L, rfl, gw_2 35 (by decide +kernel) (by decide +kernel), gw_1 190 (by decide +kernel) (by decide +kernel), gw_1 9 (by decide +kernel) (by decide +kernel), cp_L, by decide +kernel, fun _ => rfl⟩
theorem k_F_46 : fML "FigureLeave" 46 M_L_init := Or.inr ⟨"FigureLeave", nw_2 36 (by decide +kernel) rfl⟩
theorem l_F_47 : fFL "FigureLeave" 47 0 6 := ⟨"FigureLeave", cT_F, 12, rfl, by decide, rfl, Or.inl (gw_2 43 (by decide +kernel) (by decide +kernel))⟩
theorem q_F_47 : fPF "FigureLeave" 47 0 6 (.object "FigureLeave$Line") := ⟨"FigureLeave", cT_F, 12, rfl, by decide, rfl, rfl, rfl, by decide +kernel, gw_2 43 (by decide +kernel) (by decide +kernel)⟩
theorem l_F_51 : fFL "FigureLeave" 51 0 7 := ⟨"FigureLeave", cT_F, 12, rfl, by decide, rfl, Or.inl (gw_2 44 (by decide +kernel) (by decide +kernel))⟩
theorem p_F_51 : fPL "FigureLeave" 51 0 7 .int := ⟨"FigureLeave", cT_F, 12, rfl, by decide, rfl, rfl, by decide +kernel, Or.inl (gw_2 44 (by decide +kernel) (by decide +kernel))⟩
theorem l_F_55 : fFL "FigureLeave" 55 0 8 := ⟨"FigureLeave", cT_F, 12, rfl, by decide, rfl, Or.inl (gw_2 45 (by decide +kernel) (by decide +kernel))⟩
theorem p_F_55 : fPL "FigureLeave" 55 0 8 .int := ⟨"FigureLeave", cT_F, 12, rfl, by decide, rfl, rfl, by decide +kernel, Or.inl (gw_2 45 (by decide +kernel) (by decide +kernel))⟩
theorem l_F_58 : fFL "FigureLeave" 58 0 9 := ⟨"FigureLeave", cT_F, 12, rfl, by decide, rfl, Or.inl (gw_2 46 (by decide +kernel) (by decide +kernel))⟩
theorem p_F_58 : fPL "FigureLeave" 58 0 9 .int := ⟨"FigureLeave", cT_F, 12, rfl, by decide, rfl, rfl, by decide +kernel, Or.inl (gw_2 46 (by decide +kernel) (by decide +kernel))⟩
theorem l_F_61 : fFL "FigureLeave" 61 0 10 := ⟨"FigureLeave", cT_F, 12, rfl, by decide, rfl, Or.inl (gw_2 47 (by decide +kernel) (by decide +kernel))⟩
theorem p_F_61 : fPL "FigureLeave" 61 0 10 .int := ⟨"FigureLeave", cT_F, 12, rfl, by decide, rfl, rfl, by decide +kernel, Or.inl (gw_2 47 (by decide +kernel) (by decide +kernel))⟩
theorem l_F_64 : fFL "FigureLeave" 64 0 11 := ⟨"FigureLeave", cT_F, 12, rfl, by decide, rfl, Or.inl (gw_2 48 (by decide +kernel) (by decide +kernel))⟩
theorem p_F_64 : fPL "FigureLeave" 64 0 11 .int := ⟨"FigureLeave", cT_F, 12, rfl, by decide, rfl, rfl, by decide +kernel, Or.inl (gw_2 48 (by decide +kernel) (by decide +kernel))⟩
theorem l_F_67 : fFL "FigureLeave" 67 1 3 := ⟨"FigureLeave$House", cT_H, 6, rfl, by decide, rfl, Or.inr ⟨"FigureLeave", nw_1 161 (by decide +kernel) rfl⟩⟩
theorem l_F_71 : fFL "FigureLeave" 71 3 2 := ⟨"FigureLeave$Bills", cT_B, 5, rfl, by decide, rfl, Or.inr ⟨"FigureLeave", nw_1 72 (by decide +kernel) rfl⟩⟩
theorem k_F_76 : fML "FigureLeave" 76 M_H_begin := Or.inr ⟨"FigureLeave", nw_2 78 (by decide +kernel) rfl⟩
theorem k_F_79 : fML "FigureLeave" 79 M_F_isFigure := Or.inl (gw_2 103 (by decide +kernel) (by decide +kernel))
theorem k_F_85 : fML "FigureLeave" 85 M_F_within := Or.inl (gw_2 106 (by decide +kernel) (by decide +kernel))
theorem k_F_89 : fML "FigureLeave" 89 M_F_bad := Or.inl (gw_2 109 (by decide +kernel) (by decide +kernel))
theorem l_F_93 : fFL "FigureLeave" 93 1 0 := ⟨"FigureLeave$House", cT_H, 6, rfl, by decide, rfl, Or.inr ⟨"FigureLeave", nw_1 149 (by decide +kernel) rfl⟩⟩
theorem l_F_97 : fFL "FigureLeave" 97 1 1 := ⟨"FigureLeave$House", cT_H, 6, rfl, by decide, rfl, Or.inr ⟨"FigureLeave", nw_1 153 (by decide +kernel) rfl⟩⟩
theorem k_F_100 : fML "FigureLeave" 100 M_H_tellFigure := Or.inr ⟨"FigureLeave", nw_2 113 (by decide +kernel) rfl⟩
theorem k_F_104 : fML "FigureLeave" 104 M_F_isNumber := Or.inl (gw_2 122 (by decide +kernel) (by decide +kernel))
theorem k_F_107 : fML "FigureLeave" 107 M_F_full := Or.inl (gw_2 125 (by decide +kernel) (by decide +kernel))
theorem k_F_110 : fML "FigureLeave" 110 M_H_tellBill := Or.inr ⟨"FigureLeave", nw_2 129 (by decide +kernel) rfl⟩
theorem l_F_114 : fFL "FigureLeave" 114 9 2 := ⟨"FigureLeave$Text", cT_T, 7, rfl, by decide, rfl, Or.inr ⟨"FigureLeave", nw_2 14 (by decide +kernel) rfl⟩⟩
theorem p_F_114 : fPL "FigureLeave" 114 9 2 .int := ⟨"FigureLeave$Text", cT_T, 7, rfl, by decide, rfl, rfl, by decide +kernel, Or.inr ⟨"FigureLeave", nw_2 14 (by decide +kernel) rfl⟩⟩
theorem l_F_115 : fFL "FigureLeave" 115 9 0 := ⟨"FigureLeave$Text", cT_T, 7, rfl, by decide, rfl, Or.inr ⟨"FigureLeave", nw_2 11 (by decide +kernel) rfl⟩⟩
theorem k_F_118 : fML "FigureLeave" 118 M_T_readInto := Or.inr ⟨"FigureLeave", nw_2 149 (by decide +kernel) rfl⟩
theorem l_F_122 : fFL "FigureLeave" 122 9 4 := ⟨"FigureLeave$Text", cT_T, 7, rfl, by decide, rfl, Or.inr ⟨"FigureLeave", nw_2 17 (by decide +kernel) rfl⟩⟩
theorem k_F_125 : fML "FigureLeave" 125 M_H_become := Or.inr ⟨"FigureLeave", nw_3 58 (by decide +kernel) rfl⟩
theorem k_F_129 : fML "FigureLeave" 129 M_L_tell := Or.inr ⟨"FigureLeave", nw_3 90 (by decide +kernel) rfl⟩
theorem l_F_132 : fFL "FigureLeave" 132 1 2 := ⟨"FigureLeave$House", cT_H, 6, rfl, by decide, rfl, Or.inr ⟨"FigureLeave", nw_1 159 (by decide +kernel) rfl⟩⟩
theorem k_F_136 : fML "FigureLeave" 136 M_H_takes := Or.inr ⟨"FigureLeave", nw_3 91 (by decide +kernel) rfl⟩
theorem k_F_140 : fML "FigureLeave" 140 M_F_no := Or.inl (gw_3 95 (by decide +kernel) (by decide +kernel))
theorem k_F_143 : fML "FigureLeave" 143 M_H_remember := Or.inr ⟨"FigureLeave", nw_3 99 (by decide +kernel) rfl⟩
theorem k_F_146 : fML "FigureLeave" 146 M_H_puts := Or.inr ⟨"FigureLeave", nw_3 107 (by decide +kernel) rfl⟩
theorem k_F_149 : fML "FigureLeave" 149 M_H_costOf := Or.inr ⟨"FigureLeave", nw_3 108 (by decide +kernel) rfl⟩
theorem k_F_153 : fML "FigureLeave" 153 M_B_holds := Or.inr ⟨"FigureLeave", nw_3 116 (by decide +kernel) rfl⟩
theorem l_F_156 : fFL "FigureLeave" 156 3 0 := ⟨"FigureLeave$Bills", cT_B, 5, rfl, by decide, rfl, Or.inr ⟨"FigureLeave", nw_1 65 (by decide +kernel) rfl⟩⟩
theorem k_F_159 : fML "FigureLeave" 159 M_B_isPaid := Or.inr ⟨"FigureLeave", nw_3 120 (by decide +kernel) rfl⟩
theorem k_F_162 : fML "FigureLeave" 162 M_B_settle := Or.inr ⟨"FigureLeave", nw_3 124 (by decide +kernel) rfl⟩
theorem l_F_166 : fFL "FigureLeave" 166 3 4 := ⟨"FigureLeave$Bills", cT_B, 5, rfl, by decide, rfl, Or.inr ⟨"FigureLeave", nw_1 82 (by decide +kernel) rfl⟩⟩
theorem k_F_169 : fML "FigureLeave" 169 M_H_sleep := Or.inr ⟨"FigureLeave", nw_3 133 (by decide +kernel) rfl⟩
theorem l_F_172 : fFL "FigureLeave" 172 2 1 := ⟨"FigureLeave$Shift", cT_S, 2, rfl, by decide, rfl, Or.inr ⟨"FigureLeave", nw_1 49 (by decide +kernel) rfl⟩⟩
theorem l_F_177 : fFL "FigureLeave" 177 1 5 := ⟨"FigureLeave$House", cT_H, 6, rfl, by decide, rfl, Or.inr ⟨"FigureLeave", nw_1 168 (by decide +kernel) rfl⟩⟩
theorem l_F_181 : fFL "FigureLeave" 181 5 1 := ⟨"FigureLeave$Past", cT_P, 2, rfl, by decide, rfl, Or.inr ⟨"FigureLeave", nw_1 139 (by decide +kernel) rfl⟩⟩
theorem k_F_184 : fML "FigureLeave" 184 M_H_goBack := Or.inr ⟨"FigureLeave", nw_3 138 (by decide +kernel) rfl⟩
theorem l_F_187 : fFL "FigureLeave" 187 2 0 := ⟨"FigureLeave$Shift", cT_S, 2, rfl, by decide, rfl, Or.inr ⟨"FigureLeave", nw_1 43 (by decide +kernel) rfl⟩⟩
theorem k_F_190 : fML "FigureLeave" 190 M_H_leftOf := Or.inr ⟨"FigureLeave", nw_3 150 (by decide +kernel) rfl⟩
theorem k_F_194 : fML "FigureLeave" 194 M_I_rest := Or.inr ⟨"FigureLeave", nw_3 154 (by decide +kernel) rfl⟩
theorem l_F_198 : fFL "FigureLeave" 198 3 1 := ⟨"FigureLeave$Bills", cT_B, 5, rfl, by decide, rfl, Or.inr ⟨"FigureLeave", nw_1 68 (by decide +kernel) rfl⟩⟩
theorem k_F_201 : fML "FigureLeave" 201 M_F_isSign := Or.inl (gw_3 163 (by decide +kernel) (by decide +kernel))
theorem k_F_204 : fML "FigureLeave" 204 M_I_wear := Or.inr ⟨"FigureLeave", nw_3 166 (by decide +kernel) rfl⟩
theorem k_F_208 : fML "FigureLeave" 208 M_K_cheapest := Or.inr ⟨"FigureLeave", nw_3 179 (by decide +kernel) rfl⟩
theorem k_F_212 : fML "FigureLeave" 212 M_K_firstWithout := Or.inr ⟨"FigureLeave", nw_3 190 (by decide +kernel) rfl⟩
theorem k_F_215 : fML "FigureLeave" 215 M_K_countOn := Or.inr ⟨"FigureLeave", nw_3 202 (by decide +kernel) rfl⟩
theorem k_F_218 : fML "FigureLeave" 218 M_K_nightsTill := Or.inr ⟨"FigureLeave", nw_3 212 (by decide +kernel) rfl⟩
theorem k_F_222 : fML "FigureLeave" 222 M_K_dearestBills := Or.inr ⟨"FigureLeave", nw_3 221 (by decide +kernel) rfl⟩
theorem k_F_225 : fML "FigureLeave" 225 M_B_worthOf := Or.inr ⟨"FigureLeave", nw_3 233 (by decide +kernel) rfl⟩
theorem k_F_228 : fML "FigureLeave" 228 M_K_planDays := Or.inr ⟨"FigureLeave", nw_3 238 (by decide +kernel) rfl⟩
theorem k_F_231 : fML "FigureLeave" 231 M_K_plannedDay := Or.inr ⟨"FigureLeave", nw_4 12 (by decide +kernel) rfl⟩
theorem k_F_234 : fML "FigureLeave" 234 M_K_mostWanted := Or.inr ⟨"FigureLeave", nw_4 20 (by decide +kernel) rfl⟩
theorem k_F_237 : fML "FigureLeave" 237 M_K_numbersWith := Or.inr ⟨"FigureLeave", nw_4 29 (by decide +kernel) rfl⟩
theorem l_F_240 : fFL "FigureLeave" 240 1 4 := ⟨"FigureLeave$House", cT_H, 6, rfl, by decide, rfl, Or.inr ⟨"FigureLeave", nw_1 166 (by decide +kernel) rfl⟩⟩
theorem l_F_244 : fFL "FigureLeave" 244 4 2 := ⟨"FigureLeave$Clues", cT_C, 8, rfl, by decide, rfl, Or.inr ⟨"FigureLeave", nw_1 106 (by decide +kernel) rfl⟩⟩
theorem k_F_249 : fML "FigureLeave" 249 M_C_addTrace := Or.inr ⟨"FigureLeave", nw_4 34 (by decide +kernel) rfl⟩
theorem k_F_252 : fML "FigureLeave" 252 M_U_howManyLines := Or.inr ⟨"FigureLeave", nw_4 42 (by decide +kernel) rfl⟩
theorem k_F_255 : fML "FigureLeave" 255 M_U_lineAt := Or.inr ⟨"FigureLeave", nw_4 56 (by decide +kernel) rfl⟩
theorem l_F_258 : fFL "FigureLeave" 258 4 7 := ⟨"FigureLeave$Clues", cT_C, 8, rfl, by decide, rfl, Or.inr ⟨"FigureLeave", nw_1 112 (by decide +kernel) rfl⟩⟩
theorem k_F_261 : fML "FigureLeave" 261 M_C_addNote := Or.inr ⟨"FigureLeave", nw_4 64 (by decide +kernel) rfl⟩
theorem k_F_265 : fML "FigureLeave" 265 M_C_dropTraces := Or.inr ⟨"FigureLeave", nw_4 72 (by decide +kernel) rfl⟩
theorem k_F_268 : fML "FigureLeave" 268 M_C_dropNotes := Or.inr ⟨"FigureLeave", nw_4 73 (by decide +kernel) rfl⟩
theorem k_F_271 : fML "FigureLeave" 271 M_C_kindsOf := Or.inr ⟨"FigureLeave", nw_4 78 (by decide +kernel) rfl⟩
theorem k_F_274 : fML "FigureLeave" 274 M_U_nextLook := Or.inr ⟨"FigureLeave", nw_4 91 (by decide +kernel) rfl⟩
theorem k_F_277 : fML "FigureLeave" 277 M_K_restingPairs := Or.inr ⟨"FigureLeave", nw_4 104 (by decide +kernel) rfl⟩
theorem l_F_280 : fFL "FigureLeave" 280 6 1 := ⟨"FigureLeave$Line", cT_L, 2, rfl, by decide, rfl, Or.inr ⟨"FigureLeave", nw_1 203 (by decide +kernel) rfl⟩⟩
theorem k_F_281 : fML "FigureLeave" 281 M_K_luckyWays := Or.inr ⟨"FigureLeave", nw_4 116 (by decide +kernel) rfl⟩
theorem k_F_285 : fML "FigureLeave" 285 M_F_setFraction := Or.inl (gw_4 130 (by decide +kernel) (by decide +kernel))
theorem o_F_288 : Cond.constant "FigureLeave" 288 999999 ∈ gw := gw_4 138 (by decide +kernel) (by decide +kernel)
theorem k_F_289 : fML "FigureLeave" 289 M_K_writtenBySeed := Or.inr ⟨"FigureLeave", nw_4 139 (by decide +kernel) rfl⟩
theorem k_F_292 : fML "FigureLeave" 292 M_F_howMany := Or.inl (gw_4 168 (by decide +kernel) (by decide +kernel))
theorem o_F_295 : Cond.constantLong "FigureLeave" 295 1493 ∈ gw := gw_4 180 (by decide +kernel) (by decide +kernel)
theorem o_F_297 : Cond.constantLong "FigureLeave" 297 31 ∈ gw := gw_4 181 (by decide +kernel) (by decide +kernel)
theorem k_F_299 : fML "FigureLeave" 299 M_H_mixInto := Or.inr ⟨"FigureLeave", nw_4 182 (by decide +kernel) rfl⟩
theorem l_F_303 : fFL "FigureLeave" 303 3 3 := ⟨"FigureLeave$Bills", cT_B, 5, rfl, by decide, rfl, Or.inr ⟨"FigureLeave", nw_1 79 (by decide +kernel) rfl⟩⟩
theorem k_F_306 : fML "FigureLeave" 306 M_S_wornTogether := Or.inr ⟨"FigureLeave", nw_4 172 (by decide +kernel) rfl⟩
theorem k_B_3 : Cond.methodLink "FigureLeave$Bills" 3 objectInit ∈ gw := gw_1 62 (by decide +kernel) (by decide +kernel)
theorem l_B_9 : fFL "FigureLeave$Bills" 9 3 0 := ⟨"FigureLeave$Bills", cT_B, 5, rfl, by decide, rfl, Or.inl (gw_1 63 (by decide +kernel) (by decide +kernel))⟩
theorem q_B_9 : fPF "FigureLeave$Bills" 9 3 0 (.array .int) := ⟨"FigureLeave$Bills", cT_B, 5, rfl, by decide, rfl, rfl, rfl, by decide +kernel, gw_1 63 (by decide +kernel) (by decide +kernel)⟩
theorem l_B_15 : fFL "FigureLeave$Bills" 15 3 1 := ⟨"FigureLeave$Bills", cT_B, 5, rfl, by decide, rfl, Or.inl (gw_1 67 (by decide +kernel) (by decide +kernel))⟩
theorem q_B_15 : fPF "FigureLeave$Bills" 15 3 1 (.array .int) := ⟨"FigureLeave$Bills", cT_B, 5, rfl, by decide, rfl, rfl, rfl, by decide +kernel, gw_1 67 (by decide +kernel) (by decide +kernel)⟩
theorem l_B_18 : fFL "FigureLeave$Bills" 18 3 2 := ⟨"FigureLeave$Bills", cT_B, 5, rfl, by decide, rfl, Or.inl (gw_1 71 (by decide +kernel) (by decide +kernel))⟩
theorem p_B_18 : fPL "FigureLeave$Bills" 18 3 2 .int := ⟨"FigureLeave$Bills", cT_B, 5, rfl, by decide, rfl, rfl, by decide +kernel, Or.inl (gw_1 71 (by decide +kernel) (by decide +kernel))⟩
theorem l_B_22 : fFL "FigureLeave$Bills" 22 3 3 := ⟨"FigureLeave$Bills", cT_B, 5, rfl, by decide, rfl, Or.inl (gw_1 76 (by decide +kernel) (by decide +kernel))⟩
theorem p_B_22 : fPL "FigureLeave$Bills" 22 3 3 .int := ⟨"FigureLeave$Bills", cT_B, 5, rfl, by decide, rfl, rfl, by decide +kernel, Or.inl (gw_1 76 (by decide +kernel) (by decide +kernel))⟩
theorem l_B_25 : fFL "FigureLeave$Bills" 25 3 4 := ⟨"FigureLeave$Bills", cT_B, 5, rfl, by decide, rfl, Or.inl (gw_1 80 (by decide +kernel) (by decide +kernel))⟩
theorem p_B_25 : fPL "FigureLeave$Bills" 25 3 4 .int := ⟨"FigureLeave$Bills", cT_B, 5, rfl, by decide, rfl, rfl, by decide +kernel, Or.inl (gw_1 80 (by decide +kernel) (by decide +kernel))⟩
theorem k_B_28 : Cond.methodLink "FigureLeave$Bills" 28 arraycopyName ∈ gw := gw_3 74 (by decide +kernel) (by decide +kernel)
theorem k_B_34 : fML "FigureLeave$Bills" 34 M_B_holds := Or.inl (gw_3 128 (by decide +kernel) (by decide +kernel))
theorem k_K_3 : Cond.methodLink "FigureLeave$Clerk" 3 objectInit ∈ gw := gw_1 188 (by decide +kernel) (by decide +kernel)
theorem n_K_9 : fNW "FigureLeave$Clerk" 9 6 [.null, .int 0] 2 := ⟨"FigureLeave$Line", cT_L, cy_L, rfl, gw_1 189 (by decide +kernel) (by decide +kernel), gw_1 190 (by decide +kernel) (by decide +kernel), gw_1 9 (by decide +kernel) (by decide +kernel), cp_L, by decide +kernel, fun _ => rfl⟩
theorem k_K_11 : fML "FigureLeave$Clerk" 11 M_L_init := Or.inr ⟨"FigureLeave", nw_1 191 (by decide +kernel) rfl⟩
theorem l_K_12 : fFL "FigureLeave$Clerk" 12 7 0 := ⟨"FigureLeave$Clerk", cT_K, 6, rfl, by decide, rfl, Or.inl (gw_1 211 (by decide +kernel) (by decide +kernel))⟩
theorem q_K_12 : fPF "FigureLeave$Clerk" 12 7 0 (.object "FigureLeave$Line") := ⟨"FigureLeave$Clerk", cT_K, 6, rfl, by decide, rfl, rfl, rfl, by decide +kernel, gw_1 211 (by decide +kernel) (by decide +kernel)⟩
theorem n_K_18 : fNW "FigureLeave$Clerk" 18 2 [.null, .int 0] 2 := ⟨"FigureLeave$Shift", cT_S, cy_S, rfl, gw_1 209 (by decide +kernel) (by decide +kernel), gw_1 35 (by decide +kernel) (by decide +kernel), gw_1 3 (by decide +kernel) (by decide +kernel), cp_S, by decide +kernel, fun _ => rfl⟩
theorem k_K_20 : fML "FigureLeave$Clerk" 20 M_S_init := Or.inr ⟨"FigureLeave", nw_1 210 (by decide +kernel) rfl⟩
theorem l_K_21 : fFL "FigureLeave$Clerk" 21 7 1 := ⟨"FigureLeave$Clerk", cT_K, 6, rfl, by decide, rfl, Or.inl (gw_1 212 (by decide +kernel) (by decide +kernel))⟩
theorem q_K_21 : fPF "FigureLeave$Clerk" 21 7 1 (.object "FigureLeave$Shift") := ⟨"FigureLeave$Clerk", cT_K, 6, rfl, by decide, rfl, rfl, rfl, by decide +kernel, gw_1 212 (by decide +kernel) (by decide +kernel)⟩
theorem l_K_25 : fFL "FigureLeave$Clerk" 25 7 2 := ⟨"FigureLeave$Clerk", cT_K, 6, rfl, by decide, rfl, Or.inl (gw_1 213 (by decide +kernel) (by decide +kernel))⟩
theorem q_K_25 : fPF "FigureLeave$Clerk" 25 7 2 (.array .int) := ⟨"FigureLeave$Clerk", cT_K, 6, rfl, by decide, rfl, rfl, rfl, by decide +kernel, gw_1 213 (by decide +kernel) (by decide +kernel)⟩
theorem l_K_29 : fFL "FigureLeave$Clerk" 29 7 3 := ⟨"FigureLeave$Clerk", cT_K, 6, rfl, by decide, rfl, Or.inl (gw_1 214 (by decide +kernel) (by decide +kernel))⟩
theorem q_K_29 : fPF "FigureLeave$Clerk" 29 7 3 (.array .int) := ⟨"FigureLeave$Clerk", cT_K, 6, rfl, by decide, rfl, rfl, rfl, by decide +kernel, gw_1 214 (by decide +kernel) (by decide +kernel)⟩
theorem l_K_32 : fFL "FigureLeave$Clerk" 32 7 4 := ⟨"FigureLeave$Clerk", cT_K, 6, rfl, by decide, rfl, Or.inl (gw_1 215 (by decide +kernel) (by decide +kernel))⟩
theorem p_K_32 : fPL "FigureLeave$Clerk" 32 7 4 .int := ⟨"FigureLeave$Clerk", cT_K, 6, rfl, by decide, rfl, rfl, by decide +kernel, Or.inl (gw_1 215 (by decide +kernel) (by decide +kernel))⟩
theorem l_K_36 : fFL "FigureLeave$Clerk" 36 7 5 := ⟨"FigureLeave$Clerk", cT_K, 6, rfl, by decide, rfl, Or.inl (gw_1 216 (by decide +kernel) (by decide +kernel))⟩
theorem p_K_36 : fPL "FigureLeave$Clerk" 36 7 5 .int := ⟨"FigureLeave$Clerk", cT_K, 6, rfl, by decide, rfl, rfl, by decide +kernel, Or.inl (gw_1 216 (by decide +kernel) (by decide +kernel))⟩
theorem k_K_39 : fML "FigureLeave$Clerk" 39 M_L_tell := Or.inr ⟨"FigureLeave", nw_3 183 (by decide +kernel) rfl⟩
theorem k_K_43 : fML "FigureLeave$Clerk" 43 M_H_costOf := Or.inr ⟨"FigureLeave", nw_3 184 (by decide +kernel) rfl⟩
theorem l_K_49 : fFL "FigureLeave$Clerk" 49 1 2 := ⟨"FigureLeave$House", cT_H, 6, rfl, by decide, rfl, Or.inr ⟨"FigureLeave", nw_1 156 (by decide +kernel) rfl⟩⟩
theorem k_K_52 : fML "FigureLeave$Clerk" 52 M_H_takes := Or.inr ⟨"FigureLeave", nw_3 185 (by decide +kernel) rfl⟩
theorem k_K_56 : fML "FigureLeave$Clerk" 56 M_K_byAny := Or.inl (gw_3 194 (by decide +kernel) (by decide +kernel))
theorem k_K_60 : fML "FigureLeave$Clerk" 60 M_S_become := Or.inr ⟨"FigureLeave", nw_3 206 (by decide +kernel) rfl⟩
theorem k_K_64 : fML "FigureLeave$Clerk" 64 M_H_puts := Or.inr ⟨"FigureLeave", nw_3 207 (by decide +kernel) rfl⟩
theorem k_K_67 : fML "FigureLeave$Clerk" 67 M_H_rests := Or.inr ⟨"FigureLeave", nw_3 216 (by decide +kernel) rfl⟩
theorem l_K_70 : fFL "FigureLeave$Clerk" 70 1 3 := ⟨"FigureLeave$House", cT_H, 6, rfl, by decide, rfl, Or.inr ⟨"FigureLeave", nw_1 163 (by decide +kernel) rfl⟩⟩
theorem l_K_74 : fFL "FigureLeave$Clerk" 74 3 2 := ⟨"FigureLeave$Bills", cT_B, 5, rfl, by decide, rfl, Or.inr ⟨"FigureLeave", nw_1 74 (by decide +kernel) rfl⟩⟩
theorem l_K_79 : fFL "FigureLeave$Clerk" 79 3 3 := ⟨"FigureLeave$Bills", cT_B, 5, rfl, by decide, rfl, Or.inr ⟨"FigureLeave", nw_1 78 (by decide +kernel) rfl⟩⟩
theorem k_K_82 : fML "FigureLeave$Clerk" 82 M_B_worthOf := Or.inr ⟨"FigureLeave", nw_3 225 (by decide +kernel) rfl⟩
theorem k_K_86 : fML "FigureLeave$Clerk" 86 M_K_goTogether := Or.inl (gw_3 229 (by decide +kernel) (by decide +kernel))
theorem l_K_89 : fFL "FigureLeave$Clerk" 89 3 0 := ⟨"FigureLeave$Bills", cT_B, 5, rfl, by decide, rfl, Or.inr ⟨"FigureLeave", nw_1 64 (by decide +kernel) rfl⟩⟩
theorem k_K_92 : fML "FigureLeave$Clerk" 92 M_B_isPaid := Or.inr ⟨"FigureLeave", nw_4 2 (by decide +kernel) rfl⟩
theorem k_K_96 : fML "FigureLeave$Clerk" 96 M_K_planWithin := Or.inl (gw_4 3 (by decide +kernel) (by decide +kernel))
theorem o_K_99 : Cond.constant "FigureLeave$Clerk" 99 1000000 ∈ gw := gw_4 7 (by decide +kernel) (by decide +kernel)
theorem k_K_100 : fML "FigureLeave$Clerk" 100 M_K_holdsSoFar := Or.inl (gw_4 8 (by decide +kernel) (by decide +kernel))
theorem k_K_104 : fML "FigureLeave$Clerk" 104 M_K_numbersWith := Or.inl (gw_4 24 (by decide +kernel) (by decide +kernel))
theorem k_K_108 : fML "FigureLeave$Clerk" 108 M_F_isFigure := Or.inr ⟨"FigureLeave", nw_4 28 (by decide +kernel) rfl⟩
theorem l_K_111 : fFL "FigureLeave$Clerk" 111 1 1 := ⟨"FigureLeave$House", cT_H, 6, rfl, by decide, rfl, Or.inr ⟨"FigureLeave", nw_1 154 (by decide +kernel) rfl⟩⟩
theorem k_K_114 : fML "FigureLeave$Clerk" 114 M_K_gain := Or.inl (gw_4 108 (by decide +kernel) (by decide +kernel))
theorem l_K_118 : fFL "FigureLeave$Clerk" 118 3 1 := ⟨"FigureLeave$Bills", cT_B, 5, rfl, by decide, rfl, Or.inr ⟨"FigureLeave", nw_1 69 (by decide +kernel) rfl⟩⟩
theorem l_K_121 : fFL "FigureLeave$Clerk" 121 6 1 := ⟨"FigureLeave$Line", cT_L, 2, rfl, by decide, rfl, Or.inr ⟨"FigureLeave", nw_1 202 (by decide +kernel) rfl⟩⟩
theorem k_K_122 : fML "FigureLeave$Clerk" 122 M_K_bearsFree := Or.inl (gw_4 120 (by decide +kernel) (by decide +kernel))
theorem k_K_126 : fML "FigureLeave$Clerk" 126 M_K_waysOf := Or.inl (gw_4 126 (by decide +kernel) (by decide +kernel))
theorem l_K_130 : fFL "FigureLeave$Clerk" 130 6 0 := ⟨"FigureLeave$Line", cT_L, 2, rfl, by decide, rfl, Or.inr ⟨"FigureLeave", nw_1 198 (by decide +kernel) rfl⟩⟩
theorem l_K_133 : fFL "FigureLeave$Clerk" 133 2 0 := ⟨"FigureLeave$Shift", cT_S, 2, rfl, by decide, rfl, Or.inr ⟨"FigureLeave", nw_1 44 (by decide +kernel) rfl⟩⟩
theorem l_K_136 : fFL "FigureLeave$Clerk" 136 1 0 := ⟨"FigureLeave$House", cT_H, 6, rfl, by decide, rfl, Or.inr ⟨"FigureLeave", nw_1 151 (by decide +kernel) rfl⟩⟩
theorem l_K_139 : fFL "FigureLeave$Clerk" 139 2 1 := ⟨"FigureLeave$Shift", cT_S, 2, rfl, by decide, rfl, Or.inr ⟨"FigureLeave", nw_1 50 (by decide +kernel) rfl⟩⟩
theorem k_K_142 : fML "FigureLeave$Clerk" 142 M_I_wear := Or.inr ⟨"FigureLeave", nw_4 124 (by decide +kernel) rfl⟩
theorem k_K_147 : fML "FigureLeave$Clerk" 147 M_H_bears := Or.inr ⟨"FigureLeave", nw_4 125 (by decide +kernel) rfl⟩
theorem o_K_150 : Cond.constantLong "FigureLeave$Clerk" 150 1103515245 ∈ gw := gw_4 143 (by decide +kernel) (by decide +kernel)
theorem o_K_152 : Cond.constantLong "FigureLeave$Clerk" 152 12345 ∈ gw := gw_4 144 (by decide +kernel) (by decide +kernel)
theorem o_K_154 : Cond.constantLong "FigureLeave$Clerk" 154 2147483648 ∈ gw := gw_4 145 (by decide +kernel) (by decide +kernel)
theorem o_K_156 : Cond.constantLong "FigureLeave$Clerk" 156 65536 ∈ gw := gw_4 146 (by decide +kernel) (by decide +kernel)
theorem o_K_158 : Cond.constantLong "FigureLeave$Clerk" 158 100 ∈ gw := gw_4 147 (by decide +kernel) (by decide +kernel)
theorem k_C_3 : Cond.methodLink "FigureLeave$Clues" 3 objectInit ∈ gw := gw_1 99 (by decide +kernel) (by decide +kernel)
theorem l_C_9 : fFL "FigureLeave$Clues" 9 4 0 := ⟨"FigureLeave$Clues", cT_C, 8, rfl, by decide, rfl, Or.inl (gw_1 100 (by decide +kernel) (by decide +kernel))⟩
theorem q_C_9 : fPF "FigureLeave$Clues" 9 4 0 (.array .int) := ⟨"FigureLeave$Clues", cT_C, 8, rfl, by decide, rfl, rfl, rfl, by decide +kernel, gw_1 100 (by decide +kernel) (by decide +kernel)⟩
theorem l_C_15 : fFL "FigureLeave$Clues" 15 4 1 := ⟨"FigureLeave$Clues", cT_C, 8, rfl, by decide, rfl, Or.inl (gw_1 102 (by decide +kernel) (by decide +kernel))⟩
theorem q_C_15 : fPF "FigureLeave$Clues" 15 4 1 (.array .int) := ⟨"FigureLeave$Clues", cT_C, 8, rfl, by decide, rfl, rfl, rfl, by decide +kernel, gw_1 102 (by decide +kernel) (by decide +kernel)⟩
theorem l_C_18 : fFL "FigureLeave$Clues" 18 4 2 := ⟨"FigureLeave$Clues", cT_C, 8, rfl, by decide, rfl, Or.inl (gw_1 104 (by decide +kernel) (by decide +kernel))⟩
theorem p_C_18 : fPL "FigureLeave$Clues" 18 4 2 .int := ⟨"FigureLeave$Clues", cT_C, 8, rfl, by decide, rfl, rfl, by decide +kernel, Or.inl (gw_1 104 (by decide +kernel) (by decide +kernel))⟩
theorem l_C_22 : fFL "FigureLeave$Clues" 22 4 3 := ⟨"FigureLeave$Clues", cT_C, 8, rfl, by decide, rfl, Or.inl (gw_1 107 (by decide +kernel) (by decide +kernel))⟩
theorem q_C_22 : fPF "FigureLeave$Clues" 22 4 3 (.array .int) := ⟨"FigureLeave$Clues", cT_C, 8, rfl, by decide, rfl, rfl, rfl, by decide +kernel, gw_1 107 (by decide +kernel) (by decide +kernel)⟩
theorem l_C_25 : fFL "FigureLeave$Clues" 25 4 4 := ⟨"FigureLeave$Clues", cT_C, 8, rfl, by decide, rfl, Or.inl (gw_1 108 (by decide +kernel) (by decide +kernel))⟩
theorem q_C_25 : fPF "FigureLeave$Clues" 25 4 4 (.array .int) := ⟨"FigureLeave$Clues", cT_C, 8, rfl, by decide, rfl, rfl, rfl, by decide +kernel, gw_1 108 (by decide +kernel) (by decide +kernel)⟩
theorem l_C_28 : fFL "FigureLeave$Clues" 28 4 5 := ⟨"FigureLeave$Clues", cT_C, 8, rfl, by decide, rfl, Or.inl (gw_1 109 (by decide +kernel) (by decide +kernel))⟩
theorem q_C_28 : fPF "FigureLeave$Clues" 28 4 5 (.array .int) := ⟨"FigureLeave$Clues", cT_C, 8, rfl, by decide, rfl, rfl, rfl, by decide +kernel, gw_1 109 (by decide +kernel) (by decide +kernel)⟩
theorem l_C_31 : fFL "FigureLeave$Clues" 31 4 6 := ⟨"FigureLeave$Clues", cT_C, 8, rfl, by decide, rfl, Or.inl (gw_1 110 (by decide +kernel) (by decide +kernel))⟩
theorem q_C_31 : fPF "FigureLeave$Clues" 31 4 6 (.array .int) := ⟨"FigureLeave$Clues", cT_C, 8, rfl, by decide, rfl, rfl, rfl, by decide +kernel, gw_1 110 (by decide +kernel) (by decide +kernel)⟩
theorem l_C_34 : fFL "FigureLeave$Clues" 34 4 7 := ⟨"FigureLeave$Clues", cT_C, 8, rfl, by decide, rfl, Or.inl (gw_1 111 (by decide +kernel) (by decide +kernel))⟩
theorem p_C_34 : fPL "FigureLeave$Clues" 34 4 7 .int := ⟨"FigureLeave$Clues", cT_C, 8, rfl, by decide, rfl, rfl, by decide +kernel, Or.inl (gw_1 111 (by decide +kernel) (by decide +kernel))⟩
theorem k_C_37 : Cond.methodLink "FigureLeave$Clues" 37 arraycopyName ∈ gw := gw_3 79 (by decide +kernel) (by decide +kernel)
theorem k_C_45 : fML "FigureLeave$Clues" 45 M_C_mayBe := Or.inl (gw_4 82 (by decide +kernel) (by decide +kernel))
theorem k_C_49 : fML "FigureLeave$Clues" 49 M_I_wear := Or.inr ⟨"FigureLeave", nw_4 86 (by decide +kernel) rfl⟩
theorem o_C_53 : Cond.constantLong "FigureLeave$Clues" 53 31 ∈ gw := gw_4 191 (by decide +kernel) (by decide +kernel)
theorem k_H_3 : Cond.methodLink "FigureLeave$House" 3 objectInit ∈ gw := gw_1 33 (by decide +kernel) (by decide +kernel)
theorem l_H_9 : fFL "FigureLeave$House" 9 1 0 := ⟨"FigureLeave$House", cT_H, 6, rfl, by decide, rfl, Or.inl (gw_1 148 (by decide +kernel) (by decide +kernel))⟩
theorem q_H_9 : fPF "FigureLeave$House" 9 1 0 (.array .int) := ⟨"FigureLeave$House", cT_H, 6, rfl, by decide, rfl, rfl, rfl, by decide +kernel, gw_1 148 (by decide +kernel) (by decide +kernel)⟩
theorem l_H_15 : fFL "FigureLeave$House" 15 1 1 := ⟨"FigureLeave$House", cT_H, 6, rfl, by decide, rfl, Or.inl (gw_1 152 (by decide +kernel) (by decide +kernel))⟩
theorem q_H_15 : fPF "FigureLeave$House" 15 1 1 (.array .int) := ⟨"FigureLeave$House", cT_H, 6, rfl, by decide, rfl, rfl, rfl, by decide +kernel, gw_1 152 (by decide +kernel) (by decide +kernel)⟩
theorem n_H_18 : fNW "FigureLeave$House" 18 2 [.null, .int 0] 2 := ⟨"FigureLeave$Shift", cT_S, cy_S, rfl, gw_1 34 (by decide +kernel) (by decide +kernel), gw_1 35 (by decide +kernel) (by decide +kernel), gw_1 3 (by decide +kernel) (by decide +kernel), cp_S, by decide +kernel, fun _ => rfl⟩
theorem k_H_20 : fML "FigureLeave$House" 20 M_S_init := Or.inr ⟨"FigureLeave", nw_1 36 (by decide +kernel) rfl⟩
theorem l_H_21 : fFL "FigureLeave$House" 21 1 2 := ⟨"FigureLeave$House", cT_H, 6, rfl, by decide, rfl, Or.inl (gw_1 155 (by decide +kernel) (by decide +kernel))⟩
theorem q_H_21 : fPF "FigureLeave$House" 21 1 2 (.object "FigureLeave$Shift") := ⟨"FigureLeave$House", cT_H, 6, rfl, by decide, rfl, rfl, rfl, by decide +kernel, gw_1 155 (by decide +kernel) (by decide +kernel)⟩
theorem n_H_25 : fNW "FigureLeave$House" 25 3 [.null, .null, .int 0, .int 0, .int 0] 5 := ⟨"FigureLeave$Bills", cT_B, cy_B, rfl, gw_1 57 (by decide +kernel) (by decide +kernel), gw_1 58 (by decide +kernel) (by decide +kernel), gw_1 4 (by decide +kernel) (by decide +kernel), cp_B, by decide +kernel, fun _ => rfl⟩
theorem k_H_27 : fML "FigureLeave$House" 27 M_B_init := Or.inr ⟨"FigureLeave", nw_1 59 (by decide +kernel) rfl⟩
theorem l_H_28 : fFL "FigureLeave$House" 28 1 3 := ⟨"FigureLeave$House", cT_H, 6, rfl, by decide, rfl, Or.inl (gw_1 160 (by decide +kernel) (by decide +kernel))⟩
theorem q_H_28 : fPF "FigureLeave$House" 28 1 3 (.object "FigureLeave$Bills") := ⟨"FigureLeave$House", cT_H, 6, rfl, by decide, rfl, rfl, rfl, by decide +kernel, gw_1 160 (by decide +kernel) (by decide +kernel)⟩
theorem n_H_32 : fNW "FigureLeave$House" 32 4 [.null, .null, .int 0, .null, .null, .null, .null, .int 0] 8 := ⟨"FigureLeave$Clues", cT_C, cy_C, rfl, gw_1 94 (by decide +kernel) (by decide +kernel), gw_1 95 (by decide +kernel) (by decide +kernel), gw_1 5 (by decide +kernel) (by decide +kernel), cp_C, by decide +kernel, fun _ => rfl⟩
theorem k_H_34 : fML "FigureLeave$House" 34 M_C_init := Or.inr ⟨"FigureLeave", nw_1 96 (by decide +kernel) rfl⟩
theorem l_H_35 : fFL "FigureLeave$House" 35 1 4 := ⟨"FigureLeave$House", cT_H, 6, rfl, by decide, rfl, Or.inl (gw_1 164 (by decide +kernel) (by decide +kernel))⟩
theorem q_H_35 : fPF "FigureLeave$House" 35 1 4 (.object "FigureLeave$Clues") := ⟨"FigureLeave$House", cT_H, 6, rfl, by decide, rfl, rfl, rfl, by decide +kernel, gw_1 164 (by decide +kernel) (by decide +kernel)⟩
theorem n_H_39 : fNW "FigureLeave$House" 39 5 [.null, .int 0] 2 := ⟨"FigureLeave$Past", cT_P, cy_P, rfl, gw_1 130 (by decide +kernel) (by decide +kernel), gw_1 131 (by decide +kernel) (by decide +kernel), gw_1 6 (by decide +kernel) (by decide +kernel), cp_P, by decide +kernel, fun _ => rfl⟩
theorem k_H_41 : fML "FigureLeave$House" 41 M_P_init := Or.inr ⟨"FigureLeave", nw_1 132 (by decide +kernel) rfl⟩
theorem l_H_42 : fFL "FigureLeave$House" 42 1 5 := ⟨"FigureLeave$House", cT_H, 6, rfl, by decide, rfl, Or.inl (gw_1 167 (by decide +kernel) (by decide +kernel))⟩
theorem q_H_42 : fPF "FigureLeave$House" 42 1 5 (.object "FigureLeave$Past") := ⟨"FigureLeave$House", cT_H, 6, rfl, by decide, rfl, rfl, rfl, by decide +kernel, gw_1 167 (by decide +kernel) (by decide +kernel)⟩
theorem k_H_46 : fML "FigureLeave$House" 46 M_A_fill := Or.inl (gw_1 145 (by decide +kernel) (by decide +kernel))
theorem k_H_52 : fML "FigureLeave$House" 52 M_S_begin := Or.inr ⟨"FigureLeave", nw_2 82 (by decide +kernel) rfl⟩
theorem k_H_55 : fML "FigureLeave$House" 55 M_B_begin := Or.inr ⟨"FigureLeave", nw_2 87 (by decide +kernel) rfl⟩
theorem k_H_56 : fML "FigureLeave$House" 56 M_C_dropTraces := Or.inr ⟨"FigureLeave", nw_2 91 (by decide +kernel) rfl⟩
theorem k_H_60 : fML "FigureLeave$House" 60 M_C_dropNotes := Or.inr ⟨"FigureLeave", nw_2 95 (by decide +kernel) rfl⟩
theorem p_H_63 : fPL "FigureLeave$House" 63 5 1 .int := ⟨"FigureLeave$Past", cT_P, 2, rfl, by decide, rfl, rfl, by decide +kernel, Or.inr ⟨"FigureLeave", nw_1 138 (by decide +kernel) rfl⟩⟩
theorem k_H_67 : Cond.methodLink "FigureLeave$House" 67 arraycopyName ∈ gw := gw_3 62 (by decide +kernel) (by decide +kernel)
theorem k_H_73 : fML "FigureLeave$House" 73 M_S_become := Or.inr ⟨"FigureLeave", nw_3 65 (by decide +kernel) rfl⟩
theorem k_H_77 : fML "FigureLeave$House" 77 M_B_become := Or.inr ⟨"FigureLeave", nw_3 70 (by decide +kernel) rfl⟩
theorem k_H_80 : fML "FigureLeave$House" 80 M_C_become := Or.inr ⟨"FigureLeave", nw_3 75 (by decide +kernel) rfl⟩
theorem k_H_83 : fML "FigureLeave$House" 83 M_P_become := Or.inr ⟨"FigureLeave", nw_3 80 (by decide +kernel) rfl⟩
theorem k_H_86 : fML "FigureLeave$House" 86 M_F_isFigure := Or.inr ⟨"FigureLeave", nw_2 117 (by decide +kernel) rfl⟩
theorem k_H_90 : fML "FigureLeave$House" 90 M_B_add := Or.inr ⟨"FigureLeave", nw_2 133 (by decide +kernel) rfl⟩
theorem k_H_94 : fML "FigureLeave$House" 94 M_P_push := Or.inr ⟨"FigureLeave", nw_3 103 (by decide +kernel) rfl⟩
theorem k_H_98 : fML "FigureLeave$House" 98 M_P_pop := Or.inr ⟨"FigureLeave", nw_3 142 (by decide +kernel) rfl⟩
theorem k_H_101 : fML "FigureLeave$House" 101 M_H_rests := Or.inl (gw_3 40 (by decide +kernel) (by decide +kernel))
theorem l_H_104 : fFL "FigureLeave$House" 104 2 1 := ⟨"FigureLeave$Shift", cT_S, 2, rfl, by decide, rfl, Or.inr ⟨"FigureLeave", nw_1 48 (by decide +kernel) rfl⟩⟩
theorem p_H_104 : fPL "FigureLeave$House" 104 2 1 .int := ⟨"FigureLeave$Shift", cT_S, 2, rfl, by decide, rfl, rfl, by decide +kernel, Or.inr ⟨"FigureLeave", nw_1 48 (by decide +kernel) rfl⟩⟩
theorem k_H_107 : Cond.methodLink "FigureLeave$House" 107 Lib.Math.min.name ∈ gw := gw_3 53 (by decide +kernel) (by decide +kernel)
theorem l_H_113 : fFL "FigureLeave$House" 113 2 0 := ⟨"FigureLeave$Shift", cT_S, 2, rfl, by decide, rfl, Or.inr ⟨"FigureLeave", nw_1 42 (by decide +kernel) rfl⟩⟩
theorem k_H_116 : fML "FigureLeave$House" 116 M_I_rest := Or.inr ⟨"FigureLeave", nw_3 44 (by decide +kernel) rfl⟩
theorem k_H_121 : Cond.methodLink "FigureLeave$House" 121 Lib.Math.max.name ∈ gw := gw_3 50 (by decide +kernel) (by decide +kernel)
theorem l_H_124 : fFL "FigureLeave$House" 124 6 1 := ⟨"FigureLeave$Line", cT_L, 2, rfl, by decide, rfl, Or.inr ⟨"FigureLeave", nw_1 201 (by decide +kernel) rfl⟩⟩
theorem l_H_127 : fFL "FigureLeave$House" 127 6 0 := ⟨"FigureLeave$Line", cT_L, 2, rfl, by decide, rfl, Or.inr ⟨"FigureLeave", nw_1 197 (by decide +kernel) rfl⟩⟩
theorem k_H_130 : fML "FigureLeave$House" 130 M_I_wear := Or.inr ⟨"FigureLeave", nw_3 24 (by decide +kernel) rfl⟩
theorem k_H_134 : fML "FigureLeave$House" 134 M_H_wearBy := Or.inl (gw_3 20 (by decide +kernel) (by decide +kernel))
theorem k_H_138 : fML "FigureLeave$House" 138 M_H_bears := Or.inl (gw_3 27 (by decide +kernel) (by decide +kernel))
theorem o_H_142 : Cond.constantLong "FigureLeave$House" 142 31 ∈ gw := gw_4 186 (by decide +kernel) (by decide +kernel)
theorem l_H_144 : fFL "FigureLeave$House" 144 3 2 := ⟨"FigureLeave$Bills", cT_B, 5, rfl, by decide, rfl, Or.inr ⟨"FigureLeave", nw_1 75 (by decide +kernel) rfl⟩⟩
theorem l_H_145 : fFL "FigureLeave$House" 145 3 0 := ⟨"FigureLeave$Bills", cT_B, 5, rfl, by decide, rfl, Or.inr ⟨"FigureLeave", nw_1 66 (by decide +kernel) rfl⟩⟩
theorem l_H_148 : fFL "FigureLeave$House" 148 3 1 := ⟨"FigureLeave$Bills", cT_B, 5, rfl, by decide, rfl, Or.inr ⟨"FigureLeave", nw_1 70 (by decide +kernel) rfl⟩⟩
theorem k_H_151 : fML "FigureLeave$House" 151 M_C_mixInto := Or.inr ⟨"FigureLeave", nw_4 187 (by decide +kernel) rfl⟩
theorem k_I_9 : Cond.methodLink "FigureLeave$Kind" 9 Lib.Math.min.name ∈ gw := gw_3 47 (by decide +kernel) (by decide +kernel)
theorem k_L_3 : Cond.methodLink "FigureLeave$Line" 3 objectInit ∈ gw := gw_1 194 (by decide +kernel) (by decide +kernel)
theorem l_L_9 : fFL "FigureLeave$Line" 9 6 0 := ⟨"FigureLeave$Line", cT_L, 2, rfl, by decide, rfl, Or.inl (gw_1 195 (by decide +kernel) (by decide +kernel))⟩
theorem q_L_9 : fPF "FigureLeave$Line" 9 6 0 (.array .int) := ⟨"FigureLeave$Line", cT_L, 2, rfl, by decide, rfl, rfl, rfl, by decide +kernel, gw_1 195 (by decide +kernel) (by decide +kernel)⟩
theorem l_L_15 : fFL "FigureLeave$Line" 15 6 1 := ⟨"FigureLeave$Line", cT_L, 2, rfl, by decide, rfl, Or.inl (gw_1 199 (by decide +kernel) (by decide +kernel))⟩
theorem p_L_15 : fPL "FigureLeave$Line" 15 6 1 .int := ⟨"FigureLeave$Line", cT_L, 2, rfl, by decide, rfl, rfl, by decide +kernel, Or.inl (gw_1 199 (by decide +kernel) (by decide +kernel))⟩
theorem k_L_19 : fML "FigureLeave$Line" 19 M_L_addNumber := Or.inl (gw_3 9 (by decide +kernel) (by decide +kernel))
theorem k_L_23 : Cond.methodLink "FigureLeave$Line" 23 Lib.Math.abs.name ∈ gw := gw_3 13 (by decide +kernel) (by decide +kernel)
theorem k_P_3 : Cond.methodLink "FigureLeave$Past" 3 objectInit ∈ gw := gw_1 135 (by decide +kernel) (by decide +kernel)
theorem l_P_11 : fFL "FigureLeave$Past" 11 5 0 := ⟨"FigureLeave$Past", cT_P, 2, rfl, by decide, rfl, Or.inl (gw_1 136 (by decide +kernel) (by decide +kernel))⟩
theorem q_P_11 : fPF "FigureLeave$Past" 11 5 0 (.array .int) := ⟨"FigureLeave$Past", cT_P, 2, rfl, by decide, rfl, rfl, rfl, by decide +kernel, gw_1 136 (by decide +kernel) (by decide +kernel)⟩
theorem l_P_15 : fFL "FigureLeave$Past" 15 5 1 := ⟨"FigureLeave$Past", cT_P, 2, rfl, by decide, rfl, Or.inl (gw_1 137 (by decide +kernel) (by decide +kernel))⟩
theorem p_P_15 : fPL "FigureLeave$Past" 15 5 1 .int := ⟨"FigureLeave$Past", cT_P, 2, rfl, by decide, rfl, rfl, by decide +kernel, Or.inl (gw_1 137 (by decide +kernel) (by decide +kernel))⟩
theorem k_P_19 : Cond.methodLink "FigureLeave$Past" 19 arraycopyName ∈ gw := gw_3 84 (by decide +kernel) (by decide +kernel)
theorem l_P_25 : fFL "FigureLeave$Past" 25 2 0 := ⟨"FigureLeave$Shift", cT_S, 2, rfl, by decide, rfl, Or.inr ⟨"FigureLeave", nw_1 41 (by decide +kernel) rfl⟩⟩
theorem l_P_30 : fFL "FigureLeave$Past" 30 2 1 := ⟨"FigureLeave$Shift", cT_S, 2, rfl, by decide, rfl, Or.inr ⟨"FigureLeave", nw_1 46 (by decide +kernel) rfl⟩⟩
theorem p_P_30 : fPL "FigureLeave$Past" 30 2 1 .int := ⟨"FigureLeave$Shift", cT_S, 2, rfl, by decide, rfl, rfl, by decide +kernel, Or.inr ⟨"FigureLeave", nw_1 46 (by decide +kernel) rfl⟩⟩
theorem l_P_33 : fFL "FigureLeave$Past" 33 3 3 := ⟨"FigureLeave$Bills", cT_B, 5, rfl, by decide, rfl, Or.inr ⟨"FigureLeave", nw_1 77 (by decide +kernel) rfl⟩⟩
theorem p_P_33 : fPL "FigureLeave$Past" 33 3 3 .int := ⟨"FigureLeave$Bills", cT_B, 5, rfl, by decide, rfl, rfl, by decide +kernel, Or.inr ⟨"FigureLeave", nw_1 77 (by decide +kernel) rfl⟩⟩
theorem l_P_38 : fFL "FigureLeave$Past" 38 3 4 := ⟨"FigureLeave$Bills", cT_B, 5, rfl, by decide, rfl, Or.inr ⟨"FigureLeave", nw_1 81 (by decide +kernel) rfl⟩⟩
theorem p_P_38 : fPL "FigureLeave$Past" 38 3 4 .int := ⟨"FigureLeave$Bills", cT_B, 5, rfl, by decide, rfl, rfl, by decide +kernel, Or.inr ⟨"FigureLeave", nw_1 81 (by decide +kernel) rfl⟩⟩
theorem k_S_3 : Cond.methodLink "FigureLeave$Shift" 3 objectInit ∈ gw := gw_1 39 (by decide +kernel) (by decide +kernel)
theorem l_S_9 : fFL "FigureLeave$Shift" 9 2 0 := ⟨"FigureLeave$Shift", cT_S, 2, rfl, by decide, rfl, Or.inl (gw_1 40 (by decide +kernel) (by decide +kernel))⟩
theorem q_S_9 : fPF "FigureLeave$Shift" 9 2 0 (.array .int) := ⟨"FigureLeave$Shift", cT_S, 2, rfl, by decide, rfl, rfl, rfl, by decide +kernel, gw_1 40 (by decide +kernel) (by decide +kernel)⟩
theorem l_S_15 : fFL "FigureLeave$Shift" 15 2 1 := ⟨"FigureLeave$Shift", cT_S, 2, rfl, by decide, rfl, Or.inl (gw_1 45 (by decide +kernel) (by decide +kernel))⟩
theorem p_S_15 : fPL "FigureLeave$Shift" 15 2 1 .int := ⟨"FigureLeave$Shift", cT_S, 2, rfl, by decide, rfl, rfl, by decide +kernel, Or.inl (gw_1 45 (by decide +kernel) (by decide +kernel))⟩
theorem k_S_19 : fML "FigureLeave$Shift" 19 M_A_fill := Or.inl (gw_2 86 (by decide +kernel) (by decide +kernel))
theorem k_S_25 : Cond.methodLink "FigureLeave$Shift" 25 arraycopyName ∈ gw := gw_3 69 (by decide +kernel) (by decide +kernel)
theorem k_U_3 : Cond.methodLink "FigureLeave$Sleuth" 3 objectInit ∈ gw := gw_1 235 (by decide +kernel) (by decide +kernel)
theorem n_U_9 : fNW "FigureLeave$Sleuth" 9 6 [.null, .int 0] 2 := ⟨"FigureLeave$Line", cT_L, cy_L, rfl, gw_1 236 (by decide +kernel) (by decide +kernel), gw_1 190 (by decide +kernel) (by decide +kernel), gw_1 9 (by decide +kernel) (by decide +kernel), cp_L, by decide +kernel, fun _ => rfl⟩
theorem k_U_11 : fML "FigureLeave$Sleuth" 11 M_L_init := Or.inr ⟨"FigureLeave", nw_1 237 (by decide +kernel) rfl⟩
theorem l_U_12 : fFL "FigureLeave$Sleuth" 12 8 0 := ⟨"FigureLeave$Sleuth", cT_U, 1, rfl, by decide, rfl, Or.inl (gw_1 238 (by decide +kernel) (by decide +kernel))⟩
theorem q_U_12 : fPF "FigureLeave$Sleuth" 12 8 0 (.object "FigureLeave$Line") := ⟨"FigureLeave$Sleuth", cT_U, 1, rfl, by decide, rfl, rfl, rfl, by decide +kernel, gw_1 238 (by decide +kernel) (by decide +kernel)⟩
theorem k_U_18 : fML "FigureLeave$Sleuth" 18 M_U_fitsTraces := Or.inl (gw_4 46 (by decide +kernel) (by decide +kernel))
theorem k_U_22 : fML "FigureLeave$Sleuth" 22 M_L_tell := Or.inr ⟨"FigureLeave", nw_4 50 (by decide +kernel) rfl⟩
theorem l_U_26 : fFL "FigureLeave$Sleuth" 26 1 4 := ⟨"FigureLeave$House", cT_H, 6, rfl, by decide, rfl, Or.inr ⟨"FigureLeave", nw_1 165 (by decide +kernel) rfl⟩⟩
theorem l_U_32 : fFL "FigureLeave$Sleuth" 32 4 2 := ⟨"FigureLeave$Clues", cT_C, 8, rfl, by decide, rfl, Or.inr ⟨"FigureLeave", nw_1 105 (by decide +kernel) rfl⟩⟩
theorem l_U_38 : fFL "FigureLeave$Sleuth" 38 4 0 := ⟨"FigureLeave$Clues", cT_C, 8, rfl, by decide, rfl, Or.inr ⟨"FigureLeave", nw_1 101 (by decide +kernel) rfl⟩⟩
theorem k_U_42 : fML "FigureLeave$Sleuth" 42 M_U_moreWorn := Or.inl (gw_4 51 (by decide +kernel) (by decide +kernel))
theorem l_U_46 : fFL "FigureLeave$Sleuth" 46 4 1 := ⟨"FigureLeave$Clues", cT_C, 8, rfl, by decide, rfl, Or.inr ⟨"FigureLeave", nw_1 103 (by decide +kernel) rfl⟩⟩
theorem l_U_49 : fFL "FigureLeave$Sleuth" 49 6 1 := ⟨"FigureLeave$Line", cT_L, 2, rfl, by decide, rfl, Or.inr ⟨"FigureLeave", nw_1 200 (by decide +kernel) rfl⟩⟩
theorem l_U_52 : fFL "FigureLeave$Sleuth" 52 6 0 := ⟨"FigureLeave$Line", cT_L, 2, rfl, by decide, rfl, Or.inr ⟨"FigureLeave", nw_1 196 (by decide +kernel) rfl⟩⟩
theorem l_U_55 : fFL "FigureLeave$Sleuth" 55 1 0 := ⟨"FigureLeave$House", cT_H, 6, rfl, by decide, rfl, Or.inr ⟨"FigureLeave", nw_1 150 (by decide +kernel) rfl⟩⟩
theorem l_U_58 : fFL "FigureLeave$Sleuth" 58 1 2 := ⟨"FigureLeave$House", cT_H, 6, rfl, by decide, rfl, Or.inr ⟨"FigureLeave", nw_1 157 (by decide +kernel) rfl⟩⟩
theorem l_U_62 : fFL "FigureLeave$Sleuth" 62 2 1 := ⟨"FigureLeave$Shift", cT_S, 2, rfl, by decide, rfl, Or.inr ⟨"FigureLeave", nw_1 47 (by decide +kernel) rfl⟩⟩
theorem k_U_67 : fML "FigureLeave$Sleuth" 67 M_I_wear := Or.inr ⟨"FigureLeave", nw_4 55 (by decide +kernel) rfl⟩
theorem k_U_73 : fML "FigureLeave$Sleuth" 73 M_U_mostAlike := Or.inl (gw_4 95 (by decide +kernel) (by decide +kernel))
theorem k_U_76 : Cond.methodLink "FigureLeave$Sleuth" 76 Lib.Math.max.name ∈ gw := gw_4 99 (by decide +kernel) (by decide +kernel)
theorem k_T_3 : Cond.methodLink "FigureLeave$Text" 3 objectInit ∈ gw := gw_2 7 (by decide +kernel) (by decide +kernel)
theorem l_T_9 : fFL "FigureLeave$Text" 9 9 0 := ⟨"FigureLeave$Text", cT_T, 7, rfl, by decide, rfl, Or.inl (gw_2 10 (by decide +kernel) (by decide +kernel))⟩
theorem q_T_9 : fPF "FigureLeave$Text" 9 9 0 (.array .int) := ⟨"FigureLeave$Text", cT_T, 7, rfl, by decide, rfl, rfl, rfl, by decide +kernel, gw_2 10 (by decide +kernel) (by decide +kernel)⟩
theorem n_T_15 : fNW "FigureLeave$Text" 15 6 [.null, .int 0] 2 := ⟨"FigureLeave$Line", cT_L, cy_L, rfl, gw_2 8 (by decide +kernel) (by decide +kernel), gw_1 190 (by decide +kernel) (by decide +kernel), gw_1 9 (by decide +kernel) (by decide +kernel), cp_L, by decide +kernel, fun _ => rfl⟩
theorem k_T_17 : fML "FigureLeave$Text" 17 M_L_init := Or.inr ⟨"FigureLeave", nw_2 9 (by decide +kernel) rfl⟩
theorem l_T_18 : fFL "FigureLeave$Text" 18 9 1 := ⟨"FigureLeave$Text", cT_T, 7, rfl, by decide, rfl, Or.inl (gw_2 12 (by decide +kernel) (by decide +kernel))⟩
theorem q_T_18 : fPF "FigureLeave$Text" 18 9 1 (.object "FigureLeave$Line") := ⟨"FigureLeave$Text", cT_T, 7, rfl, by decide, rfl, rfl, rfl, by decide +kernel, gw_2 12 (by decide +kernel) (by decide +kernel)⟩
theorem l_T_22 : fFL "FigureLeave$Text" 22 9 2 := ⟨"FigureLeave$Text", cT_T, 7, rfl, by decide, rfl, Or.inl (gw_2 13 (by decide +kernel) (by decide +kernel))⟩
theorem p_T_22 : fPL "FigureLeave$Text" 22 9 2 .int := ⟨"FigureLeave$Text", cT_T, 7, rfl, by decide, rfl, rfl, by decide +kernel, Or.inl (gw_2 13 (by decide +kernel) (by decide +kernel))⟩
theorem l_T_26 : fFL "FigureLeave$Text" 26 9 3 := ⟨"FigureLeave$Text", cT_T, 7, rfl, by decide, rfl, Or.inl (gw_2 15 (by decide +kernel) (by decide +kernel))⟩
theorem p_T_26 : fPL "FigureLeave$Text" 26 9 3 .int := ⟨"FigureLeave$Text", cT_T, 7, rfl, by decide, rfl, rfl, by decide +kernel, Or.inl (gw_2 15 (by decide +kernel) (by decide +kernel))⟩
theorem l_T_29 : fFL "FigureLeave$Text" 29 9 4 := ⟨"FigureLeave$Text", cT_T, 7, rfl, by decide, rfl, Or.inl (gw_2 16 (by decide +kernel) (by decide +kernel))⟩
theorem p_T_29 : fPL "FigureLeave$Text" 29 9 4 .int := ⟨"FigureLeave$Text", cT_T, 7, rfl, by decide, rfl, rfl, by decide +kernel, Or.inl (gw_2 16 (by decide +kernel) (by decide +kernel))⟩
theorem l_T_32 : fFL "FigureLeave$Text" 32 9 5 := ⟨"FigureLeave$Text", cT_T, 7, rfl, by decide, rfl, Or.inl (gw_2 18 (by decide +kernel) (by decide +kernel))⟩
theorem p_T_32 : fPL "FigureLeave$Text" 32 9 5 .int := ⟨"FigureLeave$Text", cT_T, 7, rfl, by decide, rfl, rfl, by decide +kernel, Or.inl (gw_2 18 (by decide +kernel) (by decide +kernel))⟩
theorem l_T_35 : fFL "FigureLeave$Text" 35 9 6 := ⟨"FigureLeave$Text", cT_T, 7, rfl, by decide, rfl, Or.inl (gw_2 19 (by decide +kernel) (by decide +kernel))⟩
theorem p_T_35 : fPL "FigureLeave$Text" 35 9 6 .int := ⟨"FigureLeave$Text", cT_T, 7, rfl, by decide, rfl, rfl, by decide +kernel, Or.inl (gw_2 19 (by decide +kernel) (by decide +kernel))⟩
theorem k_T_38 : fML "FigureLeave$Text" 38 M_H_begin := Or.inr ⟨"FigureLeave", nw_2 153 (by decide +kernel) rfl⟩
theorem k_T_43 : fML "FigureLeave$Text" 43 M_T_nextToken := Or.inl (gw_2 154 (by decide +kernel) (by decide +kernel))
theorem k_T_46 : fML "FigureLeave$Text" 46 M_T_readItem := Or.inl (gw_2 166 (by decide +kernel) (by decide +kernel))
theorem k_T_52 : fML "FigureLeave$Text" 52 M_T_isWord := Or.inl (gw_2 171 (by decide +kernel) (by decide +kernel))
theorem k_T_58 : fML "FigureLeave$Text" 58 M_T_readFigure := Or.inl (gw_2 224 (by decide +kernel) (by decide +kernel))
theorem k_T_64 : fML "FigureLeave$Text" 64 M_T_readBill := Or.inl (gw_2 235 (by decide +kernel) (by decide +kernel))
theorem k_T_69 : fML "FigureLeave$Text" 69 M_T_readWrite := Or.inl (gw_3 1 (by decide +kernel) (by decide +kernel))
theorem k_T_74 : fML "FigureLeave$Text" 74 M_T_readNight := Or.inl (gw_3 32 (by decide +kernel) (by decide +kernel))
theorem k_T_77 : fML "FigureLeave$Text" 77 M_T_nextIsStop := Or.inl (gw_3 54 (by decide +kernel) (by decide +kernel))
theorem k_T_81 : fML "FigureLeave$Text" 81 M_T_nextIsNumber := Or.inl (gw_2 228 (by decide +kernel) (by decide +kernel))
theorem k_T_87 : fML "FigureLeave$Text" 87 M_H_tellFigure := Or.inr ⟨"FigureLeave", nw_2 233 (by decide +kernel) rfl⟩
theorem l_T_91 : fFL "FigureLeave$Text" 91 1 3 := ⟨"FigureLeave$House", cT_H, 6, rfl, by decide, rfl, Or.inr ⟨"FigureLeave", nw_1 162 (by decide +kernel) rfl⟩⟩
theorem l_T_95 : fFL "FigureLeave$Text" 95 3 2 := ⟨"FigureLeave$Bills", cT_B, 5, rfl, by decide, rfl, Or.inr ⟨"FigureLeave", nw_1 73 (by decide +kernel) rfl⟩⟩
theorem k_T_98 : fML "FigureLeave$Text" 98 M_H_tellBill := Or.inr ⟨"FigureLeave", nw_2 239 (by decide +kernel) rfl⟩
theorem k_T_102 : fML "FigureLeave$Text" 102 M_L_tell := Or.inr ⟨"FigureLeave", nw_3 5 (by decide +kernel) rfl⟩
theorem l_T_105 : fFL "FigureLeave$Text" 105 1 2 := ⟨"FigureLeave$House", cT_H, 6, rfl, by decide, rfl, Or.inr ⟨"FigureLeave", nw_1 158 (by decide +kernel) rfl⟩⟩
theorem k_T_109 : fML "FigureLeave$Text" 109 M_H_puts := Or.inr ⟨"FigureLeave", nw_3 16 (by decide +kernel) rfl⟩
theorem k_T_113 : fML "FigureLeave$Text" 113 M_H_sleep := Or.inr ⟨"FigureLeave", nw_3 36 (by decide +kernel) rfl⟩
theorem k_T_117 : fML "FigureLeave$Text" 117 M_F_within := Or.inr ⟨"FigureLeave", nw_2 232 (by decide +kernel) rfl⟩
theorem k_T_121 : fML "FigureLeave$Text" 121 M_T_sortAt := Or.inl (gw_2 158 (by decide +kernel) (by decide +kernel))
theorem k_T_125 : fML "FigureLeave$Text" 125 M_T_weighNumber := Or.inl (gw_2 162 (by decide +kernel) (by decide +kernel))
theorem k_T_128 : fML "FigureLeave$Text" 128 M_J_length := Or.inl (gw_2 175 (by decide +kernel) (by decide +kernel))
theorem k_T_134 : fML "FigureLeave$Text" 134 M_J_charAt := Or.inl (gw_2 185 (by decide +kernel) (by decide +kernel))
theorem n_W_7 : fNW "FigureLeaveLaw" 7 0 [.null, .null, .null, .null, .null, .null, .null, .int 0, .int 0, .int 0, .int 0, .int 0] 12 := ⟨"FigureLeave", cT_F, cy_F, rfl, gw_1 20 (by decide +kernel) (by decide +kernel), gw_1 21 (by decide +kernel) (by decide +kernel), gw_1 1 (by decide +kernel) (by decide +kernel), cp_F, by decide +kernel, fun _ => rfl⟩
theorem k_W_9 : fML "FigureLeaveLaw" 9 M_F_init := Or.inl (gw_1 22 (by decide +kernel) (by decide +kernel))
theorem n_W_10 : fNW "FigureLeaveLaw" 10 10 [.int 0, .null, .null, .null, .null, .null, .int 0, .int 0, .int 0, .int 0, .int 0, .null, .long 0, .long 0, .null, .null, .int 0] 17 := ⟨"FigureLeaveModel", cT_M, cy_M, rfl, gw_4 192 (by decide +kernel) (by decide +kernel), gw_4 193 (by decide +kernel) (by decide +kernel), gw_1 12 (by decide +kernel) (by decide +kernel), cp_M, by decide +kernel, fun _ => rfl⟩
theorem k_W_12 : fML "FigureLeaveLaw" 12 M_M_init := Or.inl (gw_4 194 (by decide +kernel) (by decide +kernel))
theorem k_W_13 : fML "FigureLeaveLaw" 13 M_F_house := Or.inl (gw_2 74 (by decide +kernel) (by decide +kernel))
theorem k_W_17 : fML "FigureLeaveLaw" 17 M_M_house := Or.inl (gw_5 14 (by decide +kernel) (by decide +kernel))
theorem k_W_18 : fML "FigureLeaveLaw" 18 M_F_figure := Or.inl (gw_2 99 (by decide +kernel) (by decide +kernel))
theorem k_W_22 : fML "FigureLeaveLaw" 22 M_M_figure := Or.inl (gw_5 18 (by decide +kernel) (by decide +kernel))
theorem k_W_23 : fML "FigureLeaveLaw" 23 M_F_bill := Or.inl (gw_2 118 (by decide +kernel) (by decide +kernel))
theorem k_W_27 : fML "FigureLeaveLaw" 27 M_M_bill := Or.inl (gw_5 29 (by decide +kernel) (by decide +kernel))
theorem k_W_28 : fML "FigureLeaveLaw" 28 M_F_type := Or.inl (gw_2 137 (by decide +kernel) (by decide +kernel))
theorem k_W_32 : fML "FigureLeaveLaw" 32 M_M_type := Or.inl (gw_5 36 (by decide +kernel) (by decide +kernel))
theorem k_W_33 : fML "FigureLeaveLaw" 33 M_F_clear := Or.inl (gw_2 141 (by decide +kernel) (by decide +kernel))
theorem k_W_36 : fML "FigureLeaveLaw" 36 M_M_clear := Or.inl (gw_5 40 (by decide +kernel) (by decide +kernel))
theorem k_W_37 : fML "FigureLeaveLaw" 37 M_F_read := Or.inl (gw_2 145 (by decide +kernel) (by decide +kernel))
theorem k_W_40 : fML "FigureLeaveLaw" 40 M_M_read := Or.inl (gw_5 44 (by decide +kernel) (by decide +kernel))
theorem k_W_41 : fML "FigureLeaveLaw" 41 M_F_write := Or.inl (gw_3 86 (by decide +kernel) (by decide +kernel))
theorem k_W_44 : fML "FigureLeaveLaw" 44 M_M_write := Or.inl (gw_5 115 (by decide +kernel) (by decide +kernel))
theorem k_W_45 : fML "FigureLeaveLaw" 45 M_F_pay := Or.inl (gw_3 112 (by decide +kernel) (by decide +kernel))
theorem k_W_48 : fML "FigureLeaveLaw" 48 M_M_pay := Or.inl (gw_5 130 (by decide +kernel) (by decide +kernel))
theorem k_W_49 : fML "FigureLeaveLaw" 49 M_F_night := Or.inl (gw_3 129 (by decide +kernel) (by decide +kernel))
theorem k_W_52 : fML "FigureLeaveLaw" 52 M_M_night := Or.inl (gw_5 142 (by decide +kernel) (by decide +kernel))
theorem k_W_53 : fML "FigureLeaveLaw" 53 M_F_undo := Or.inl (gw_3 134 (by decide +kernel) (by decide +kernel))
theorem k_W_56 : fML "FigureLeaveLaw" 56 M_M_undo := Or.inl (gw_5 146 (by decide +kernel) (by decide +kernel))
theorem k_W_57 : fML "FigureLeaveLaw" 57 M_F_of := Or.inl (gw_3 146 (by decide +kernel) (by decide +kernel))
theorem k_W_60 : fML "FigureLeaveLaw" 60 M_M_of := Or.inl (gw_5 150 (by decide +kernel) (by decide +kernel))
theorem k_W_61 : fML "FigureLeaveLaw" 61 M_F_about := Or.inl (gw_3 155 (by decide +kernel) (by decide +kernel))
theorem k_W_64 : fML "FigureLeaveLaw" 64 M_M_about := Or.inl (gw_5 158 (by decide +kernel) (by decide +kernel))
theorem k_W_65 : fML "FigureLeaveLaw" 65 M_F_wears := Or.inl (gw_3 159 (by decide +kernel) (by decide +kernel))
theorem k_W_68 : fML "FigureLeaveLaw" 68 M_M_wears := Or.inl (gw_5 162 (by decide +kernel) (by decide +kernel))
theorem k_W_69 : fML "FigureLeaveLaw" 69 M_F_cost := Or.inl (gw_3 167 (by decide +kernel) (by decide +kernel))
theorem k_W_72 : fML "FigureLeaveLaw" 72 M_M_cost := Or.inl (gw_5 166 (by decide +kernel) (by decide +kernel))
theorem k_W_73 : fML "FigureLeaveLaw" 73 M_F_can := Or.inl (gw_3 171 (by decide +kernel) (by decide +kernel))
theorem k_W_76 : fML "FigureLeaveLaw" 76 M_M_can := Or.inl (gw_5 170 (by decide +kernel) (by decide +kernel))
theorem k_W_77 : fML "FigureLeaveLaw" 77 M_F_best := Or.inl (gw_3 175 (by decide +kernel) (by decide +kernel))
theorem k_W_80 : fML "FigureLeaveLaw" 80 M_M_best := Or.inl (gw_5 174 (by decide +kernel) (by decide +kernel))
theorem k_W_81 : fML "FigureLeaveLaw" 81 M_F_first := Or.inl (gw_3 186 (by decide +kernel) (by decide +kernel))
theorem k_W_84 : fML "FigureLeaveLaw" 84 M_M_first := Or.inl (gw_5 182 (by decide +kernel) (by decide +kernel))
theorem k_W_85 : fML "FigureLeaveLaw" 85 M_F_counts := Or.inl (gw_3 198 (by decide +kernel) (by decide +kernel))
theorem k_W_88 : fML "FigureLeaveLaw" 88 M_M_counts := Or.inl (gw_5 186 (by decide +kernel) (by decide +kernel))
theorem k_W_89 : fML "FigureLeaveLaw" 89 M_F_when := Or.inl (gw_3 208 (by decide +kernel) (by decide +kernel))
theorem k_W_92 : fML "FigureLeaveLaw" 92 M_M_when := Or.inl (gw_5 202 (by decide +kernel) (by decide +kernel))
theorem k_W_93 : fML "FigureLeaveLaw" 93 M_F_most := Or.inl (gw_3 217 (by decide +kernel) (by decide +kernel))
theorem k_W_96 : fML "FigureLeaveLaw" 96 M_M_most := Or.inl (gw_5 210 (by decide +kernel) (by decide +kernel))
theorem k_W_97 : fML "FigureLeaveLaw" 97 M_F_plan := Or.inl (gw_3 234 (by decide +kernel) (by decide +kernel))
theorem k_W_100 : fML "FigureLeaveLaw" 100 M_M_plan := Or.inl (gw_5 230 (by decide +kernel) (by decide +kernel))
theorem k_W_101 : fML "FigureLeaveLaw" 101 M_F_wanted := Or.inl (gw_4 16 (by decide +kernel) (by decide +kernel))
theorem k_W_104 : fML "FigureLeaveLaw" 104 M_M_wanted := Or.inl (gw_6 5 (by decide +kernel) (by decide +kernel))
theorem k_W_105 : fML "FigureLeaveLaw" 105 M_F_trace := Or.inl (gw_4 30 (by decide +kernel) (by decide +kernel))
theorem k_W_108 : fML "FigureLeaveLaw" 108 M_M_trace := Or.inl (gw_6 13 (by decide +kernel) (by decide +kernel))
theorem k_W_109 : fML "FigureLeaveLaw" 109 M_F_which := Or.inl (gw_4 38 (by decide +kernel) (by decide +kernel))
theorem k_W_112 : fML "FigureLeaveLaw" 112 M_M_which := Or.inl (gw_6 17 (by decide +kernel) (by decide +kernel))
theorem k_W_113 : fML "FigureLeaveLaw" 113 M_F_note := Or.inl (gw_4 60 (by decide +kernel) (by decide +kernel))
theorem k_W_117 : fML "FigureLeaveLaw" 117 M_M_note := Or.inl (gw_6 29 (by decide +kernel) (by decide +kernel))
theorem k_W_118 : fML "FigureLeaveLaw" 118 M_F_forget := Or.inl (gw_4 68 (by decide +kernel) (by decide +kernel))
theorem k_W_121 : fML "FigureLeaveLaw" 121 M_M_forget := Or.inl (gw_6 33 (by decide +kernel) (by decide +kernel))
theorem k_W_122 : fML "FigureLeaveLaw" 122 M_F_is := Or.inl (gw_4 74 (by decide +kernel) (by decide +kernel))
theorem k_W_125 : fML "FigureLeaveLaw" 125 M_M_is := Or.inl (gw_6 37 (by decide +kernel) (by decide +kernel))
theorem k_W_126 : fML "FigureLeaveLaw" 126 M_F_look := Or.inl (gw_4 87 (by decide +kernel) (by decide +kernel))
theorem k_W_129 : fML "FigureLeaveLaw" 129 M_M_look := Or.inl (gw_6 45 (by decide +kernel) (by decide +kernel))
theorem k_W_130 : fML "FigureLeaveLaw" 130 M_F_two := Or.inl (gw_4 100 (by decide +kernel) (by decide +kernel))
theorem k_W_133 : fML "FigureLeaveLaw" 133 M_M_two := Or.inl (gw_6 49 (by decide +kernel) (by decide +kernel))
theorem k_W_134 : fML "FigureLeaveLaw" 134 M_F_odds := Or.inl (gw_4 112 (by decide +kernel) (by decide +kernel))
theorem k_W_137 : fML "FigureLeaveLaw" 137 M_M_odds := Or.inl (gw_6 57 (by decide +kernel) (by decide +kernel))
theorem k_W_138 : fML "FigureLeaveLaw" 138 M_F_years := Or.inl (gw_4 134 (by decide +kernel) (by decide +kernel))
theorem k_W_141 : fML "FigureLeaveLaw" 141 M_M_years := Or.inl (gw_6 69 (by decide +kernel) (by decide +kernel))
theorem k_W_142 : fML "FigureLeaveLaw" 142 M_F_part := Or.inl (gw_4 148 (by decide +kernel) (by decide +kernel))
theorem k_W_146 : fML "FigureLeaveLaw" 146 M_M_part := Or.inl (gw_6 83 (by decide +kernel) (by decide +kernel))
theorem k_W_147 : fML "FigureLeaveLaw" 147 M_F_image := Or.inl (gw_4 152 (by decide +kernel) (by decide +kernel))
theorem k_W_150 : fML "FigureLeaveLaw" 150 M_M_image := Or.inl (gw_6 87 (by decide +kernel) (by decide +kernel))
theorem k_W_151 : fML "FigureLeaveLaw" 151 M_F_from := Or.inl (gw_4 156 (by decide +kernel) (by decide +kernel))
theorem k_W_154 : fML "FigureLeaveLaw" 154 M_M_from := Or.inl (gw_6 91 (by decide +kernel) (by decide +kernel))
theorem k_W_155 : fML "FigureLeaveLaw" 155 M_F_status := Or.inl (gw_4 160 (by decide +kernel) (by decide +kernel))
theorem k_W_158 : fML "FigureLeaveLaw" 158 M_M_status := Or.inl (gw_6 95 (by decide +kernel) (by decide +kernel))
theorem k_W_159 : fML "FigureLeaveLaw" 159 M_F_count := Or.inl (gw_4 164 (by decide +kernel) (by decide +kernel))
theorem k_W_162 : fML "FigureLeaveLaw" 162 M_M_count := Or.inl (gw_6 99 (by decide +kernel) (by decide +kernel))
theorem k_W_163 : fML "FigureLeaveLaw" 163 M_F_digest := Or.inl (gw_4 176 (by decide +kernel) (by decide +kernel))
theorem k_W_167 : fML "FigureLeaveLaw" 167 M_M_digest := Or.inl (gw_6 107 (by decide +kernel) (by decide +kernel))
theorem k_M_1 : Cond.methodLink "FigureLeaveModel" 1 objectInit ∈ gw := gw_4 197 (by decide +kernel) (by decide +kernel)
theorem l_M_7 : fFL "FigureLeaveModel" 7 10 1 := ⟨"FigureLeaveModel", cT_M, 17, rfl, by decide, rfl, Or.inl (gw_4 202 (by decide +kernel) (by decide +kernel))⟩
theorem q_M_7 : fPF "FigureLeaveModel" 7 10 1 (.array .int) := ⟨"FigureLeaveModel", cT_M, 17, rfl, by decide, rfl, rfl, rfl, by decide +kernel, gw_4 202 (by decide +kernel) (by decide +kernel)⟩
theorem l_M_13 : fFL "FigureLeaveModel" 13 10 2 := ⟨"FigureLeaveModel", cT_M, 17, rfl, by decide, rfl, Or.inl (gw_4 203 (by decide +kernel) (by decide +kernel))⟩
theorem q_M_13 : fPF "FigureLeaveModel" 13 10 2 (.array .int) := ⟨"FigureLeaveModel", cT_M, 17, rfl, by decide, rfl, rfl, rfl, by decide +kernel, gw_4 203 (by decide +kernel) (by decide +kernel)⟩
theorem l_M_16 : fFL "FigureLeaveModel" 16 10 3 := ⟨"FigureLeaveModel", cT_M, 17, rfl, by decide, rfl, Or.inl (gw_4 204 (by decide +kernel) (by decide +kernel))⟩
theorem q_M_16 : fPF "FigureLeaveModel" 16 10 3 (.array .int) := ⟨"FigureLeaveModel", cT_M, 17, rfl, by decide, rfl, rfl, rfl, by decide +kernel, gw_4 204 (by decide +kernel) (by decide +kernel)⟩
theorem l_M_19 : fFL "FigureLeaveModel" 19 10 4 := ⟨"FigureLeaveModel", cT_M, 17, rfl, by decide, rfl, Or.inl (gw_4 205 (by decide +kernel) (by decide +kernel))⟩
theorem q_M_19 : fPF "FigureLeaveModel" 19 10 4 (.array .boolean) := ⟨"FigureLeaveModel", cT_M, 17, rfl, by decide, rfl, rfl, rfl, by decide +kernel, gw_4 205 (by decide +kernel) (by decide +kernel)⟩
theorem l_M_23 : fFL "FigureLeaveModel" 23 10 5 := ⟨"FigureLeaveModel", cT_M, 17, rfl, by decide, rfl, Or.inl (gw_4 206 (by decide +kernel) (by decide +kernel))⟩
theorem q_M_23 : fPF "FigureLeaveModel" 23 10 5 (.array .int) := ⟨"FigureLeaveModel", cT_M, 17, rfl, by decide, rfl, rfl, rfl, by decide +kernel, gw_4 206 (by decide +kernel) (by decide +kernel)⟩
theorem l_M_26 : fFL "FigureLeaveModel" 26 10 11 := ⟨"FigureLeaveModel", cT_M, 17, rfl, by decide, rfl, Or.inl (gw_4 212 (by decide +kernel) (by decide +kernel))⟩
theorem q_M_26 : fPF "FigureLeaveModel" 26 10 11 (.array .int) := ⟨"FigureLeaveModel", cT_M, 17, rfl, by decide, rfl, rfl, rfl, by decide +kernel, gw_4 212 (by decide +kernel) (by decide +kernel)⟩
theorem l_M_29 : fFL "FigureLeaveModel" 29 10 13 := ⟨"FigureLeaveModel", cT_M, 17, rfl, by decide, rfl, Or.inl (gw_4 214 (by decide +kernel) (by decide +kernel))⟩
theorem p_M_29 : fPL "FigureLeaveModel" 29 10 13 .long := ⟨"FigureLeaveModel", cT_M, 17, rfl, by decide, rfl, rfl, by decide +kernel, Or.inl (gw_4 214 (by decide +kernel) (by decide +kernel))⟩
theorem l_M_33 : fFL "FigureLeaveModel" 33 10 14 := ⟨"FigureLeaveModel", cT_M, 17, rfl, by decide, rfl, Or.inl (gw_4 215 (by decide +kernel) (by decide +kernel))⟩
theorem q_M_33 : fPF "FigureLeaveModel" 33 10 14 (.array .int) := ⟨"FigureLeaveModel", cT_M, 17, rfl, by decide, rfl, rfl, rfl, by decide +kernel, gw_4 215 (by decide +kernel) (by decide +kernel)⟩
theorem l_M_36 : fFL "FigureLeaveModel" 36 10 15 := ⟨"FigureLeaveModel", cT_M, 17, rfl, by decide, rfl, Or.inl (gw_4 216 (by decide +kernel) (by decide +kernel))⟩
theorem q_M_36 : fPF "FigureLeaveModel" 36 10 15 (.array .int) := ⟨"FigureLeaveModel", cT_M, 17, rfl, by decide, rfl, rfl, rfl, by decide +kernel, gw_4 216 (by decide +kernel) (by decide +kernel)⟩
theorem k_M_39 : fML "FigureLeaveModel" 39 M_M_begins := Or.inl (gw_4 198 (by decide +kernel) (by decide +kernel))
theorem p_M_43 : fPL "FigureLeaveModel" 43 10 0 .int := ⟨"FigureLeaveModel", cT_M, 17, rfl, by decide, rfl, rfl, by decide +kernel, Or.inl (gw_4 201 (by decide +kernel) (by decide +kernel))⟩
theorem k_M_47 : fML "FigureLeaveModel" 47 M_M_restOf := Or.inl (gw_5 112 (by decide +kernel) (by decide +kernel))
theorem l_M_51 : fFL "FigureLeaveModel" 51 10 16 := ⟨"FigureLeaveModel", cT_M, 17, rfl, by decide, rfl, Or.inl (gw_4 217 (by decide +kernel) (by decide +kernel))⟩
theorem p_M_51 : fPL "FigureLeaveModel" 51 10 16 .int := ⟨"FigureLeaveModel", cT_M, 17, rfl, by decide, rfl, rfl, by decide +kernel, Or.inl (gw_4 217 (by decide +kernel) (by decide +kernel))⟩
theorem k_M_54 : fML "FigureLeaveModel" 54 M_M_adds := Or.inl (gw_5 94 (by decide +kernel) (by decide +kernel))
theorem k_M_58 : fML "FigureLeaveModel" 58 M_M_wearOf := Or.inl (gw_5 102 (by decide +kernel) (by decide +kernel))
theorem k_M_62 : fML "FigureLeaveModel" 62 M_M_line := Or.inl (gw_5 90 (by decide +kernel) (by decide +kernel))
theorem k_M_66 : fML "FigureLeaveModel" 66 M_M_wearsBy := Or.inl (gw_5 98 (by decide +kernel) (by decide +kernel))
theorem k_M_70 : fML "FigureLeaveModel" 70 M_M_in := Or.inl (gw_5 22 (by decide +kernel) (by decide +kernel))
theorem k_M_74 : fML "FigureLeaveModel" 74 M_M_refuses := Or.inl (gw_5 25 (by decide +kernel) (by decide +kernel))
theorem k_M_78 : fML "FigureLeaveModel" 78 M_M_bills := Or.inl (gw_5 33 (by decide +kernel) (by decide +kernel))
theorem l_M_82 : fFL "FigureLeaveModel" 82 10 6 := ⟨"FigureLeaveModel", cT_M, 17, rfl, by decide, rfl, Or.inl (gw_4 207 (by decide +kernel) (by decide +kernel))⟩
theorem p_M_82 : fPL "FigureLeaveModel" 82 10 6 .int := ⟨"FigureLeaveModel", cT_M, 17, rfl, by decide, rfl, rfl, by decide +kernel, Or.inl (gw_4 207 (by decide +kernel) (by decide +kernel))⟩
theorem l_M_85 : fFL "FigureLeaveModel" 85 10 7 := ⟨"FigureLeaveModel", cT_M, 17, rfl, by decide, rfl, Or.inl (gw_4 208 (by decide +kernel) (by decide +kernel))⟩
theorem p_M_85 : fPL "FigureLeaveModel" 85 10 7 .int := ⟨"FigureLeaveModel", cT_M, 17, rfl, by decide, rfl, rfl, by decide +kernel, Or.inl (gw_4 208 (by decide +kernel) (by decide +kernel))⟩
theorem k_M_88 : fML "FigureLeaveModel" 88 M_M_at := Or.inl (gw_5 52 (by decide +kernel) (by decide +kernel))
theorem k_M_91 : fML "FigureLeaveModel" 91 M_M_isLetter := Or.inl (gw_5 56 (by decide +kernel) (by decide +kernel))
theorem l_M_95 : fFL "FigureLeaveModel" 95 10 8 := ⟨"FigureLeaveModel", cT_M, 17, rfl, by decide, rfl, Or.inl (gw_4 209 (by decide +kernel) (by decide +kernel))⟩
theorem p_M_95 : fPL "FigureLeaveModel" 95 10 8 .int := ⟨"FigureLeaveModel", cT_M, 17, rfl, by decide, rfl, rfl, by decide +kernel, Or.inl (gw_4 209 (by decide +kernel) (by decide +kernel))⟩
theorem l_M_98 : fFL "FigureLeaveModel" 98 10 9 := ⟨"FigureLeaveModel", cT_M, 17, rfl, by decide, rfl, Or.inl (gw_4 210 (by decide +kernel) (by decide +kernel))⟩
theorem p_M_98 : fPL "FigureLeaveModel" 98 10 9 .int := ⟨"FigureLeaveModel", cT_M, 17, rfl, by decide, rfl, rfl, by decide +kernel, Or.inl (gw_4 210 (by decide +kernel) (by decide +kernel))⟩
theorem k_M_101 : fML "FigureLeaveModel" 101 M_M_word := Or.inl (gw_5 59 (by decide +kernel) (by decide +kernel))
theorem l_M_105 : fFL "FigureLeaveModel" 105 10 10 := ⟨"FigureLeaveModel", cT_M, 17, rfl, by decide, rfl, Or.inl (gw_4 211 (by decide +kernel) (by decide +kernel))⟩
theorem p_M_105 : fPL "FigureLeaveModel" 105 10 10 .int := ⟨"FigureLeaveModel", cT_M, 17, rfl, by decide, rfl, rfl, by decide +kernel, Or.inl (gw_4 211 (by decide +kernel) (by decide +kernel))⟩
theorem k_M_108 : fML "FigureLeaveModel" 108 M_M_isWell := Or.inl (gw_5 63 (by decide +kernel) (by decide +kernel))
theorem k_M_112 : fML "FigureLeaveModel" 112 M_M_advances := Or.inl (gw_5 48 (by decide +kernel) (by decide +kernel))
theorem k_M_115 : fML "FigureLeaveModel" 115 M_M_takes := Or.inl (gw_5 74 (by decide +kernel) (by decide +kernel))
theorem k_M_119 : fML "FigureLeaveModel" 119 M_M_sum := Or.inl (gw_5 71 (by decide +kernel) (by decide +kernel))
theorem k_M_123 : fML "FigureLeaveModel" 123 M_M_number := Or.inl (gw_5 82 (by decide +kernel) (by decide +kernel))
theorem k_M_126 : fML "FigureLeaveModel" 126 M_M_canOf := Or.inl (gw_5 86 (by decide +kernel) (by decide +kernel))
theorem k_M_130 : fML "FigureLeaveModel" 130 M_M_writes := Or.inl (gw_5 105 (by decide +kernel) (by decide +kernel))
theorem k_M_133 : fML "FigureLeaveModel" 133 M_M_sleeps := Or.inl (gw_5 109 (by decide +kernel) (by decide +kernel))
theorem k_M_136 : fML "FigureLeaveModel" 136 M_M_wordIs := Or.inl (gw_5 67 (by decide +kernel) (by decide +kernel))
theorem k_M_139 : fML "FigureLeaveModel" 139 M_M_reads := Or.inl (gw_5 78 (by decide +kernel) (by decide +kernel))
theorem k_M_142 : fML "FigureLeaveModel" 142 M_M_areLine := Or.inl (gw_5 119 (by decide +kernel) (by decide +kernel))
theorem k_M_146 : fML "FigureLeaveModel" 146 M_M_notes := Or.inl (gw_5 122 (by decide +kernel) (by decide +kernel))
theorem k_M_149 : fML "FigureLeaveModel" 149 M_M_costOf := Or.inl (gw_5 126 (by decide +kernel) (by decide +kernel))
theorem k_M_152 : fML "FigureLeaveModel" 152 M_M_isBill := Or.inl (gw_5 134 (by decide +kernel) (by decide +kernel))
theorem k_M_155 : fML "FigureLeaveModel" 155 M_M_isPaid := Or.inl (gw_5 138 (by decide +kernel) (by decide +kernel))
theorem k_M_158 : fML "FigureLeaveModel" 158 M_M_leftOf := Or.inl (gw_5 154 (by decide +kernel) (by decide +kernel))
theorem k_M_161 : fML "FigureLeaveModel" 161 M_M_bestOf := Or.inl (gw_5 178 (by decide +kernel) (by decide +kernel))
theorem k_M_164 : fML "FigureLeaveModel" 164 M_M_wornNow := Or.inl (gw_5 190 (by decide +kernel) (by decide +kernel))
theorem k_M_167 : fML "FigureLeaveModel" 167 M_M_asideBy := Or.inl (gw_5 194 (by decide +kernel) (by decide +kernel))
theorem k_M_170 : fML "FigureLeaveModel" 170 M_M_isWithin := Or.inl (gw_5 198 (by decide +kernel) (by decide +kernel))
theorem k_M_173 : fML "FigureLeaveModel" 173 M_M_rests := Or.inl (gw_5 206 (by decide +kernel) (by decide +kernel))
theorem k_M_176 : fML "FigureLeaveModel" 176 M_M_areWithin := Or.inl (gw_5 226 (by decide +kernel) (by decide +kernel))
theorem k_M_179 : fML "FigureLeaveModel" 179 M_M_unpaid := Or.inl (gw_5 214 (by decide +kernel) (by decide +kernel))
theorem k_M_182 : fML "FigureLeaveModel" 182 M_M_worthOf := Or.inl (gw_5 218 (by decide +kernel) (by decide +kernel))
theorem k_M_185 : fML "FigureLeaveModel" 185 M_M_canAll := Or.inl (gw_5 222 (by decide +kernel) (by decide +kernel))
theorem k_M_188 : fML "FigureLeaveModel" 188 M_M_dayOf := Or.inl (gw_5 238 (by decide +kernel) (by decide +kernel))
theorem k_M_191 : fML "FigureLeaveModel" 191 M_M_refusesAs := Or.inl (gw_5 234 (by decide +kernel) (by decide +kernel))
theorem k_M_194 : fML "FigureLeaveModel" 194 M_M_daysOf := Or.inl (gw_6 1 (by decide +kernel) (by decide +kernel))
theorem k_M_197 : fML "FigureLeaveModel" 197 M_M_manyCan := Or.inl (gw_6 9 (by decide +kernel) (by decide +kernel))
theorem k_M_200 : fML "FigureLeaveModel" 200 M_M_wornBy := Or.inl (gw_6 25 (by decide +kernel) (by decide +kernel))
theorem k_M_203 : fML "FigureLeaveModel" 203 M_M_isTraced := Or.inl (gw_6 21 (by decide +kernel) (by decide +kernel))
theorem k_M_206 : fML "FigureLeaveModel" 206 M_M_kindsOf := Or.inl (gw_6 41 (by decide +kernel) (by decide +kernel))
theorem k_M_209 : fML "FigureLeaveModel" 209 M_M_has := Or.inl (gw_6 53 (by decide +kernel) (by decide +kernel))
theorem o_M_212 : Cond.constantLong "FigureLeaveModel" 212 10 ∈ gw := gw_6 61 (by decide +kernel) (by decide +kernel)
theorem k_M_214 : fML "FigureLeaveModel" 214 M_M_canFree := Or.inl (gw_6 62 (by decide +kernel) (by decide +kernel))
theorem k_M_217 : fML "FigureLeaveModel" 217 M_M_gcd := Or.inl (gw_6 66 (by decide +kernel) (by decide +kernel))
theorem l_M_221 : fFL "FigureLeaveModel" 221 10 12 := ⟨"FigureLeaveModel", cT_M, 17, rfl, by decide, rfl, Or.inl (gw_4 213 (by decide +kernel) (by decide +kernel))⟩
theorem p_M_221 : fPL "FigureLeaveModel" 221 10 12 .long := ⟨"FigureLeaveModel", cT_M, 17, rfl, by decide, rfl, rfl, by decide +kernel, Or.inl (gw_4 213 (by decide +kernel) (by decide +kernel))⟩
theorem o_M_224 : Cond.constant "FigureLeaveModel" 224 999999 ∈ gw := gw_6 73 (by decide +kernel) (by decide +kernel)
theorem o_M_225 : Cond.constantLong "FigureLeaveModel" 225 1103515245 ∈ gw := gw_6 74 (by decide +kernel) (by decide +kernel)
theorem o_M_227 : Cond.constantLong "FigureLeaveModel" 227 12345 ∈ gw := gw_6 75 (by decide +kernel) (by decide +kernel)
theorem o_M_229 : Cond.constantLong "FigureLeaveModel" 229 2147483648 ∈ gw := gw_6 76 (by decide +kernel) (by decide +kernel)
theorem o_M_231 : Cond.constantLong "FigureLeaveModel" 231 65536 ∈ gw := gw_6 77 (by decide +kernel) (by decide +kernel)
theorem o_M_233 : Cond.constantLong "FigureLeaveModel" 233 100 ∈ gw := gw_6 78 (by decide +kernel) (by decide +kernel)
theorem k_M_235 : fML "FigureLeaveModel" 235 M_M_takesBack := Or.inl (gw_6 79 (by decide +kernel) (by decide +kernel))
theorem k_M_238 : fML "FigureLeaveModel" 238 M_M_counted := Or.inl (gw_6 103 (by decide +kernel) (by decide +kernel))
theorem o_M_241 : Cond.constantLong "FigureLeaveModel" 241 1493 ∈ gw := gw_6 111 (by decide +kernel) (by decide +kernel)
theorem o_M_243 : Cond.constantLong "FigureLeaveModel" 243 31 ∈ gw := gw_6 112 (by decide +kernel) (by decide +kernel)
theorem k_J_335 : fML "java/lang/String" 335 M_J_coder := Or.inl (gw_2 179 (by decide +kernel) (by decide +kernel))
theorem k_J_492 : fML "java/lang/String" 492 M_J_isLatin1 := Or.inl (gw_2 189 (by decide +kernel) (by decide +kernel))
theorem k_J_495 : fML "java/lang/String" 495 M_Q_charAt := Or.inl (gw_2 193 (by decide +kernel) (by decide +kernel))
theorem k_J_1059 : fML "java/lang/String" 1059 M_R_checkIndex := Or.inl (gw_2 201 (by decide +kernel) (by decide +kernel))
theorem k_Q_9 : fML "java/lang/StringLatin1" 9 M_J_checkIndex := Or.inl (gw_2 196 (by decide +kernel) (by decide +kernel))
theorem w_maxS : Cond.static Lib.Math.max.name ∈ gw := gw_3 51 (by decide +kernel) (by decide +kernel)
theorem w_maxC : Cond.code Lib.Math.max.name Lib.Math.max.code 2 (some .int) ∈ gw := gw_3 52 (by decide +kernel) (by decide +kernel)
theorem w_minS : Cond.static Lib.Math.min.name ∈ gw := gw_3 48 (by decide +kernel) (by decide +kernel)
theorem w_minC : Cond.code Lib.Math.min.name Lib.Math.min.code 2 (some .int) ∈ gw := gw_3 49 (by decide +kernel) (by decide +kernel)
theorem w_absS : Cond.static Lib.Math.abs.name ∈ gw := gw_3 14 (by decide +kernel) (by decide +kernel)
theorem w_absC : Cond.code Lib.Math.abs.name Lib.Math.abs.code 1 (some .int) ∈ gw := gw_3 15 (by decide +kernel) (by decide +kernel)
theorem w_Math : Cond.initialized "java/lang/Math" ∈ gw := gw_1 17 (by decide +kernel) (by decide +kernel)
theorem w_acN : Cond.native arraycopyName ∈ gw := gw_3 64 (by decide +kernel) (by decide +kernel)
theorem w_acS : Cond.static arraycopyName ∈ gw := gw_3 63 (by decide +kernel) (by decide +kernel)
theorem w_sys : Cond.initialized "java/lang/System" ∈ gw := gw_1 19 (by decide +kernel) (by decide +kernel)
theorem w_oiI : Cond.instanceMethod objectInit ∈ gw := gw_1 26 (by decide +kernel) (by decide +kernel)
theorem w_oiC : Cond.code objectInit ⟨#[0xb1]⟩ 1 none ∈ gw := gw_1 27 (by decide +kernel) (by decide +kernel)
theorem w_ai : Cond.arrayClass .int ∈ gw := gw_1 56 (by decide +kernel) (by decide +kernel)
theorem w_az : Cond.arrayClass .boolean ∈ gw := gw_5 13 (by decide +kernel) (by decide +kernel)
