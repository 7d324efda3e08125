abbrev cX0_clear : ByteArray := prog_2_method_2_code
def yX0_clear : MethodName := ⟨RX0, "clear", "()V"⟩
abbrev cX0_grants : ByteArray := prog_2_method_6_code
def yX0_grants : MethodName := ⟨RX0, "grants", "(II)Z"⟩
abbrev cX0_load : ByteArray := prog_2_method_7_code
def yX0_load : MethodName := ⟨RX0, "load", "(I)V"⟩
abbrev cX0_addDraft : ByteArray := prog_2_method_8_code
def yX0_addDraft : MethodName := ⟨RX0, "addDraft", "(I)V"⟩
abbrev cX0_settle : ByteArray := prog_2_method_9_code
def yX0_settle : MethodName := ⟨RX0, "settle", "(I)I"⟩
abbrev cX0_keep : ByteArray := prog_2_method_10_code
def yX0_keep : MethodName := ⟨RX0, "keep", "(I)I"⟩
abbrev cX0_reduce : ByteArray := prog_2_method_11_code
def yX0_reduce : MethodName := ⟨RX0, "reduce", "()V"⟩
abbrev cX0_hasAnother : ByteArray := prog_2_method_12_code
def yX0_hasAnother : MethodName := ⟨RX0, "hasAnother", "(III)Z"⟩
abbrev cX0_sort : ByteArray := prog_2_method_13_code
def yX0_sort : MethodName := ⟨RX0, "sort", "()V"⟩
abbrev cX0_bucketOf : ByteArray := prog_2_method_14_code
def yX0_bucketOf : MethodName := ⟨RX0, "bucketOf", "()I"⟩
abbrev cX0_isDraft : ByteArray := prog_2_method_15_code
def yX0_isDraft : MethodName := ⟨RX0, "isDraft", "(I)Z"⟩
abbrev cX1_valueOf : ByteArray := prog_3_method_2_code
def yX1_valueOf : MethodName := ⟨RX1, "valueOf", "(II)J"⟩
abbrev cX1_prepare : ByteArray := prog_3_method_5_code
def yX1_prepare : MethodName := ⟨RX1, "prepare", "(LWardenHouse$Unit;IIZ)V"⟩
abbrev cX1_goOn : ByteArray := prog_3_method_6_code
def yX1_goOn : MethodName := ⟨RX1, "goOn", "()I"⟩
abbrev cX1_allEnded : ByteArray := prog_3_method_9_code
def yX1_allEnded : MethodName := ⟨RX1, "allEnded", "()Z"⟩
abbrev cX1_canGoOn : ByteArray := prog_3_method_10_code
def yX1_canGoOn : MethodName := ⟨RX1, "canGoOn", "(I)Z"⟩
abbrev cX1_choose : ByteArray := prog_3_method_11_code
def yX1_choose : MethodName := ⟨RX1, "choose", "()I"⟩
abbrev cX1_goThread : ByteArray := prog_3_method_12_code
def yX1_goThread : MethodName := ⟨RX1, "goThread", "(LWardenHouse$Strand;)V"⟩
abbrev cX1_step : ByteArray := prog_3_method_13_code
def yX1_step : MethodName := ⟨RX1, "step", "(LWardenHouse$Strand;)I"⟩
abbrev cX1_push : ByteArray := prog_3_method_14_code
def yX1_push : MethodName := ⟨RX1, "push", "(LWardenHouse$Strand;J)I"⟩
abbrev cX1_put : ByteArray := prog_3_method_15_code
def yX1_put : MethodName := ⟨RX1, "put", "(LWardenHouse$Strand;I)I"⟩
abbrev cX1_drop : ByteArray := prog_3_method_16_code
def yX1_drop : MethodName := ⟨RX1, "drop", "(LWardenHouse$Strand;)I"⟩
abbrev cX1_jump : ByteArray := prog_3_method_17_code
def yX1_jump : MethodName := ⟨RX1, "jump", "(LWardenHouse$Strand;I)I"⟩
abbrev cX1_fail : ByteArray := prog_3_method_18_code
def yX1_fail : MethodName := ⟨RX1, "fail", "(LWardenHouse$Strand;I)I"⟩
abbrev cX1_jumpIfZero : ByteArray := prog_3_method_19_code
def yX1_jumpIfZero : MethodName := ⟨RX1, "jumpIfZero", "(LWardenHouse$Strand;I)I"⟩
abbrev cX1_closeTry : ByteArray := prog_3_method_20_code
def yX1_closeTry : MethodName := ⟨RX1, "closeTry", "(LWardenHouse$Strand;)I"⟩
abbrev cX1_calculate : ByteArray := prog_3_method_21_code
def yX1_calculate : MethodName := ⟨RX1, "calculate", "(LWardenHouse$Strand;I)I"⟩
abbrev cX1_compareSame : ByteArray := prog_3_method_22_code
def yX1_compareSame : MethodName := ⟨RX1, "compareSame", "(LWardenHouse$Strand;)I"⟩
abbrev cX1_addThing : ByteArray := prog_3_method_23_code
def yX1_addThing : MethodName := ⟨RX1, "addThing", "(I)I"⟩
abbrev cX1_thingOf : ByteArray := prog_3_method_25_code
def yX1_thingOf : MethodName := ⟨RX1, "thingOf", "(J)I"⟩
abbrev cX1_slotsOf : ByteArray := prog_3_method_26_code
def yX1_slotsOf : MethodName := ⟨RX1, "slotsOf", "(J)I"⟩
abbrev cX1_makeObject : ByteArray := prog_3_method_27_code
def yX1_makeObject : MethodName := ⟨RX1, "makeObject", "(LWardenHouse$Strand;I)I"⟩
abbrev cX1_makeFun : ByteArray := prog_3_method_28_code
def yX1_makeFun : MethodName := ⟨RX1, "makeFun", "(LWardenHouse$Strand;LWardenHouse$Unit;)I"⟩
abbrev cX1_readField : ByteArray := prog_3_method_29_code
def yX1_readField : MethodName := ⟨RX1, "readField", "(LWardenHouse$Strand;I)I"⟩
abbrev cX1_writeField : ByteArray := prog_3_method_30_code
def yX1_writeField : MethodName := ⟨RX1, "writeField", "(LWardenHouse$Strand;I)I"⟩
abbrev cX1_send : ByteArray := prog_3_method_31_code
def yX1_send : MethodName := ⟨RX1, "send", "(LWardenHouse$Strand;II)I"⟩
abbrev cX1_call : ByteArray := prog_3_method_32_code
def yX1_call : MethodName := ⟨RX1, "call", "(LWardenHouse$Strand;LWardenHouse$Unit;III)I"⟩
abbrev cX1_apply : ByteArray := prog_3_method_33_code
def yX1_apply : MethodName := ⟨RX1, "apply", "(LWardenHouse$Strand;I)I"⟩
abbrev cX1_pushCaptured : ByteArray := prog_3_method_34_code
def yX1_pushCaptured : MethodName := ⟨RX1, "pushCaptured", "(LWardenHouse$Strand;JLWardenHouse$Unit;)V"⟩
abbrev cX1_callPart : ByteArray := prog_3_method_35_code
def yX1_callPart : MethodName := ⟨RX1, "callPart", "(LWardenHouse$Strand;LWardenHouse$Unit;)I"⟩
abbrev cX1_begin : ByteArray := prog_3_method_36_code
def yX1_begin : MethodName := ⟨RX1, "begin", "(LWardenHouse$Strand;)I"⟩
abbrev cX1_addNode : ByteArray := prog_3_method_37_code
def yX1_addNode : MethodName := ⟨RX1, "addNode", "(LWardenHouse$Unit;I)I"⟩
abbrev cX1_makeContext : ByteArray := prog_3_method_38_code
def yX1_makeContext : MethodName := ⟨RX1, "makeContext", "(LWardenHouse$Unit;I)I"⟩
abbrev cX1_back : ByteArray := prog_3_method_39_code
def yX1_back : MethodName := ⟨RX1, "back", "(LWardenHouse$Strand;)I"⟩
abbrev cX1_raise : ByteArray := prog_3_method_40_code
def yX1_raise : MethodName := ⟨RX1, "raise", "(LWardenHouse$Strand;)I"⟩
abbrev cX1_record : ByteArray := prog_3_method_41_code
def yX1_record : MethodName := ⟨RX1, "record", "(LWardenHouse$Strand;IIII)V"⟩
abbrev cX1_writeOut : ByteArray := prog_3_method_42_code
def yX1_writeOut : MethodName := ⟨RX1, "writeOut", "(LWardenHouse$Strand;)I"⟩
abbrev cX1_failWith : ByteArray := prog_3_method_43_code
def yX1_failWith : MethodName := ⟨RX1, "failWith", "(LWardenHouse$Strand;)I"⟩
abbrev cX1_spawn : ByteArray := prog_3_method_44_code
def yX1_spawn : MethodName := ⟨RX1, "spawn", "(LWardenHouse$Strand;)I"⟩
abbrev cX1_await : ByteArray := prog_3_method_45_code
def yX1_await : MethodName := ⟨RX1, "await", "(LWardenHouse$Strand;)I"⟩
abbrev cX1_takeOutcome : ByteArray := prog_3_method_46_code
def yX1_takeOutcome : MethodName := ⟨RX1, "takeOutcome", "(LWardenHouse$Strand;LWardenHouse$Strand;)I"⟩
abbrev cX1_ask : ByteArray := prog_3_method_47_code
def yX1_ask : MethodName := ⟨RX1, "ask", "(LWardenHouse$Strand;IZ)I"⟩
abbrev cX1_walk : ByteArray := prog_3_method_48_code
def yX1_walk : MethodName := ⟨RX1, "walk", "(II)Z"⟩
abbrev cX2_addUnit : ByteArray := prog_4_method_4_code
def yX2_addUnit : MethodName := ⟨RX2, "addUnit", "(III)LWardenHouse$Unit;"⟩
abbrev cX2_addModule : ByteArray := prog_4_method_5_code
def yX2_addModule : MethodName := ⟨RX2, "addModule", "(J)I"⟩
abbrev cX2_findModule : ByteArray := prog_4_method_6_code
def yX2_findModule : MethodName := ⟨RX2, "findModule", "(J)I"⟩
abbrev cX2_isModule : ByteArray := prog_4_method_7_code
def yX2_isModule : MethodName := ⟨RX2, "isModule", "(I)Z"⟩
abbrev cX2_setSuper : ByteArray := prog_4_method_8_code
def yX2_setSuper : MethodName := ⟨RX2, "setSuper", "(II)V"⟩
abbrev cX2_fieldCount : ByteArray := prog_4_method_9_code
def yX2_fieldCount : MethodName := ⟨RX2, "fieldCount", "(I)I"⟩
abbrev cX2_fieldTotal : ByteArray := prog_4_method_10_code
def yX2_fieldTotal : MethodName := ⟨RX2, "fieldTotal", "(I)I"⟩
abbrev cX2_addField : ByteArray := prog_4_method_11_code
def yX2_addField : MethodName := ⟨RX2, "addField", "(IJ)V"⟩
abbrev cX2_fieldSlot : ByteArray := prog_4_method_12_code
def yX2_fieldSlot : MethodName := ⟨RX2, "fieldSlot", "(IJ)I"⟩
abbrev cX2_methodCount : ByteArray := prog_4_method_13_code
def yX2_methodCount : MethodName := ⟨RX2, "methodCount", "(I)I"⟩
abbrev cX2_addMethod : ByteArray := prog_4_method_14_code
def yX2_addMethod : MethodName := ⟨RX2, "addMethod", "(II)V"⟩
abbrev cX2_ownMethod : ByteArray := prog_4_method_15_code
def yX2_ownMethod : MethodName := ⟨RX2, "ownMethod", "(IJI)I"⟩
abbrev cX2_findMethod : ByteArray := prog_4_method_16_code
def yX2_findMethod : MethodName := ⟨RX2, "findMethod", "(IJI)I"⟩
abbrev cX2_numberIndex : ByteArray := prog_4_method_17_code
def yX2_numberIndex : MethodName := ⟨RX2, "numberIndex", "(I)I"⟩
abbrev cX2_nameIndex : ByteArray := prog_4_method_19_code
def yX2_nameIndex : MethodName := ⟨RX2, "nameIndex", "(J)I"⟩
abbrev cX2_settleGroups : ByteArray := prog_4_method_22_code
def yX2_settleGroups : MethodName := ⟨RX2, "settleGroups", "()V"⟩
abbrev cX2_handsContext : ByteArray := prog_4_method_24_code
def yX2_handsContext : MethodName := ⟨RX2, "handsContext", "(III)Z"⟩
abbrev cX2_writeCode : ByteArray := prog_4_method_25_code
def yX2_writeCode : MethodName := ⟨RX2, "writeCode", "()V"⟩
abbrev cX3_addGrant : ByteArray := prog_5_method_4_code
def yX3_addGrant : MethodName := ⟨RX3, "addGrant", "(LWardenHouse$Right;)V"⟩
abbrev cX3_addLimit : ByteArray := prog_5_method_5_code
def yX3_addLimit : MethodName := ⟨RX3, "addLimit", "()V"⟩
abbrev cX3_addGrantRight : ByteArray := prog_5_method_6_code
def yX3_addGrantRight : MethodName := ⟨RX3, "addGrantRight", "(LWardenHouse$Right;)V"⟩
abbrev cX3_addLimitRight : ByteArray := prog_5_method_7_code
def yX3_addLimitRight : MethodName := ⟨RX3, "addLimitRight", "(LWardenHouse$Right;)V"⟩
abbrev cX3_setRight : ByteArray := prog_5_method_8_code
def yX3_setRight : MethodName := ⟨RX3, "setRight", "(ILWardenHouse$Right;)V"⟩
abbrev cX3_addAsking : ByteArray := prog_5_method_9_code
def yX3_addAsking : MethodName := ⟨RX3, "addAsking", "()V"⟩
abbrev cX3_setAsking : ByteArray := prog_5_method_10_code
def yX3_setAsking : MethodName := ⟨RX3, "setAsking", "(ILWardenHouse$Right;)V"⟩
abbrev cX3_setIndexed : ByteArray := prog_5_method_11_code
def yX3_setIndexed : MethodName := ⟨RX3, "setIndexed", "(I)V"⟩
abbrev cX3_isIndexed : ByteArray := prog_5_method_12_code
def yX3_isIndexed : MethodName := ⟨RX3, "isIndexed", "(I)Z"⟩
abbrev cX3_placeModule : ByteArray := prog_5_method_13_code
def yX3_placeModule : MethodName := ⟨RX3, "placeModule", "(ILWardenHouse$Right;)V"⟩
abbrev cX3_settleAskings : ByteArray := prog_5_method_17_code
def yX3_settleAskings : MethodName := ⟨RX3, "settleAskings", "()V"⟩
abbrev cX3_holdersOf : ByteArray := prog_5_method_18_code
def yX3_holdersOf : MethodName := ⟨RX3, "holdersOf", "(I)I"⟩
abbrev cX3_aim : ByteArray := prog_5_method_19_code
def yX3_aim : MethodName := ⟨RX3, "aim", "(II)V"⟩
abbrev cX4_readGrants : ByteArray := prog_6_method_2_code
def yX4_readGrants : MethodName := ⟨RX4, "readGrants", "()V"⟩
abbrev cX4_hasModule : ByteArray := prog_6_method_3_code
def yX4_hasModule : MethodName := ⟨RX4, "hasModule", "()Z"⟩
abbrev cX4_refuse : ByteArray := prog_6_method_4_code
def yX4_refuse : MethodName := ⟨RX4, "refuse", "(II)V"⟩
abbrev cX4_need : ByteArray := prog_6_method_5_code
def yX4_need : MethodName := ⟨RX4, "need", "(Z)V"⟩
abbrev cX4_room : ByteArray := prog_6_method_6_code
def yX4_room : MethodName := ⟨RX4, "room", "(Z)V"⟩
abbrev cX4_pass : ByteArray := prog_6_method_7_code
def yX4_pass : MethodName := ⟨RX4, "pass", "(I)V"⟩
abbrev cX4_needName : ByteArray := prog_6_method_8_code
def yX4_needName : MethodName := ⟨RX4, "needName", "()V"⟩
abbrev cX4_takePattern : ByteArray := prog_6_method_9_code
def yX4_takePattern : MethodName := ⟨RX4, "takePattern", "(Z)V"⟩
abbrev cX4_readGrant : ByteArray := prog_6_method_10_code
def yX4_readGrant : MethodName := ⟨RX4, "readGrant", "()V"⟩
abbrev cX4_readRight : ByteArray := prog_6_method_11_code
def yX4_readRight : MethodName := ⟨RX4, "readRight", "(IZ)V"⟩
abbrev cX4_readModule : ByteArray := prog_6_method_12_code
def yX4_readModule : MethodName := ⟨RX4, "readModule", "()V"⟩
abbrev cX4_readSuper : ByteArray := prog_6_method_13_code
def yX4_readSuper : MethodName := ⟨RX4, "readSuper", "()V"⟩
abbrev cX4_readField : ByteArray := prog_6_method_14_code
def yX4_readField : MethodName := ⟨RX4, "readField", "()V"⟩
abbrev cX4_readMethod : ByteArray := prog_6_method_15_code
def yX4_readMethod : MethodName := ⟨RX4, "readMethod", "()V"⟩
abbrev cX4_openUnit : ByteArray := prog_6_method_16_code
def yX4_openUnit : MethodName := ⟨RX4, "openUnit", "(I)LWardenHouse$Unit;"⟩
abbrev cX4_closeInner : ByteArray := prog_6_method_17_code
def yX4_closeInner : MethodName := ⟨RX4, "closeInner", "(LWardenHouse$Unit;I)V"⟩
abbrev cX4_readParameters : ByteArray := prog_6_method_18_code
def yX4_readParameters : MethodName := ⟨RX4, "readParameters", "()V"⟩
abbrev cX4_declare : ByteArray := prog_6_method_19_code
def yX4_declare : MethodName := ⟨RX4, "declare", "(JI)V"⟩
abbrev cX4_findVariable : ByteArray := prog_6_method_20_code
def yX4_findVariable : MethodName := ⟨RX4, "findVariable", "(J)I"⟩
abbrev cX4_part : ByteArray := prog_6_method_21_code
def yX4_part : MethodName := ⟨RX4, "part", "()V"⟩
abbrev cX4_getVariable : ByteArray := prog_6_method_22_code
def yX4_getVariable : MethodName := ⟨RX4, "getVariable", "(I)V"⟩
abbrev cX4_readExpression : ByteArray := prog_6_method_23_code
def yX4_readExpression : MethodName := ⟨RX4, "readExpression", "(I)V"⟩
abbrev cX4_readLet : ByteArray := prog_6_method_24_code
def yX4_readLet : MethodName := ⟨RX4, "readLet", "(I)V"⟩
abbrev cX4_readBound : ByteArray := prog_6_method_25_code
def yX4_readBound : MethodName := ⟨RX4, "readBound", "(JII)V"⟩
abbrev cX4_readIf : ByteArray := prog_6_method_26_code
def yX4_readIf : MethodName := ⟨RX4, "readIf", "(I)V"⟩
abbrev cX4_readTry : ByteArray := prog_6_method_27_code
def yX4_readTry : MethodName := ⟨RX4, "readTry", "(I)V"⟩
abbrev cX4_readComparison : ByteArray := prog_6_method_28_code
def yX4_readComparison : MethodName := ⟨RX4, "readComparison", "(I)V"⟩
abbrev cX4_readSum : ByteArray := prog_6_method_29_code
def yX4_readSum : MethodName := ⟨RX4, "readSum", "(I)V"⟩
abbrev cX4_readProduct : ByteArray := prog_6_method_30_code
def yX4_readProduct : MethodName := ⟨RX4, "readProduct", "(I)V"⟩
abbrev cX4_readInnerPrefix : ByteArray := prog_6_method_31_code
def yX4_readInnerPrefix : MethodName := ⟨RX4, "readInnerPrefix", "(I)V"⟩
abbrev cX4_readPrefix : ByteArray := prog_6_method_32_code
def yX4_readPrefix : MethodName := ⟨RX4, "readPrefix", "(I)V"⟩
abbrev cX4_readWord : ByteArray := prog_6_method_33_code
def yX4_readWord : MethodName := ⟨RX4, "readWord", "(II)V"⟩
abbrev cX4_readPriv : ByteArray := prog_6_method_34_code
def yX4_readPriv : MethodName := ⟨RX4, "readPriv", "(I)V"⟩
abbrev cX4_openLimit : ByteArray := prog_6_method_35_code
def yX4_openLimit : MethodName := ⟨RX4, "openLimit", "(LWardenHouse$Unit;)V"⟩
abbrev cX4_readUnder : ByteArray := prog_6_method_36_code
def yX4_readUnder : MethodName := ⟨RX4, "readUnder", "(I)V"⟩
abbrev cX4_readPostfix : ByteArray := prog_6_method_37_code
def yX4_readPostfix : MethodName := ⟨RX4, "readPostfix", "(I)V"⟩
abbrev cX4_readMember : ByteArray := prog_6_method_38_code
def yX4_readMember : MethodName := ⟨RX4, "readMember", "(I)Z"⟩
abbrev cX4_readArguments : ByteArray := prog_6_method_39_code
def yX4_readArguments : MethodName := ⟨RX4, "readArguments", "(I)I"⟩
abbrev cX4_readAtom : ByteArray := prog_6_method_40_code
def yX4_readAtom : MethodName := ⟨RX4, "readAtom", "(I)V"⟩
abbrev cX4_readPlainAtom : ByteArray := prog_6_method_41_code
def yX4_readPlainAtom : MethodName := ⟨RX4, "readPlainAtom", "()V"⟩
abbrev cX4_variableKey : ByteArray := prog_6_method_42_code
def yX4_variableKey : MethodName := ⟨RX4, "variableKey", "()I"⟩
abbrev cX4_readNew : ByteArray := prog_6_method_43_code
def yX4_readNew : MethodName := ⟨RX4, "readNew", "()V"⟩
abbrev cX4_readFun : ByteArray := prog_6_method_44_code
def yX4_readFun : MethodName := ⟨RX4, "readFun", "(I)V"⟩
abbrev cX4_readRow : ByteArray := prog_6_method_45_code
def yX4_readRow : MethodName := ⟨RX4, "readRow", "(I)V"⟩
abbrev cX4_readAsking : ByteArray := prog_6_method_46_code
def yX4_readAsking : MethodName := ⟨RX4, "readAsking", "(II)V"⟩
abbrev cX5_take : ByteArray := prog_7_method_2_code
def yX5_take : MethodName := ⟨RX5, "take", "(LWardenHouse$Right;)V"⟩
abbrev cX5_addStep : ByteArray := prog_7_method_3_code
def yX5_addStep : MethodName := ⟨RX5, "addStep", "(J)V"⟩
abbrev cX5_addDigits : ByteArray := prog_7_method_4_code
def yX5_addDigits : MethodName := ⟨RX5, "addDigits", "(I)V"⟩
abbrev cX7_clear : ByteArray := prog_9_method_2_code
def yX7_clear : MethodName := ⟨RX7, "clear", "(I)V"⟩
abbrev cX7_call : ByteArray := prog_9_method_3_code
def yX7_call : MethodName := ⟨RX7, "call", "(LWardenHouse$Unit;III)V"⟩
abbrev cX7_enter : ByteArray := prog_9_method_4_code
def yX7_enter : MethodName := ⟨RX7, "enter", "(II)V"⟩
abbrev cX7_leave : ByteArray := prog_9_method_5_code
def yX7_leave : MethodName := ⟨RX7, "leave", "()V"⟩
abbrev cX7_framed : ByteArray := prog_9_method_6_code
def yX7_framed : MethodName := ⟨RX7, "framed", "()Z"⟩
abbrev cX7_unitNow : ByteArray := prog_9_method_7_code
def yX7_unitNow : MethodName := ⟨RX7, "unitNow", "()I"⟩
abbrev cX7_placeNow : ByteArray := prog_9_method_8_code
def yX7_placeNow : MethodName := ⟨RX7, "placeNow", "()I"⟩
abbrev cX7_goTo : ByteArray := prog_9_method_9_code
def yX7_goTo : MethodName := ⟨RX7, "goTo", "(I)V"⟩
abbrev cX7_baseNow : ByteArray := prog_9_method_10_code
def yX7_baseNow : MethodName := ⟨RX7, "baseNow", "()I"⟩
abbrev cX7_nodeNow : ByteArray := prog_9_method_11_code
def yX7_nodeNow : MethodName := ⟨RX7, "nodeNow", "()I"⟩
abbrev cX7_contextNow : ByteArray := prog_9_method_12_code
def yX7_contextNow : MethodName := ⟨RX7, "contextNow", "()I"⟩
abbrev cX7_peek : ByteArray := prog_9_method_13_code
def yX7_peek : MethodName := ⟨RX7, "peek", "(I)J"⟩
abbrev cX7_dropToTry : ByteArray := prog_9_method_14_code
def yX7_dropToTry : MethodName := ⟨RX7, "dropToTry", "()I"⟩
abbrev cX7_finish : ByteArray := prog_9_method_15_code
def yX7_finish : MethodName := ⟨RX7, "finish", "(IJ)V"⟩
abbrev cX8_findNeeds : ByteArray := prog_10_method_3_code
def yX8_findNeeds : MethodName := ⟨RX8, "findNeeds", "()V"⟩
abbrev cX8_wantsContext : ByteArray := prog_10_method_4_code
def yX8_wantsContext : MethodName := ⟨RX8, "wantsContext", "(LWardenHouse$Unit;)Z"⟩
abbrev cX8_setNeeds : ByteArray := prog_10_method_5_code
def yX8_setNeeds : MethodName := ⟨RX8, "setNeeds", "(I)V"⟩
abbrev cX9_open : ByteArray := prog_11_method_2_code
def yX9_open : MethodName := ⟨RX9, "open", "(IIII)V"⟩
abbrev cX9_ownKey : ByteArray := prog_11_method_3_code
def yX9_ownKey : MethodName := ⟨RX9, "ownKey", "(I)I"⟩
abbrev cX9_ownerOf : ByteArray := prog_11_method_4_code
def yX9_ownerOf : MethodName := ⟨RX9, "ownerOf", "(I)I"⟩
abbrev cX9_addOwn : ByteArray := prog_11_method_5_code
def yX9_addOwn : MethodName := ⟨RX9, "addOwn", "()I"⟩
abbrev cX9_addLabel : ByteArray := prog_11_method_6_code
def yX9_addLabel : MethodName := ⟨RX9, "addLabel", "()I"⟩
abbrev cX9_capture : ByteArray := prog_11_method_7_code
def yX9_capture : MethodName := ⟨RX9, "capture", "(I)V"⟩
abbrev cX9_captureIndex : ByteArray := prog_11_method_8_code
def yX9_captureIndex : MethodName := ⟨RX9, "captureIndex", "(I)I"⟩
abbrev cX9_localOf : ByteArray := prog_11_method_10_code
def yX9_localOf : MethodName := ⟨RX9, "localOf", "(I)I"⟩
abbrev cX9_emit : ByteArray := prog_11_method_11_code
def yX9_emit : MethodName := ⟨RX9, "emit", "(III)V"⟩
abbrev cX9_write : ByteArray := prog_11_method_16_code
def yX9_write : MethodName := ⟨RX9, "write", "(LWardenHouse$Plan;Z[I)V"⟩
abbrev cX9_writeEntry : ByteArray := prog_11_method_17_code
def yX9_writeEntry : MethodName := ⟨RX9, "writeEntry", "(LWardenHouse$Row;)V"⟩
abbrev cX9_writeOne : ByteArray := prog_11_method_18_code
def yX9_writeOne : MethodName := ⟨RX9, "writeOne", "(LWardenHouse$Plan;LWardenHouse$Row;I[I)V"⟩
abbrev cX9_operandOf : ByteArray := prog_11_method_19_code
def yX9_operandOf : MethodName := ⟨RX9, "operandOf", "(II[I)I"⟩
abbrev cX10_hasTail : ByteArray := prog_12_method_7_code
def yX10_hasTail : MethodName := ⟨RX10, "hasTail", "()Z"⟩
abbrev cX10_copyPattern : ByteArray := prog_12_method_8_code
def yX10_copyPattern : MethodName := ⟨RX10, "copyPattern", "(LWardenHouse$Right;)V"⟩
abbrev cX10_beginsPrefix : ByteArray := prog_12_method_9_code
def yX10_beginsPrefix : MethodName := ⟨RX10, "beginsPrefix", "()Z"⟩
abbrev cX10_beginsExpression : ByteArray := prog_12_method_10_code
def yX10_beginsExpression : MethodName := ⟨RX10, "beginsExpression", "()Z"⟩
abbrev cX11_program : ByteArray := prog_1_method_5_code
def yX11_program : MethodName := ⟨RX11, "program", "()I"⟩
abbrev cX11_asks : ByteArray := prog_1_method_13_code
def yX11_asks : MethodName := ⟨RX11, "asks", "()Z"⟩
abbrev cX11_run : ByteArray := prog_1_method_16_code
def yX11_run : MethodName := ⟨RX11, "run", "(IIIZ)I"⟩
theorem dX0_clear_0 : decode cX0_clear 0 = .ok (.aload_n 0, 1) := by decide +kernel
theorem dX0_clear_1 : decode cX0_clear 1 = .ok (.getfield 14, 3) := by decide +kernel
theorem dX0_clear_4 : decode cX0_clear 4 = .ok (.iconst 0, 1) := by decide +kernel
theorem dX0_clear_5 : decode cX0_clear 5 = .ok (.invokevirtual 33, 3) := by decide +kernel
theorem dX0_clear_8 : decode cX0_clear 8 = .ok (.aload_n 0, 1) := by decide +kernel
theorem dX0_clear_9 : decode cX0_clear 9 = .ok (.getfield 20, 3) := by decide +kernel
theorem dX0_clear_12 : decode cX0_clear 12 = .ok (.iconst 0, 1) := by decide +kernel
theorem dX0_clear_13 : decode cX0_clear 13 = .ok (.invokevirtual 33, 3) := by decide +kernel
theorem dX0_clear_16 : decode cX0_clear 16 = .ok (.aload_n 0, 1) := by decide +kernel
theorem dX0_clear_17 : decode cX0_clear 17 = .ok (.getfield 23, 3) := by decide +kernel
theorem dX0_clear_20 : decode cX0_clear 20 = .ok (.iconst 0, 1) := by decide +kernel
theorem dX0_clear_21 : decode cX0_clear 21 = .ok (.invokevirtual 33, 3) := by decide +kernel
theorem dX0_clear_24 : decode cX0_clear 24 = .ok (.aload_n 0, 1) := by decide +kernel
theorem dX0_clear_25 : decode cX0_clear 25 = .ok (.getfield 26, 3) := by decide +kernel
theorem dX0_clear_28 : decode cX0_clear 28 = .ok (.iconst (-1), 1) := by decide +kernel
theorem dX0_clear_29 : decode cX0_clear 29 = .ok (.invokestatic 36, 3) := by decide +kernel
theorem dX0_clear_32 : decode cX0_clear 32 = .ok (.return_, 1) := by decide +kernel
theorem dX0_productCount_0 : decode cX0_productCount 0 = .ok (.iload_n 1, 1) := by decide +kernel
theorem dX0_productCount_1 : decode cX0_productCount 1 = .ok (.iconst 1, 1) := by decide +kernel
theorem dX0_productCount_2 : decode cX0_productCount 2 = .ok (.iadd, 1) := by decide +kernel
theorem dX0_productCount_3 : decode cX0_productCount 3 = .ok (.aload_n 0, 1) := by decide +kernel
theorem dX0_productCount_4 : decode cX0_productCount 4 = .ok (.getfield 14, 3) := by decide +kernel
theorem dX0_productCount_7 : decode cX0_productCount 7 = .ok (.getfield 42, 3) := by decide +kernel
theorem dX0_productCount_10 : decode cX0_productCount 10 = .ok (.if_icmp .ge 16, 3) := by decide +kernel
theorem dX0_productCount_13 : decode cX0_productCount 13 = .ok (.aload_n 0, 1) := by decide +kernel
theorem dX0_productCount_14 : decode cX0_productCount 14 = .ok (.getfield 14, 3) := by decide +kernel
theorem dX0_productCount_17 : decode cX0_productCount 17 = .ok (.iload_n 1, 1) := by decide +kernel
theorem dX0_productCount_18 : decode cX0_productCount 18 = .ok (.iconst 1, 1) := by decide +kernel
theorem dX0_productCount_19 : decode cX0_productCount 19 = .ok (.iadd, 1) := by decide +kernel
theorem dX0_productCount_20 : decode cX0_productCount 20 = .ok (.invokevirtual 46, 3) := by decide +kernel
theorem dX0_productCount_23 : decode cX0_productCount 23 = .ok (.goto 10, 3) := by decide +kernel
theorem dX0_productCount_26 : decode cX0_productCount 26 = .ok (.aload_n 0, 1) := by decide +kernel
theorem dX0_productCount_27 : decode cX0_productCount 27 = .ok (.getfield 20, 3) := by decide +kernel
theorem dX0_productCount_30 : decode cX0_productCount 30 = .ok (.getfield 42, 3) := by decide +kernel
theorem dX0_productCount_33 : decode cX0_productCount 33 = .ok (.istore_n 2, 1) := by decide +kernel
theorem dX0_productCount_34 : decode cX0_productCount 34 = .ok (.iload_n 2, 1) := by decide +kernel
theorem dX0_productCount_35 : decode cX0_productCount 35 = .ok (.aload_n 0, 1) := by decide +kernel
theorem dX0_productCount_36 : decode cX0_productCount 36 = .ok (.getfield 14, 3) := by decide +kernel
theorem dX0_productCount_39 : decode cX0_productCount 39 = .ok (.iload_n 1, 1) := by decide +kernel
theorem dX0_productCount_40 : decode cX0_productCount 40 = .ok (.invokevirtual 46, 3) := by decide +kernel
theorem dX0_productCount_43 : decode cX0_productCount 43 = .ok (.isub, 1) := by decide +kernel
theorem dX0_productCount_44 : decode cX0_productCount 44 = .ok (.ireturn, 1) := by decide +kernel
theorem dX0_product_0 : decode cX0_product 0 = .ok (.aload_n 0, 1) := by decide +kernel
theorem dX0_product_1 : decode cX0_product 1 = .ok (.getfield 20, 3) := by decide +kernel
theorem dX0_product_4 : decode cX0_product 4 = .ok (.aload_n 0, 1) := by decide +kernel
theorem dX0_product_5 : decode cX0_product 5 = .ok (.getfield 14, 3) := by decide +kernel
theorem dX0_product_8 : decode cX0_product 8 = .ok (.iload_n 1, 1) := by decide +kernel
theorem dX0_product_9 : decode cX0_product 9 = .ok (.invokevirtual 46, 3) := by decide +kernel
theorem dX0_product_12 : decode cX0_product 12 = .ok (.iload_n 2, 1) := by decide +kernel
theorem dX0_product_13 : decode cX0_product 13 = .ok (.iadd, 1) := by decide +kernel
theorem dX0_product_14 : decode cX0_product 14 = .ok (.invokevirtual 46, 3) := by decide +kernel
theorem dX0_product_17 : decode cX0_product 17 = .ok (.ireturn, 1) := by decide +kernel
theorem dX0_grants_0 : decode cX0_grants 0 = .ok (.iload_n 1, 1) := by decide +kernel
theorem dX0_grants_1 : decode cX0_grants 1 = .ok (.iconst (-1), 1) := by decide +kernel
theorem dX0_grants_2 : decode cX0_grants 2 = .ok (.if_icmp .ne 7, 3) := by decide +kernel
theorem dX0_grants_5 : decode cX0_grants 5 = .ok (.iconst 1, 1) := by decide +kernel
theorem dX0_grants_6 : decode cX0_grants 6 = .ok (.goto 4, 3) := by decide +kernel
theorem dX0_grants_9 : decode cX0_grants 9 = .ok (.iconst 0, 1) := by decide +kernel
theorem dX0_grants_10 : decode cX0_grants 10 = .ok (.istore_n 3, 1) := by decide +kernel
theorem dX0_grants_11 : decode cX0_grants 11 = .ok (.iconst 0, 1) := by decide +kernel
theorem dX0_grants_12 : decode cX0_grants 12 = .ok (.istore 4, 2) := by decide +kernel
theorem dX0_grants_14 : decode cX0_grants 14 = .ok (.iload_n 3, 1) := by decide +kernel
theorem dX0_grants_15 : decode cX0_grants 15 = .ok (.ifCond .ne 39, 3) := by decide +kernel
theorem dX0_grants_18 : decode cX0_grants 18 = .ok (.iload 4, 2) := by decide +kernel
theorem dX0_grants_20 : decode cX0_grants 20 = .ok (.aload_n 0, 1) := by decide +kernel
theorem dX0_grants_21 : decode cX0_grants 21 = .ok (.iload_n 1, 1) := by decide +kernel
theorem dX0_grants_22 : decode cX0_grants 22 = .ok (.invokevirtual 50, 3) := by decide +kernel
theorem dX0_grants_25 : decode cX0_grants 25 = .ok (.if_icmp .ge 29, 3) := by decide +kernel
theorem dX0_grants_28 : decode cX0_grants 28 = .ok (.aload_n 0, 1) := by decide +kernel
theorem dX0_grants_29 : decode cX0_grants 29 = .ok (.iload_n 1, 1) := by decide +kernel
theorem dX0_grants_30 : decode cX0_grants 30 = .ok (.iload 4, 2) := by decide +kernel
theorem dX0_grants_32 : decode cX0_grants 32 = .ok (.invokevirtual 53, 3) := by decide +kernel
theorem dX0_grants_35 : decode cX0_grants 35 = .ok (.iload_n 2, 1) := by decide +kernel
theorem dX0_grants_36 : decode cX0_grants 36 = .ok (.iconst (-1), 1) := by decide +kernel
theorem dX0_grants_37 : decode cX0_grants 37 = .ok (.ixor, 1) := by decide +kernel
theorem dX0_grants_38 : decode cX0_grants 38 = .ok (.iand, 1) := by decide +kernel
theorem dX0_grants_39 : decode cX0_grants 39 = .ok (.ifCond .ne 7, 3) := by decide +kernel
theorem dX0_grants_42 : decode cX0_grants 42 = .ok (.iconst 1, 1) := by decide +kernel
theorem dX0_grants_43 : decode cX0_grants 43 = .ok (.goto 4, 3) := by decide +kernel
theorem dX0_grants_46 : decode cX0_grants 46 = .ok (.iconst 0, 1) := by decide +kernel
theorem dX0_grants_47 : decode cX0_grants 47 = .ok (.istore_n 3, 1) := by decide +kernel
theorem dX0_grants_48 : decode cX0_grants 48 = .ok (.iinc 4 1, 3) := by decide +kernel
theorem dX0_grants_51 : decode cX0_grants 51 = .ok (.goto (-37), 3) := by decide +kernel
theorem dX0_grants_54 : decode cX0_grants 54 = .ok (.iload_n 3, 1) := by decide +kernel
theorem dX0_grants_55 : decode cX0_grants 55 = .ok (.ireturn, 1) := by decide +kernel
theorem dX0_load_0 : decode cX0_load 0 = .ok (.aload_n 0, 1) := by decide +kernel
theorem dX0_load_1 : decode cX0_load 1 = .ok (.iconst 0, 1) := by decide +kernel
theorem dX0_load_2 : decode cX0_load 2 = .ok (.putfield 57, 3) := by decide +kernel
theorem dX0_load_5 : decode cX0_load 5 = .ok (.iload_n 1, 1) := by decide +kernel
theorem dX0_load_6 : decode cX0_load 6 = .ok (.iconst (-1), 1) := by decide +kernel
theorem dX0_load_7 : decode cX0_load 7 = .ok (.if_icmp .ne 9, 3) := by decide +kernel
theorem dX0_load_10 : decode cX0_load 10 = .ok (.aload_n 0, 1) := by decide +kernel
theorem dX0_load_11 : decode cX0_load 11 = .ok (.iconst 0, 1) := by decide +kernel
theorem dX0_load_12 : decode cX0_load 12 = .ok (.invokevirtual 60, 3) := by decide +kernel
theorem dX0_load_15 : decode cX0_load 15 = .ok (.return_, 1) := by decide +kernel
theorem dX0_load_16 : decode cX0_load 16 = .ok (.iconst 0, 1) := by decide +kernel
theorem dX0_load_17 : decode cX0_load 17 = .ok (.istore_n 2, 1) := by decide +kernel
theorem dX0_load_18 : decode cX0_load 18 = .ok (.iload_n 2, 1) := by decide +kernel
theorem dX0_load_19 : decode cX0_load 19 = .ok (.aload_n 0, 1) := by decide +kernel
theorem dX0_load_20 : decode cX0_load 20 = .ok (.iload_n 1, 1) := by decide +kernel
theorem dX0_load_21 : decode cX0_load 21 = .ok (.invokevirtual 50, 3) := by decide +kernel
theorem dX0_load_24 : decode cX0_load 24 = .ok (.if_icmp .ge 19, 3) := by decide +kernel
theorem dX0_load_27 : decode cX0_load 27 = .ok (.aload_n 0, 1) := by decide +kernel
theorem dX0_load_28 : decode cX0_load 28 = .ok (.aload_n 0, 1) := by decide +kernel
theorem dX0_load_29 : decode cX0_load 29 = .ok (.iload_n 1, 1) := by decide +kernel
theorem dX0_load_30 : decode cX0_load 30 = .ok (.iload_n 2, 1) := by decide +kernel
theorem dX0_load_31 : decode cX0_load 31 = .ok (.invokevirtual 53, 3) := by decide +kernel
theorem dX0_load_34 : decode cX0_load 34 = .ok (.invokevirtual 60, 3) := by decide +kernel
theorem dX0_load_37 : decode cX0_load 37 = .ok (.iinc 2 1, 3) := by decide +kernel
theorem dX0_load_40 : decode cX0_load 40 = .ok (.goto (-22), 3) := by decide +kernel
theorem dX0_load_43 : decode cX0_load 43 = .ok (.return_, 1) := by decide +kernel
theorem dX0_addDraft_0 : decode cX0_addDraft 0 = .ok (.aload_n 0, 1) := by decide +kernel
theorem dX0_addDraft_1 : decode cX0_addDraft 1 = .ok (.getfield 57, 3) := by decide +kernel
theorem dX0_addDraft_4 : decode cX0_addDraft 4 = .ok (.bipush 14, 2) := by decide +kernel
theorem dX0_addDraft_6 : decode cX0_addDraft 6 = .ok (.if_icmp .ge 23, 3) := by decide +kernel
theorem dX0_addDraft_9 : decode cX0_addDraft 9 = .ok (.aload_n 0, 1) := by decide +kernel
theorem dX0_addDraft_10 : decode cX0_addDraft 10 = .ok (.getfield 30, 3) := by decide +kernel
theorem dX0_addDraft_13 : decode cX0_addDraft 13 = .ok (.aload_n 0, 1) := by decide +kernel
theorem dX0_addDraft_14 : decode cX0_addDraft 14 = .ok (.getfield 57, 3) := by decide +kernel
theorem dX0_addDraft_17 : decode cX0_addDraft 17 = .ok (.iload_n 1, 1) := by decide +kernel
theorem dX0_addDraft_18 : decode cX0_addDraft 18 = .ok (.iastore, 1) := by decide +kernel
theorem dX0_addDraft_19 : decode cX0_addDraft 19 = .ok (.aload_n 0, 1) := by decide +kernel
theorem dX0_addDraft_20 : decode cX0_addDraft 20 = .ok (.dup, 1) := by decide +kernel
theorem dX0_addDraft_21 : decode cX0_addDraft 21 = .ok (.getfield 57, 3) := by decide +kernel
theorem dX0_addDraft_24 : decode cX0_addDraft 24 = .ok (.iconst 1, 1) := by decide +kernel
theorem dX0_addDraft_25 : decode cX0_addDraft 25 = .ok (.iadd, 1) := by decide +kernel
theorem dX0_addDraft_26 : decode cX0_addDraft 26 = .ok (.putfield 57, 3) := by decide +kernel
theorem dX0_addDraft_29 : decode cX0_addDraft 29 = .ok (.return_, 1) := by decide +kernel
theorem dX0_settle_0 : decode cX0_settle 0 = .ok (.iconst 0, 1) := by decide +kernel
theorem dX0_settle_1 : decode cX0_settle 1 = .ok (.istore_n 2, 1) := by decide +kernel
theorem dX0_settle_2 : decode cX0_settle 2 = .ok (.iload_n 2, 1) := by decide +kernel
theorem dX0_settle_3 : decode cX0_settle 3 = .ok (.aload_n 0, 1) := by decide +kernel
theorem dX0_settle_4 : decode cX0_settle 4 = .ok (.getfield 57, 3) := by decide +kernel
theorem dX0_settle_7 : decode cX0_settle 7 = .ok (.if_icmp .ge 21, 3) := by decide +kernel
theorem dX0_settle_10 : decode cX0_settle 10 = .ok (.aload_n 0, 1) := by decide +kernel
theorem dX0_settle_11 : decode cX0_settle 11 = .ok (.getfield 30, 3) := by decide +kernel
theorem dX0_settle_14 : decode cX0_settle 14 = .ok (.iload_n 2, 1) := by decide +kernel
theorem dX0_settle_15 : decode cX0_settle 15 = .ok (.dup2, 1) := by decide +kernel
theorem dX0_settle_16 : decode cX0_settle 16 = .ok (.iaload, 1) := by decide +kernel
theorem dX0_settle_17 : decode cX0_settle 17 = .ok (.iconst 1, 1) := by decide +kernel
theorem dX0_settle_18 : decode cX0_settle 18 = .ok (.iload_n 1, 1) := by decide +kernel
theorem dX0_settle_19 : decode cX0_settle 19 = .ok (.ishl, 1) := by decide +kernel
theorem dX0_settle_20 : decode cX0_settle 20 = .ok (.ior, 1) := by decide +kernel
theorem dX0_settle_21 : decode cX0_settle 21 = .ok (.iastore, 1) := by decide +kernel
theorem dX0_settle_22 : decode cX0_settle 22 = .ok (.iinc 2 1, 3) := by decide +kernel
theorem dX0_settle_25 : decode cX0_settle 25 = .ok (.goto (-23), 3) := by decide +kernel
theorem dX0_settle_28 : decode cX0_settle 28 = .ok (.aload_n 0, 1) := by decide +kernel
theorem dX0_settle_29 : decode cX0_settle 29 = .ok (.invokevirtual 63, 3) := by decide +kernel
theorem dX0_settle_32 : decode cX0_settle 32 = .ok (.aload_n 0, 1) := by decide +kernel
theorem dX0_settle_33 : decode cX0_settle 33 = .ok (.invokevirtual 66, 3) := by decide +kernel
theorem dX0_settle_36 : decode cX0_settle 36 = .ok (.aload_n 0, 1) := by decide +kernel
theorem dX0_settle_37 : decode cX0_settle 37 = .ok (.invokevirtual 69, 3) := by decide +kernel
theorem dX0_settle_40 : decode cX0_settle 40 = .ok (.istore_n 2, 1) := by decide +kernel
theorem dX0_settle_41 : decode cX0_settle 41 = .ok (.iload_n 2, 1) := by decide +kernel
theorem dX0_settle_42 : decode cX0_settle 42 = .ok (.ifCond .lt 19, 3) := by decide +kernel
theorem dX0_settle_45 : decode cX0_settle 45 = .ok (.iload_n 2, 1) := by decide +kernel
theorem dX0_settle_46 : decode cX0_settle 46 = .ok (.sipush 256, 3) := by decide +kernel
theorem dX0_settle_49 : decode cX0_settle 49 = .ok (.if_icmp .ge 12, 3) := by decide +kernel
theorem dX0_settle_52 : decode cX0_settle 52 = .ok (.aload_n 0, 1) := by decide +kernel
theorem dX0_settle_53 : decode cX0_settle 53 = .ok (.getfield 26, 3) := by decide +kernel
theorem dX0_settle_56 : decode cX0_settle 56 = .ok (.iload_n 2, 1) := by decide +kernel
theorem dX0_settle_57 : decode cX0_settle 57 = .ok (.iaload, 1) := by decide +kernel
theorem dX0_settle_58 : decode cX0_settle 58 = .ok (.goto 4, 3) := by decide +kernel
theorem dX0_settle_61 : decode cX0_settle 61 = .ok (.iconst (-1), 1) := by decide +kernel
theorem dX0_settle_62 : decode cX0_settle 62 = .ok (.istore_n 3, 1) := by decide +kernel
theorem dX0_settle_63 : decode cX0_settle 63 = .ok (.iconst 0, 1) := by decide +kernel
theorem dX0_settle_64 : decode cX0_settle 64 = .ok (.istore 4, 2) := by decide +kernel
theorem dX0_settle_66 : decode cX0_settle 66 = .ok (.iload 4, 2) := by decide +kernel
theorem dX0_settle_68 : decode cX0_settle 68 = .ok (.sipush 4000, 3) := by decide +kernel
theorem dX0_settle_71 : decode cX0_settle 71 = .ok (.if_icmp .ge 33, 3) := by decide +kernel
theorem dX0_settle_74 : decode cX0_settle 74 = .ok (.iload_n 3, 1) := by decide +kernel
theorem dX0_settle_75 : decode cX0_settle 75 = .ok (.iconst (-1), 1) := by decide +kernel
theorem dX0_settle_76 : decode cX0_settle 76 = .ok (.if_icmp .eq 28, 3) := by decide +kernel
theorem dX0_settle_79 : decode cX0_settle 79 = .ok (.aload_n 0, 1) := by decide +kernel
theorem dX0_settle_80 : decode cX0_settle 80 = .ok (.iload_n 3, 1) := by decide +kernel
theorem dX0_settle_81 : decode cX0_settle 81 = .ok (.invokevirtual 73, 3) := by decide +kernel
theorem dX0_settle_84 : decode cX0_settle 84 = .ok (.ifCond .eq 5, 3) := by decide +kernel
theorem dX0_settle_87 : decode cX0_settle 87 = .ok (.iload_n 3, 1) := by decide +kernel
theorem dX0_settle_88 : decode cX0_settle 88 = .ok (.ireturn, 1) := by decide +kernel
theorem dX0_settle_89 : decode cX0_settle 89 = .ok (.aload_n 0, 1) := by decide +kernel
theorem dX0_settle_90 : decode cX0_settle 90 = .ok (.getfield 23, 3) := by decide +kernel
theorem dX0_settle_93 : decode cX0_settle 93 = .ok (.iload_n 3, 1) := by decide +kernel
theorem dX0_settle_94 : decode cX0_settle 94 = .ok (.invokevirtual 46, 3) := by decide +kernel
theorem dX0_settle_97 : decode cX0_settle 97 = .ok (.istore_n 3, 1) := by decide +kernel
theorem dX0_settle_98 : decode cX0_settle 98 = .ok (.iinc 4 1, 3) := by decide +kernel
theorem dX0_settle_101 : decode cX0_settle 101 = .ok (.goto (-35), 3) := by decide +kernel
theorem dX0_settle_104 : decode cX0_settle 104 = .ok (.aload_n 0, 1) := by decide +kernel
theorem dX0_settle_105 : decode cX0_settle 105 = .ok (.iload_n 2, 1) := by decide +kernel
theorem dX0_settle_106 : decode cX0_settle 106 = .ok (.invokevirtual 77, 3) := by decide +kernel
theorem dX0_settle_109 : decode cX0_settle 109 = .ok (.ireturn, 1) := by decide +kernel
theorem dX0_keep_0 : decode cX0_keep 0 = .ok (.aload_n 0, 1) := by decide +kernel
theorem dX0_keep_1 : decode cX0_keep 1 = .ok (.getfield 14, 3) := by decide +kernel
theorem dX0_keep_4 : decode cX0_keep 4 = .ok (.getfield 42, 3) := by decide +kernel
theorem dX0_keep_7 : decode cX0_keep 7 = .ok (.istore_n 2, 1) := by decide +kernel
theorem dX0_keep_8 : decode cX0_keep 8 = .ok (.aload_n 0, 1) := by decide +kernel
theorem dX0_keep_9 : decode cX0_keep 9 = .ok (.getfield 14, 3) := by decide +kernel
theorem dX0_keep_12 : decode cX0_keep 12 = .ok (.aload_n 0, 1) := by decide +kernel
theorem dX0_keep_13 : decode cX0_keep 13 = .ok (.getfield 20, 3) := by decide +kernel
theorem dX0_keep_16 : decode cX0_keep 16 = .ok (.getfield 42, 3) := by decide +kernel
theorem dX0_keep_19 : decode cX0_keep 19 = .ok (.i2l, 1) := by decide +kernel
theorem dX0_keep_20 : decode cX0_keep 20 = .ok (.invokevirtual 80, 3) := by decide +kernel
theorem dX0_keep_23 : decode cX0_keep 23 = .ok (.iconst 0, 1) := by decide +kernel
theorem dX0_keep_24 : decode cX0_keep 24 = .ok (.istore_n 3, 1) := by decide +kernel
theorem dX0_keep_25 : decode cX0_keep 25 = .ok (.iload_n 3, 1) := by decide +kernel
theorem dX0_keep_26 : decode cX0_keep 26 = .ok (.aload_n 0, 1) := by decide +kernel
theorem dX0_keep_27 : decode cX0_keep 27 = .ok (.getfield 57, 3) := by decide +kernel
theorem dX0_keep_30 : decode cX0_keep 30 = .ok (.if_icmp .ge 23, 3) := by decide +kernel
theorem dX0_keep_33 : decode cX0_keep 33 = .ok (.aload_n 0, 1) := by decide +kernel
theorem dX0_keep_34 : decode cX0_keep 34 = .ok (.getfield 20, 3) := by decide +kernel
theorem dX0_keep_37 : decode cX0_keep 37 = .ok (.aload_n 0, 1) := by decide +kernel
theorem dX0_keep_38 : decode cX0_keep 38 = .ok (.getfield 30, 3) := by decide +kernel
theorem dX0_keep_41 : decode cX0_keep 41 = .ok (.iload_n 3, 1) := by decide +kernel
theorem dX0_keep_42 : decode cX0_keep 42 = .ok (.iaload, 1) := by decide +kernel
theorem dX0_keep_43 : decode cX0_keep 43 = .ok (.i2l, 1) := by decide +kernel
theorem dX0_keep_44 : decode cX0_keep 44 = .ok (.invokevirtual 80, 3) := by decide +kernel
theorem dX0_keep_47 : decode cX0_keep 47 = .ok (.iinc 3 1, 3) := by decide +kernel
theorem dX0_keep_50 : decode cX0_keep 50 = .ok (.goto (-25), 3) := by decide +kernel
theorem dX0_keep_53 : decode cX0_keep 53 = .ok (.iload_n 1, 1) := by decide +kernel
theorem dX0_keep_54 : decode cX0_keep 54 = .ok (.ifCond .lt 31, 3) := by decide +kernel
theorem dX0_keep_57 : decode cX0_keep 57 = .ok (.iload_n 1, 1) := by decide +kernel
theorem dX0_keep_58 : decode cX0_keep 58 = .ok (.sipush 256, 3) := by decide +kernel
theorem dX0_keep_61 : decode cX0_keep 61 = .ok (.if_icmp .ge 24, 3) := by decide +kernel
theorem dX0_keep_64 : decode cX0_keep 64 = .ok (.aload_n 0, 1) := by decide +kernel
theorem dX0_keep_65 : decode cX0_keep 65 = .ok (.getfield 23, 3) := by decide +kernel
theorem dX0_keep_68 : decode cX0_keep 68 = .ok (.aload_n 0, 1) := by decide +kernel
theorem dX0_keep_69 : decode cX0_keep 69 = .ok (.getfield 26, 3) := by decide +kernel
theorem dX0_keep_72 : decode cX0_keep 72 = .ok (.iload_n 1, 1) := by decide +kernel
theorem dX0_keep_73 : decode cX0_keep 73 = .ok (.iaload, 1) := by decide +kernel
theorem dX0_keep_74 : decode cX0_keep 74 = .ok (.i2l, 1) := by decide +kernel
theorem dX0_keep_75 : decode cX0_keep 75 = .ok (.invokevirtual 80, 3) := by decide +kernel
theorem dX0_keep_78 : decode cX0_keep 78 = .ok (.aload_n 0, 1) := by decide +kernel
theorem dX0_keep_79 : decode cX0_keep 79 = .ok (.getfield 26, 3) := by decide +kernel
theorem dX0_keep_82 : decode cX0_keep 82 = .ok (.iload_n 1, 1) := by decide +kernel
theorem dX0_keep_83 : decode cX0_keep 83 = .ok (.iload_n 2, 1) := by decide +kernel
theorem dX0_keep_84 : decode cX0_keep 84 = .ok (.iastore, 1) := by decide +kernel
theorem dX0_keep_85 : decode cX0_keep 85 = .ok (.iload_n 2, 1) := by decide +kernel
theorem dX0_keep_86 : decode cX0_keep 86 = .ok (.ireturn, 1) := by decide +kernel
theorem dX0_reduce_0 : decode cX0_reduce 0 = .ok (.iconst 0, 1) := by decide +kernel
theorem dX0_reduce_1 : decode cX0_reduce 1 = .ok (.istore_n 1, 1) := by decide +kernel
theorem dX0_reduce_2 : decode cX0_reduce 2 = .ok (.iconst 0, 1) := by decide +kernel
theorem dX0_reduce_3 : decode cX0_reduce 3 = .ok (.istore_n 2, 1) := by decide +kernel
theorem dX0_reduce_4 : decode cX0_reduce 4 = .ok (.iload_n 2, 1) := by decide +kernel
theorem dX0_reduce_5 : decode cX0_reduce 5 = .ok (.aload_n 0, 1) := by decide +kernel
theorem dX0_reduce_6 : decode cX0_reduce 6 = .ok (.getfield 57, 3) := by decide +kernel
theorem dX0_reduce_9 : decode cX0_reduce 9 = .ok (.if_icmp .ge 39, 3) := by decide +kernel
theorem dX0_reduce_12 : decode cX0_reduce 12 = .ok (.aload_n 0, 1) := by decide +kernel
theorem dX0_reduce_13 : decode cX0_reduce 13 = .ok (.aload_n 0, 1) := by decide +kernel
theorem dX0_reduce_14 : decode cX0_reduce 14 = .ok (.getfield 30, 3) := by decide +kernel
theorem dX0_reduce_17 : decode cX0_reduce 17 = .ok (.iload_n 2, 1) := by decide +kernel
theorem dX0_reduce_18 : decode cX0_reduce 18 = .ok (.iaload, 1) := by decide +kernel
theorem dX0_reduce_19 : decode cX0_reduce 19 = .ok (.iload_n 2, 1) := by decide +kernel
theorem dX0_reduce_20 : decode cX0_reduce 20 = .ok (.iload_n 1, 1) := by decide +kernel
theorem dX0_reduce_21 : decode cX0_reduce 21 = .ok (.invokevirtual 84, 3) := by decide +kernel
theorem dX0_reduce_24 : decode cX0_reduce 24 = .ok (.ifCond .ne 18, 3) := by decide +kernel
theorem dX0_reduce_27 : decode cX0_reduce 27 = .ok (.aload_n 0, 1) := by decide +kernel
theorem dX0_reduce_28 : decode cX0_reduce 28 = .ok (.getfield 30, 3) := by decide +kernel
theorem dX0_reduce_31 : decode cX0_reduce 31 = .ok (.iload_n 1, 1) := by decide +kernel
theorem dX0_reduce_32 : decode cX0_reduce 32 = .ok (.aload_n 0, 1) := by decide +kernel
theorem dX0_reduce_33 : decode cX0_reduce 33 = .ok (.getfield 30, 3) := by decide +kernel
theorem dX0_reduce_36 : decode cX0_reduce 36 = .ok (.iload_n 2, 1) := by decide +kernel
theorem dX0_reduce_37 : decode cX0_reduce 37 = .ok (.iaload, 1) := by decide +kernel
theorem dX0_reduce_38 : decode cX0_reduce 38 = .ok (.iastore, 1) := by decide +kernel
theorem dX0_reduce_39 : decode cX0_reduce 39 = .ok (.iinc 1 1, 3) := by decide +kernel
theorem dX0_reduce_42 : decode cX0_reduce 42 = .ok (.iinc 2 1, 3) := by decide +kernel
theorem dX0_reduce_45 : decode cX0_reduce 45 = .ok (.goto (-41), 3) := by decide +kernel
theorem dX0_reduce_48 : decode cX0_reduce 48 = .ok (.aload_n 0, 1) := by decide +kernel
theorem dX0_reduce_49 : decode cX0_reduce 49 = .ok (.iload_n 1, 1) := by decide +kernel
theorem dX0_reduce_50 : decode cX0_reduce 50 = .ok (.putfield 57, 3) := by decide +kernel
theorem dX0_reduce_53 : decode cX0_reduce 53 = .ok (.return_, 1) := by decide +kernel
theorem dX0_hasAnother_0 : decode cX0_hasAnother 0 = .ok (.iconst 0, 1) := by decide +kernel
theorem dX0_hasAnother_1 : decode cX0_hasAnother 1 = .ok (.istore 4, 2) := by decide +kernel
theorem dX0_hasAnother_3 : decode cX0_hasAnother 3 = .ok (.iconst 0, 1) := by decide +kernel
theorem dX0_hasAnother_4 : decode cX0_hasAnother 4 = .ok (.istore 5, 2) := by decide +kernel
theorem dX0_hasAnother_6 : decode cX0_hasAnother 6 = .ok (.iload 4, 2) := by decide +kernel
theorem dX0_hasAnother_8 : decode cX0_hasAnother 8 = .ok (.ifCond .ne 51, 3) := by decide +kernel
theorem dX0_hasAnother_11 : decode cX0_hasAnother 11 = .ok (.iload 5, 2) := by decide +kernel
theorem dX0_hasAnother_13 : decode cX0_hasAnother 13 = .ok (.aload_n 0, 1) := by decide +kernel
theorem dX0_hasAnother_14 : decode cX0_hasAnother 14 = .ok (.getfield 57, 3) := by decide +kernel
theorem dX0_hasAnother_17 : decode cX0_hasAnother 17 = .ok (.if_icmp .ge 42, 3) := by decide +kernel
theorem dX0_hasAnother_20 : decode cX0_hasAnother 20 = .ok (.iload 5, 2) := by decide +kernel
theorem dX0_hasAnother_22 : decode cX0_hasAnother 22 = .ok (.iload_n 3, 1) := by decide +kernel
theorem dX0_hasAnother_23 : decode cX0_hasAnother 23 = .ok (.if_icmp .lt 9, 3) := by decide +kernel
theorem dX0_hasAnother_26 : decode cX0_hasAnother 26 = .ok (.iload 5, 2) := by decide +kernel
theorem dX0_hasAnother_28 : decode cX0_hasAnother 28 = .ok (.iload_n 2, 1) := by decide +kernel
theorem dX0_hasAnother_29 : decode cX0_hasAnother 29 = .ok (.if_icmp .le 24, 3) := by decide +kernel
theorem dX0_hasAnother_32 : decode cX0_hasAnother 32 = .ok (.aload_n 0, 1) := by decide +kernel
theorem dX0_hasAnother_33 : decode cX0_hasAnother 33 = .ok (.getfield 30, 3) := by decide +kernel
theorem dX0_hasAnother_36 : decode cX0_hasAnother 36 = .ok (.iload 5, 2) := by decide +kernel
theorem dX0_hasAnother_38 : decode cX0_hasAnother 38 = .ok (.iaload, 1) := by decide +kernel
theorem dX0_hasAnother_39 : decode cX0_hasAnother 39 = .ok (.iload_n 1, 1) := by decide +kernel
theorem dX0_hasAnother_40 : decode cX0_hasAnother 40 = .ok (.iconst (-1), 1) := by decide +kernel
theorem dX0_hasAnother_41 : decode cX0_hasAnother 41 = .ok (.ixor, 1) := by decide +kernel
theorem dX0_hasAnother_42 : decode cX0_hasAnother 42 = .ok (.iand, 1) := by decide +kernel
theorem dX0_hasAnother_43 : decode cX0_hasAnother 43 = .ok (.ifCond .ne 7, 3) := by decide +kernel
theorem dX0_hasAnother_46 : decode cX0_hasAnother 46 = .ok (.iconst 1, 1) := by decide +kernel
theorem dX0_hasAnother_47 : decode cX0_hasAnother 47 = .ok (.goto 4, 3) := by decide +kernel
theorem dX0_hasAnother_50 : decode cX0_hasAnother 50 = .ok (.iconst 0, 1) := by decide +kernel
theorem dX0_hasAnother_51 : decode cX0_hasAnother 51 = .ok (.istore 4, 2) := by decide +kernel
theorem dX0_hasAnother_53 : decode cX0_hasAnother 53 = .ok (.iinc 5 1, 3) := by decide +kernel
theorem dX0_hasAnother_56 : decode cX0_hasAnother 56 = .ok (.goto (-50), 3) := by decide +kernel
theorem dX0_hasAnother_59 : decode cX0_hasAnother 59 = .ok (.iload 4, 2) := by decide +kernel
theorem dX0_hasAnother_61 : decode cX0_hasAnother 61 = .ok (.ireturn, 1) := by decide +kernel
theorem dX0_sort_0 : decode cX0_sort 0 = .ok (.iconst 1, 1) := by decide +kernel
theorem dX0_sort_1 : decode cX0_sort 1 = .ok (.istore_n 1, 1) := by decide +kernel
theorem dX0_sort_2 : decode cX0_sort 2 = .ok (.iload_n 1, 1) := by decide +kernel
theorem dX0_sort_3 : decode cX0_sort 3 = .ok (.aload_n 0, 1) := by decide +kernel
theorem dX0_sort_4 : decode cX0_sort 4 = .ok (.getfield 57, 3) := by decide +kernel
theorem dX0_sort_7 : decode cX0_sort 7 = .ok (.if_icmp .ge 61, 3) := by decide +kernel
theorem dX0_sort_10 : decode cX0_sort 10 = .ok (.aload_n 0, 1) := by decide +kernel
theorem dX0_sort_11 : decode cX0_sort 11 = .ok (.getfield 30, 3) := by decide +kernel
theorem dX0_sort_14 : decode cX0_sort 14 = .ok (.iload_n 1, 1) := by decide +kernel
theorem dX0_sort_15 : decode cX0_sort 15 = .ok (.iaload, 1) := by decide +kernel
theorem dX0_sort_16 : decode cX0_sort 16 = .ok (.istore_n 2, 1) := by decide +kernel
theorem dX0_sort_17 : decode cX0_sort 17 = .ok (.iload_n 1, 1) := by decide +kernel
theorem dX0_sort_18 : decode cX0_sort 18 = .ok (.istore_n 3, 1) := by decide +kernel
theorem dX0_sort_19 : decode cX0_sort 19 = .ok (.iload_n 3, 1) := by decide +kernel
theorem dX0_sort_20 : decode cX0_sort 20 = .ok (.ifCond .le 35, 3) := by decide +kernel
theorem dX0_sort_23 : decode cX0_sort 23 = .ok (.aload_n 0, 1) := by decide +kernel
theorem dX0_sort_24 : decode cX0_sort 24 = .ok (.getfield 30, 3) := by decide +kernel
theorem dX0_sort_27 : decode cX0_sort 27 = .ok (.iload_n 3, 1) := by decide +kernel
theorem dX0_sort_28 : decode cX0_sort 28 = .ok (.iconst 1, 1) := by decide +kernel
theorem dX0_sort_29 : decode cX0_sort 29 = .ok (.isub, 1) := by decide +kernel
theorem dX0_sort_30 : decode cX0_sort 30 = .ok (.iaload, 1) := by decide +kernel
theorem dX0_sort_31 : decode cX0_sort 31 = .ok (.iload_n 2, 1) := by decide +kernel
theorem dX0_sort_32 : decode cX0_sort 32 = .ok (.if_icmp .le 23, 3) := by decide +kernel
theorem dX0_sort_35 : decode cX0_sort 35 = .ok (.aload_n 0, 1) := by decide +kernel
theorem dX0_sort_36 : decode cX0_sort 36 = .ok (.getfield 30, 3) := by decide +kernel
theorem dX0_sort_39 : decode cX0_sort 39 = .ok (.iload_n 3, 1) := by decide +kernel
theorem dX0_sort_40 : decode cX0_sort 40 = .ok (.aload_n 0, 1) := by decide +kernel
theorem dX0_sort_41 : decode cX0_sort 41 = .ok (.getfield 30, 3) := by decide +kernel
theorem dX0_sort_44 : decode cX0_sort 44 = .ok (.iload_n 3, 1) := by decide +kernel
theorem dX0_sort_45 : decode cX0_sort 45 = .ok (.iconst 1, 1) := by decide +kernel
theorem dX0_sort_46 : decode cX0_sort 46 = .ok (.isub, 1) := by decide +kernel
theorem dX0_sort_47 : decode cX0_sort 47 = .ok (.iaload, 1) := by decide +kernel
theorem dX0_sort_48 : decode cX0_sort 48 = .ok (.iastore, 1) := by decide +kernel
theorem dX0_sort_49 : decode cX0_sort 49 = .ok (.iinc 3 (-1), 3) := by decide +kernel
theorem dX0_sort_52 : decode cX0_sort 52 = .ok (.goto (-33), 3) := by decide +kernel
theorem dX0_sort_55 : decode cX0_sort 55 = .ok (.aload_n 0, 1) := by decide +kernel
theorem dX0_sort_56 : decode cX0_sort 56 = .ok (.getfield 30, 3) := by decide +kernel
theorem dX0_sort_59 : decode cX0_sort 59 = .ok (.iload_n 3, 1) := by decide +kernel
theorem dX0_sort_60 : decode cX0_sort 60 = .ok (.iload_n 2, 1) := by decide +kernel
theorem dX0_sort_61 : decode cX0_sort 61 = .ok (.iastore, 1) := by decide +kernel
theorem dX0_sort_62 : decode cX0_sort 62 = .ok (.iinc 1 1, 3) := by decide +kernel
theorem dX0_sort_65 : decode cX0_sort 65 = .ok (.goto (-63), 3) := by decide +kernel
theorem dX0_sort_68 : decode cX0_sort 68 = .ok (.return_, 1) := by decide +kernel
theorem dX0_bucketOf_0 : decode cX0_bucketOf 0 = .ok (.aload_n 0, 1) := by decide +kernel
theorem dX0_bucketOf_1 : decode cX0_bucketOf 1 = .ok (.getfield 57, 3) := by decide +kernel
theorem dX0_bucketOf_4 : decode cX0_bucketOf 4 = .ok (.istore_n 1, 1) := by decide +kernel
theorem dX0_bucketOf_5 : decode cX0_bucketOf 5 = .ok (.iconst 0, 1) := by decide +kernel
theorem dX0_bucketOf_6 : decode cX0_bucketOf 6 = .ok (.istore_n 2, 1) := by decide +kernel
theorem dX0_bucketOf_7 : decode cX0_bucketOf 7 = .ok (.iload_n 2, 1) := by decide +kernel
theorem dX0_bucketOf_8 : decode cX0_bucketOf 8 = .ok (.aload_n 0, 1) := by decide +kernel
theorem dX0_bucketOf_9 : decode cX0_bucketOf 9 = .ok (.getfield 57, 3) := by decide +kernel
theorem dX0_bucketOf_12 : decode cX0_bucketOf 12 = .ok (.if_icmp .ge 21, 3) := by decide +kernel
theorem dX0_bucketOf_15 : decode cX0_bucketOf 15 = .ok (.iload_n 1, 1) := by decide +kernel
theorem dX0_bucketOf_16 : decode cX0_bucketOf 16 = .ok (.bipush 31, 2) := by decide +kernel
theorem dX0_bucketOf_18 : decode cX0_bucketOf 18 = .ok (.imul, 1) := by decide +kernel
theorem dX0_bucketOf_19 : decode cX0_bucketOf 19 = .ok (.aload_n 0, 1) := by decide +kernel
theorem dX0_bucketOf_20 : decode cX0_bucketOf 20 = .ok (.getfield 30, 3) := by decide +kernel
theorem dX0_bucketOf_23 : decode cX0_bucketOf 23 = .ok (.iload_n 2, 1) := by decide +kernel
theorem dX0_bucketOf_24 : decode cX0_bucketOf 24 = .ok (.iaload, 1) := by decide +kernel
theorem dX0_bucketOf_25 : decode cX0_bucketOf 25 = .ok (.iadd, 1) := by decide +kernel
theorem dX0_bucketOf_26 : decode cX0_bucketOf 26 = .ok (.istore_n 1, 1) := by decide +kernel
theorem dX0_bucketOf_27 : decode cX0_bucketOf 27 = .ok (.iinc 2 1, 3) := by decide +kernel
theorem dX0_bucketOf_30 : decode cX0_bucketOf 30 = .ok (.goto (-23), 3) := by decide +kernel
theorem dX0_bucketOf_33 : decode cX0_bucketOf 33 = .ok (.iload_n 1, 1) := by decide +kernel
theorem dX0_bucketOf_34 : decode cX0_bucketOf 34 = .ok (.iload_n 1, 1) := by decide +kernel
theorem dX0_bucketOf_35 : decode cX0_bucketOf 35 = .ok (.bipush 13, 2) := by decide +kernel
theorem dX0_bucketOf_37 : decode cX0_bucketOf 37 = .ok (.iushr, 1) := by decide +kernel
theorem dX0_bucketOf_38 : decode cX0_bucketOf 38 = .ok (.ixor, 1) := by decide +kernel
theorem dX0_bucketOf_39 : decode cX0_bucketOf 39 = .ok (.sipush 255, 3) := by decide +kernel
theorem dX0_bucketOf_42 : decode cX0_bucketOf 42 = .ok (.iand, 1) := by decide +kernel
theorem dX0_bucketOf_43 : decode cX0_bucketOf 43 = .ok (.ireturn, 1) := by decide +kernel
theorem dX0_isDraft_0 : decode cX0_isDraft 0 = .ok (.aload_n 0, 1) := by decide +kernel
theorem dX0_isDraft_1 : decode cX0_isDraft 1 = .ok (.getfield 14, 3) := by decide +kernel
theorem dX0_isDraft_4 : decode cX0_isDraft 4 = .ok (.iload_n 1, 1) := by decide +kernel
theorem dX0_isDraft_5 : decode cX0_isDraft 5 = .ok (.invokevirtual 46, 3) := by decide +kernel
theorem dX0_isDraft_8 : decode cX0_isDraft 8 = .ok (.istore_n 2, 1) := by decide +kernel
theorem dX0_isDraft_9 : decode cX0_isDraft 9 = .ok (.iload_n 1, 1) := by decide +kernel
theorem dX0_isDraft_10 : decode cX0_isDraft 10 = .ok (.iconst 1, 1) := by decide +kernel
theorem dX0_isDraft_11 : decode cX0_isDraft 11 = .ok (.iadd, 1) := by decide +kernel
theorem dX0_isDraft_12 : decode cX0_isDraft 12 = .ok (.aload_n 0, 1) := by decide +kernel
theorem dX0_isDraft_13 : decode cX0_isDraft 13 = .ok (.getfield 14, 3) := by decide +kernel
theorem dX0_isDraft_16 : decode cX0_isDraft 16 = .ok (.getfield 42, 3) := by decide +kernel
theorem dX0_isDraft_19 : decode cX0_isDraft 19 = .ok (.if_icmp .ge 16, 3) := by decide +kernel
theorem dX0_isDraft_22 : decode cX0_isDraft 22 = .ok (.aload_n 0, 1) := by decide +kernel
theorem dX0_isDraft_23 : decode cX0_isDraft 23 = .ok (.getfield 14, 3) := by decide +kernel
theorem dX0_isDraft_26 : decode cX0_isDraft 26 = .ok (.iload_n 1, 1) := by decide +kernel
theorem dX0_isDraft_27 : decode cX0_isDraft 27 = .ok (.iconst 1, 1) := by decide +kernel
theorem dX0_isDraft_28 : decode cX0_isDraft 28 = .ok (.iadd, 1) := by decide +kernel
theorem dX0_isDraft_29 : decode cX0_isDraft 29 = .ok (.invokevirtual 46, 3) := by decide +kernel
theorem dX0_isDraft_32 : decode cX0_isDraft 32 = .ok (.goto 10, 3) := by decide +kernel
theorem dX0_isDraft_35 : decode cX0_isDraft 35 = .ok (.aload_n 0, 1) := by decide +kernel
theorem dX0_isDraft_36 : decode cX0_isDraft 36 = .ok (.getfield 20, 3) := by decide +kernel
theorem dX0_isDraft_39 : decode cX0_isDraft 39 = .ok (.getfield 42, 3) := by decide +kernel
theorem dX0_isDraft_42 : decode cX0_isDraft 42 = .ok (.istore_n 3, 1) := by decide +kernel
theorem dX0_isDraft_43 : decode cX0_isDraft 43 = .ok (.iload_n 3, 1) := by decide +kernel
theorem dX0_isDraft_44 : decode cX0_isDraft 44 = .ok (.iload_n 2, 1) := by decide +kernel
theorem dX0_isDraft_45 : decode cX0_isDraft 45 = .ok (.isub, 1) := by decide +kernel
theorem dX0_isDraft_46 : decode cX0_isDraft 46 = .ok (.aload_n 0, 1) := by decide +kernel
theorem dX0_isDraft_47 : decode cX0_isDraft 47 = .ok (.getfield 57, 3) := by decide +kernel
theorem dX0_isDraft_50 : decode cX0_isDraft 50 = .ok (.if_icmp .ne 7, 3) := by decide +kernel
theorem dX0_isDraft_53 : decode cX0_isDraft 53 = .ok (.iconst 1, 1) := by decide +kernel
theorem dX0_isDraft_54 : decode cX0_isDraft 54 = .ok (.goto 4, 3) := by decide +kernel
theorem dX0_isDraft_57 : decode cX0_isDraft 57 = .ok (.iconst 0, 1) := by decide +kernel
theorem dX0_isDraft_58 : decode cX0_isDraft 58 = .ok (.istore 4, 2) := by decide +kernel
theorem dX0_isDraft_60 : decode cX0_isDraft 60 = .ok (.iconst 0, 1) := by decide +kernel
theorem dX0_isDraft_61 : decode cX0_isDraft 61 = .ok (.istore 5, 2) := by decide +kernel
theorem dX0_isDraft_63 : decode cX0_isDraft 63 = .ok (.iload 4, 2) := by decide +kernel
theorem dX0_isDraft_65 : decode cX0_isDraft 65 = .ok (.ifCond .eq 46, 3) := by decide +kernel
theorem dX0_isDraft_68 : decode cX0_isDraft 68 = .ok (.iload 5, 2) := by decide +kernel
theorem dX0_isDraft_70 : decode cX0_isDraft 70 = .ok (.aload_n 0, 1) := by decide +kernel
theorem dX0_isDraft_71 : decode cX0_isDraft 71 = .ok (.getfield 57, 3) := by decide +kernel
theorem dX0_isDraft_74 : decode cX0_isDraft 74 = .ok (.if_icmp .ge 37, 3) := by decide +kernel
theorem dX0_isDraft_77 : decode cX0_isDraft 77 = .ok (.aload_n 0, 1) := by decide +kernel
theorem dX0_isDraft_78 : decode cX0_isDraft 78 = .ok (.getfield 20, 3) := by decide +kernel
theorem dX0_isDraft_81 : decode cX0_isDraft 81 = .ok (.iload_n 2, 1) := by decide +kernel
theorem dX0_isDraft_82 : decode cX0_isDraft 82 = .ok (.iload 5, 2) := by decide +kernel
theorem dX0_isDraft_84 : decode cX0_isDraft 84 = .ok (.iadd, 1) := by decide +kernel
theorem dX0_isDraft_85 : decode cX0_isDraft 85 = .ok (.invokevirtual 46, 3) := by decide +kernel
theorem dX0_isDraft_88 : decode cX0_isDraft 88 = .ok (.aload_n 0, 1) := by decide +kernel
theorem dX0_isDraft_89 : decode cX0_isDraft 89 = .ok (.getfield 30, 3) := by decide +kernel
theorem dX0_isDraft_92 : decode cX0_isDraft 92 = .ok (.iload 5, 2) := by decide +kernel
theorem dX0_isDraft_94 : decode cX0_isDraft 94 = .ok (.iaload, 1) := by decide +kernel
theorem dX0_isDraft_95 : decode cX0_isDraft 95 = .ok (.if_icmp .ne 7, 3) := by decide +kernel
theorem dX0_isDraft_98 : decode cX0_isDraft 98 = .ok (.iconst 1, 1) := by decide +kernel
theorem dX0_isDraft_99 : decode cX0_isDraft 99 = .ok (.goto 4, 3) := by decide +kernel
theorem dX0_isDraft_102 : decode cX0_isDraft 102 = .ok (.iconst 0, 1) := by decide +kernel
theorem dX0_isDraft_103 : decode cX0_isDraft 103 = .ok (.istore 4, 2) := by decide +kernel
theorem dX0_isDraft_105 : decode cX0_isDraft 105 = .ok (.iinc 5 1, 3) := by decide +kernel
theorem dX0_isDraft_108 : decode cX0_isDraft 108 = .ok (.goto (-45), 3) := by decide +kernel
theorem dX0_isDraft_111 : decode cX0_isDraft 111 = .ok (.iload 4, 2) := by decide +kernel
theorem dX0_isDraft_113 : decode cX0_isDraft 113 = .ok (.ireturn, 1) := by decide +kernel
theorem dX1_valueOf_0 : decode cX1_valueOf 0 = .ok (.iload_n 0, 1) := by decide +kernel
theorem dX1_valueOf_1 : decode cX1_valueOf 1 = .ok (.i2l, 1) := by decide +kernel
theorem dX1_valueOf_2 : decode cX1_valueOf 2 = .ok (.bipush 32, 2) := by decide +kernel
theorem dX1_valueOf_4 : decode cX1_valueOf 4 = .ok (.lshl, 1) := by decide +kernel
theorem dX1_valueOf_5 : decode cX1_valueOf 5 = .ok (.iload_n 1, 1) := by decide +kernel
theorem dX1_valueOf_6 : decode cX1_valueOf 6 = .ok (.i2l, 1) := by decide +kernel
theorem dX1_valueOf_7 : decode cX1_valueOf 7 = .ok (.ldc2_w 55, 3) := by decide +kernel
theorem dX1_valueOf_10 : decode cX1_valueOf 10 = .ok (.land, 1) := by decide +kernel
theorem dX1_valueOf_11 : decode cX1_valueOf 11 = .ok (.lor, 1) := by decide +kernel
theorem dX1_valueOf_12 : decode cX1_valueOf 12 = .ok (.lreturn, 1) := by decide +kernel
theorem dX1_sortOf_0 : decode cX1_sortOf 0 = .ok (.lload_n 0, 1) := by decide +kernel
theorem dX1_sortOf_1 : decode cX1_sortOf 1 = .ok (.bipush 32, 2) := by decide +kernel
theorem dX1_sortOf_3 : decode cX1_sortOf 3 = .ok (.lushr, 1) := by decide +kernel
theorem dX1_sortOf_4 : decode cX1_sortOf 4 = .ok (.l2i, 1) := by decide +kernel
theorem dX1_sortOf_5 : decode cX1_sortOf 5 = .ok (.ireturn, 1) := by decide +kernel
theorem dX1_prepare_0 : decode cX1_prepare 0 = .ok (.aload_n 0, 1) := by decide +kernel
theorem dX1_prepare_1 : decode cX1_prepare 1 = .ok (.getfield 22, 3) := by decide +kernel
theorem dX1_prepare_4 : decode cX1_prepare 4 = .ok (.invokevirtual 61, 3) := by decide +kernel
theorem dX1_prepare_7 : decode cX1_prepare 7 = .ok (.aload_n 0, 1) := by decide +kernel
theorem dX1_prepare_8 : decode cX1_prepare 8 = .ok (.getfield 42, 3) := by decide +kernel
theorem dX1_prepare_11 : decode cX1_prepare 11 = .ok (.iconst 0, 1) := by decide +kernel
theorem dX1_prepare_12 : decode cX1_prepare 12 = .ok (.invokevirtual 64, 3) := by decide +kernel
theorem dX1_prepare_15 : decode cX1_prepare 15 = .ok (.aload_n 0, 1) := by decide +kernel
theorem dX1_prepare_16 : decode cX1_prepare 16 = .ok (.getfield 46, 3) := by decide +kernel
theorem dX1_prepare_19 : decode cX1_prepare 19 = .ok (.iconst 0, 1) := by decide +kernel
theorem dX1_prepare_20 : decode cX1_prepare 20 = .ok (.invokevirtual 64, 3) := by decide +kernel
theorem dX1_prepare_23 : decode cX1_prepare 23 = .ok (.aload_n 0, 1) := by decide +kernel
theorem dX1_prepare_24 : decode cX1_prepare 24 = .ok (.getfield 49, 3) := by decide +kernel
theorem dX1_prepare_27 : decode cX1_prepare 27 = .ok (.iconst 0, 1) := by decide +kernel
theorem dX1_prepare_28 : decode cX1_prepare 28 = .ok (.invokevirtual 64, 3) := by decide +kernel
theorem dX1_prepare_31 : decode cX1_prepare 31 = .ok (.aload_n 0, 1) := by decide +kernel
theorem dX1_prepare_32 : decode cX1_prepare 32 = .ok (.getfield 52, 3) := by decide +kernel
theorem dX1_prepare_35 : decode cX1_prepare 35 = .ok (.iconst 0, 1) := by decide +kernel
theorem dX1_prepare_36 : decode cX1_prepare 36 = .ok (.invokevirtual 64, 3) := by decide +kernel
theorem dX1_prepare_39 : decode cX1_prepare 39 = .ok (.aload_n 0, 1) := by decide +kernel
theorem dX1_prepare_40 : decode cX1_prepare 40 = .ok (.iconst 1, 1) := by decide +kernel
theorem dX1_prepare_41 : decode cX1_prepare 41 = .ok (.putfield 67, 3) := by decide +kernel
theorem dX1_prepare_44 : decode cX1_prepare 44 = .ok (.aload_n 0, 1) := by decide +kernel
theorem dX1_prepare_45 : decode cX1_prepare 45 = .ok (.iconst 0, 1) := by decide +kernel
theorem dX1_prepare_46 : decode cX1_prepare 46 = .ok (.putfield 71, 3) := by decide +kernel
theorem dX1_prepare_49 : decode cX1_prepare 49 = .ok (.aload_n 0, 1) := by decide +kernel
theorem dX1_prepare_50 : decode cX1_prepare 50 = .ok (.iload_n 3, 1) := by decide +kernel
theorem dX1_prepare_51 : decode cX1_prepare 51 = .ok (.putfield 74, 3) := by decide +kernel
theorem dX1_prepare_54 : decode cX1_prepare 54 = .ok (.aload_n 0, 1) := by decide +kernel
theorem dX1_prepare_55 : decode cX1_prepare 55 = .ok (.iconst 0, 1) := by decide +kernel
theorem dX1_prepare_56 : decode cX1_prepare 56 = .ok (.putfield 77, 3) := by decide +kernel
theorem dX1_prepare_59 : decode cX1_prepare 59 = .ok (.aload_n 0, 1) := by decide +kernel
theorem dX1_prepare_60 : decode cX1_prepare 60 = .ok (.iconst 0, 1) := by decide +kernel
theorem dX1_prepare_61 : decode cX1_prepare 61 = .ok (.putfield 80, 3) := by decide +kernel
theorem dX1_prepare_64 : decode cX1_prepare 64 = .ok (.aload_n 0, 1) := by decide +kernel
theorem dX1_prepare_65 : decode cX1_prepare 65 = .ok (.iconst 0, 1) := by decide +kernel
theorem dX1_prepare_66 : decode cX1_prepare 66 = .ok (.putfield 83, 3) := by decide +kernel
theorem dX1_prepare_69 : decode cX1_prepare 69 = .ok (.aload_n 0, 1) := by decide +kernel
theorem dX1_prepare_70 : decode cX1_prepare 70 = .ok (.iconst 0, 1) := by decide +kernel
theorem dX1_prepare_71 : decode cX1_prepare 71 = .ok (.putfield 86, 3) := by decide +kernel
theorem dX1_prepare_74 : decode cX1_prepare 74 = .ok (.aload_n 0, 1) := by decide +kernel
theorem dX1_prepare_75 : decode cX1_prepare 75 = .ok (.iload_n 2, 1) := by decide +kernel
theorem dX1_prepare_76 : decode cX1_prepare 76 = .ok (.putfield 89, 3) := by decide +kernel
theorem dX1_prepare_79 : decode cX1_prepare 79 = .ok (.aload_n 0, 1) := by decide +kernel
theorem dX1_prepare_80 : decode cX1_prepare 80 = .ok (.iload_n 2, 1) := by decide +kernel
theorem dX1_prepare_81 : decode cX1_prepare 81 = .ok (.putfield 92, 3) := by decide +kernel
theorem dX1_prepare_84 : decode cX1_prepare 84 = .ok (.aload_n 0, 1) := by decide +kernel
theorem dX1_prepare_85 : decode cX1_prepare 85 = .ok (.iload 4, 2) := by decide +kernel
theorem dX1_prepare_87 : decode cX1_prepare 87 = .ok (.putfield 95, 3) := by decide +kernel
theorem dX1_prepare_90 : decode cX1_prepare 90 = .ok (.aload_n 0, 1) := by decide +kernel
theorem dX1_prepare_91 : decode cX1_prepare 91 = .ok (.iconst 1, 1) := by decide +kernel
theorem dX1_prepare_92 : decode cX1_prepare 92 = .ok (.putfield 57, 3) := by decide +kernel
theorem dX1_prepare_95 : decode cX1_prepare 95 = .ok (.aload_n 0, 1) := by decide +kernel
theorem dX1_prepare_96 : decode cX1_prepare 96 = .ok (.aload_n 0, 1) := by decide +kernel
theorem dX1_prepare_97 : decode cX1_prepare 97 = .ok (.getfield 28, 3) := by decide +kernel
theorem dX1_prepare_100 : decode cX1_prepare 100 = .ok (.iconst 0, 1) := by decide +kernel
theorem dX1_prepare_101 : decode cX1_prepare 101 = .ok (.aaload, 1) := by decide +kernel
theorem dX1_prepare_102 : decode cX1_prepare 102 = .ok (.putfield 33, 3) := by decide +kernel
theorem dX1_prepare_105 : decode cX1_prepare 105 = .ok (.aload_n 0, 1) := by decide +kernel
theorem dX1_prepare_106 : decode cX1_prepare 106 = .ok (.getfield 33, 3) := by decide +kernel
theorem dX1_prepare_109 : decode cX1_prepare 109 = .ok (.iconst 0, 1) := by decide +kernel
theorem dX1_prepare_110 : decode cX1_prepare 110 = .ok (.invokevirtual 98, 3) := by decide +kernel
theorem dX1_prepare_113 : decode cX1_prepare 113 = .ok (.aload_n 0, 1) := by decide +kernel
theorem dX1_prepare_114 : decode cX1_prepare 114 = .ok (.aload_n 0, 1) := by decide +kernel
theorem dX1_prepare_115 : decode cX1_prepare 115 = .ok (.getfield 33, 3) := by decide +kernel
theorem dX1_prepare_118 : decode cX1_prepare 118 = .ok (.aload_n 1, 1) := by decide +kernel
theorem dX1_prepare_119 : decode cX1_prepare 119 = .ok (.getfield 100, 3) := by decide +kernel
theorem dX1_prepare_122 : decode cX1_prepare 122 = .ok (.invokevirtual 105, 3) := by decide +kernel
theorem dX1_prepare_125 : decode cX1_prepare 125 = .ok (.pop, 1) := by decide +kernel
theorem dX1_prepare_126 : decode cX1_prepare 126 = .ok (.aload_n 0, 1) := by decide +kernel
theorem dX1_prepare_127 : decode cX1_prepare 127 = .ok (.getfield 33, 3) := by decide +kernel
theorem dX1_prepare_130 : decode cX1_prepare 130 = .ok (.aload_n 1, 1) := by decide +kernel
theorem dX1_prepare_131 : decode cX1_prepare 131 = .ok (.iconst 0, 1) := by decide +kernel
theorem dX1_prepare_132 : decode cX1_prepare 132 = .ok (.iconst 0, 1) := by decide +kernel
theorem dX1_prepare_133 : decode cX1_prepare 133 = .ok (.iconst (-1), 1) := by decide +kernel
theorem dX1_prepare_134 : decode cX1_prepare 134 = .ok (.invokevirtual 109, 3) := by decide +kernel
theorem dX1_prepare_137 : decode cX1_prepare 137 = .ok (.aload_n 0, 1) := by decide +kernel
theorem dX1_prepare_138 : decode cX1_prepare 138 = .ok (.aload_n 0, 1) := by decide +kernel
theorem dX1_prepare_139 : decode cX1_prepare 139 = .ok (.getfield 33, 3) := by decide +kernel
theorem dX1_prepare_142 : decode cX1_prepare 142 = .ok (.invokevirtual 113, 3) := by decide +kernel
theorem dX1_prepare_145 : decode cX1_prepare 145 = .ok (.pop, 1) := by decide +kernel
theorem dX1_prepare_146 : decode cX1_prepare 146 = .ok (.return_, 1) := by decide +kernel
theorem dX1_goOn_0 : decode cX1_goOn 0 = .ok (.iconst 0, 1) := by decide +kernel
theorem dX1_goOn_1 : decode cX1_goOn 1 = .ok (.istore_n 1, 1) := by decide +kernel
theorem dX1_goOn_2 : decode cX1_goOn 2 = .ok (.iconst 0, 1) := by decide +kernel
theorem dX1_goOn_3 : decode cX1_goOn 3 = .ok (.istore_n 2, 1) := by decide +kernel
theorem dX1_goOn_4 : decode cX1_goOn 4 = .ok (.iload_n 2, 1) := by decide +kernel
theorem dX1_goOn_5 : decode cX1_goOn 5 = .ok (.ldc 117, 2) := by decide +kernel
theorem dX1_goOn_7 : decode cX1_goOn 7 = .ok (.if_icmp .ge 40, 3) := by decide +kernel
theorem dX1_goOn_10 : decode cX1_goOn 10 = .ok (.iload_n 1, 1) := by decide +kernel
theorem dX1_goOn_11 : decode cX1_goOn 11 = .ok (.iconst (-1), 1) := by decide +kernel
theorem dX1_goOn_12 : decode cX1_goOn 12 = .ok (.if_icmp .eq 35, 3) := by decide +kernel
theorem dX1_goOn_15 : decode cX1_goOn 15 = .ok (.aload_n 0, 1) := by decide +kernel
theorem dX1_goOn_16 : decode cX1_goOn 16 = .ok (.aload_n 0, 1) := by decide +kernel
theorem dX1_goOn_17 : decode cX1_goOn 17 = .ok (.iload_n 1, 1) := by decide +kernel
theorem dX1_goOn_18 : decode cX1_goOn 18 = .ok (.invokevirtual 118, 3) := by decide +kernel
theorem dX1_goOn_21 : decode cX1_goOn 21 = .ok (.invokevirtual 122, 3) := by decide +kernel
theorem dX1_goOn_24 : decode cX1_goOn 24 = .ok (.aload_n 0, 1) := by decide +kernel
theorem dX1_goOn_25 : decode cX1_goOn 25 = .ok (.getfield 80, 3) := by decide +kernel
theorem dX1_goOn_28 : decode cX1_goOn 28 = .ok (.iconst 2, 1) := by decide +kernel
theorem dX1_goOn_29 : decode cX1_goOn 29 = .ok (.if_icmp .ne 7, 3) := by decide +kernel
theorem dX1_goOn_32 : decode cX1_goOn 32 = .ok (.iconst (-1), 1) := by decide +kernel
theorem dX1_goOn_33 : decode cX1_goOn 33 = .ok (.goto 7, 3) := by decide +kernel
theorem dX1_goOn_36 : decode cX1_goOn 36 = .ok (.aload_n 0, 1) := by decide +kernel
theorem dX1_goOn_37 : decode cX1_goOn 37 = .ok (.invokevirtual 126, 3) := by decide +kernel
theorem dX1_goOn_40 : decode cX1_goOn 40 = .ok (.istore_n 1, 1) := by decide +kernel
theorem dX1_goOn_41 : decode cX1_goOn 41 = .ok (.iinc 2 1, 3) := by decide +kernel
theorem dX1_goOn_44 : decode cX1_goOn 44 = .ok (.goto (-40), 3) := by decide +kernel
theorem dX1_goOn_47 : decode cX1_goOn 47 = .ok (.aload_n 0, 1) := by decide +kernel
theorem dX1_goOn_48 : decode cX1_goOn 48 = .ok (.getfield 80, 3) := by decide +kernel
theorem dX1_goOn_51 : decode cX1_goOn 51 = .ok (.iconst 2, 1) := by decide +kernel
theorem dX1_goOn_52 : decode cX1_goOn 52 = .ok (.if_icmp .eq 19, 3) := by decide +kernel
theorem dX1_goOn_55 : decode cX1_goOn 55 = .ok (.aload_n 0, 1) := by decide +kernel
theorem dX1_goOn_56 : decode cX1_goOn 56 = .ok (.aload_n 0, 1) := by decide +kernel
theorem dX1_goOn_57 : decode cX1_goOn 57 = .ok (.invokevirtual 130, 3) := by decide +kernel
theorem dX1_goOn_60 : decode cX1_goOn 60 = .ok (.ifCond .eq 7, 3) := by decide +kernel
theorem dX1_goOn_63 : decode cX1_goOn 63 = .ok (.iconst 0, 1) := by decide +kernel
theorem dX1_goOn_64 : decode cX1_goOn 64 = .ok (.goto 4, 3) := by decide +kernel
theorem dX1_goOn_67 : decode cX1_goOn 67 = .ok (.iconst 1, 1) := by decide +kernel
theorem dX1_goOn_68 : decode cX1_goOn 68 = .ok (.putfield 80, 3) := by decide +kernel
theorem dX1_goOn_71 : decode cX1_goOn 71 = .ok (.aload_n 0, 1) := by decide +kernel
theorem dX1_goOn_72 : decode cX1_goOn 72 = .ok (.getfield 80, 3) := by decide +kernel
theorem dX1_goOn_75 : decode cX1_goOn 75 = .ok (.ireturn, 1) := by decide +kernel
theorem dX1_strandAt_0 : decode cX1_strandAt 0 = .ok (.aload_n 0, 1) := by decide +kernel
theorem dX1_strandAt_1 : decode cX1_strandAt 1 = .ok (.getfield 28, 3) := by decide +kernel
theorem dX1_strandAt_4 : decode cX1_strandAt 4 = .ok (.iload_n 1, 1) := by decide +kernel
theorem dX1_strandAt_5 : decode cX1_strandAt 5 = .ok (.ifCond .lt 13, 3) := by decide +kernel
theorem dX1_strandAt_8 : decode cX1_strandAt 8 = .ok (.iload_n 1, 1) := by decide +kernel
theorem dX1_strandAt_9 : decode cX1_strandAt 9 = .ok (.bipush 8, 2) := by decide +kernel
theorem dX1_strandAt_11 : decode cX1_strandAt 11 = .ok (.if_icmp .ge 7, 3) := by decide +kernel
theorem dX1_strandAt_14 : decode cX1_strandAt 14 = .ok (.iload_n 1, 1) := by decide +kernel
theorem dX1_strandAt_15 : decode cX1_strandAt 15 = .ok (.goto 4, 3) := by decide +kernel
theorem dX1_strandAt_18 : decode cX1_strandAt 18 = .ok (.iconst 0, 1) := by decide +kernel
theorem dX1_strandAt_19 : decode cX1_strandAt 19 = .ok (.aaload, 1) := by decide +kernel
theorem dX1_strandAt_20 : decode cX1_strandAt 20 = .ok (.areturn, 1) := by decide +kernel
theorem dX1_hasEnded_0 : decode cX1_hasEnded 0 = .ok (.aload_n 0, 1) := by decide +kernel
theorem dX1_hasEnded_1 : decode cX1_hasEnded 1 = .ok (.iload_n 1, 1) := by decide +kernel
theorem dX1_hasEnded_2 : decode cX1_hasEnded 2 = .ok (.invokevirtual 118, 3) := by decide +kernel
theorem dX1_hasEnded_5 : decode cX1_hasEnded 5 = .ok (.getfield 134, 3) := by decide +kernel
theorem dX1_hasEnded_8 : decode cX1_hasEnded 8 = .ok (.ifCond .eq 7, 3) := by decide +kernel
theorem dX1_hasEnded_11 : decode cX1_hasEnded 11 = .ok (.iconst 1, 1) := by decide +kernel
theorem dX1_hasEnded_12 : decode cX1_hasEnded 12 = .ok (.goto 4, 3) := by decide +kernel
theorem dX1_hasEnded_15 : decode cX1_hasEnded 15 = .ok (.iconst 0, 1) := by decide +kernel
theorem dX1_hasEnded_16 : decode cX1_hasEnded 16 = .ok (.ireturn, 1) := by decide +kernel
theorem dX1_allEnded_0 : decode cX1_allEnded 0 = .ok (.iconst 1, 1) := by decide +kernel
theorem dX1_allEnded_1 : decode cX1_allEnded 1 = .ok (.istore_n 1, 1) := by decide +kernel
theorem dX1_allEnded_2 : decode cX1_allEnded 2 = .ok (.iconst 0, 1) := by decide +kernel
theorem dX1_allEnded_3 : decode cX1_allEnded 3 = .ok (.istore_n 2, 1) := by decide +kernel
theorem dX1_allEnded_4 : decode cX1_allEnded 4 = .ok (.iload_n 2, 1) := by decide +kernel
theorem dX1_allEnded_5 : decode cX1_allEnded 5 = .ok (.aload_n 0, 1) := by decide +kernel
theorem dX1_allEnded_6 : decode cX1_allEnded 6 = .ok (.getfield 67, 3) := by decide +kernel
theorem dX1_allEnded_9 : decode cX1_allEnded 9 = .ok (.if_icmp .ge 27, 3) := by decide +kernel
theorem dX1_allEnded_12 : decode cX1_allEnded 12 = .ok (.iload_n 1, 1) := by decide +kernel
theorem dX1_allEnded_13 : decode cX1_allEnded 13 = .ok (.ifCond .eq 15, 3) := by decide +kernel
theorem dX1_allEnded_16 : decode cX1_allEnded 16 = .ok (.aload_n 0, 1) := by decide +kernel
theorem dX1_allEnded_17 : decode cX1_allEnded 17 = .ok (.iload_n 2, 1) := by decide +kernel
theorem dX1_allEnded_18 : decode cX1_allEnded 18 = .ok (.invokevirtual 137, 3) := by decide +kernel
theorem dX1_allEnded_21 : decode cX1_allEnded 21 = .ok (.ifCond .eq 7, 3) := by decide +kernel
theorem dX1_allEnded_24 : decode cX1_allEnded 24 = .ok (.iconst 1, 1) := by decide +kernel
theorem dX1_allEnded_25 : decode cX1_allEnded 25 = .ok (.goto 4, 3) := by decide +kernel
theorem dX1_allEnded_28 : decode cX1_allEnded 28 = .ok (.iconst 0, 1) := by decide +kernel
theorem dX1_allEnded_29 : decode cX1_allEnded 29 = .ok (.istore_n 1, 1) := by decide +kernel
theorem dX1_allEnded_30 : decode cX1_allEnded 30 = .ok (.iinc 2 1, 3) := by decide +kernel
theorem dX1_allEnded_33 : decode cX1_allEnded 33 = .ok (.goto (-29), 3) := by decide +kernel
theorem dX1_allEnded_36 : decode cX1_allEnded 36 = .ok (.iload_n 1, 1) := by decide +kernel
theorem dX1_allEnded_37 : decode cX1_allEnded 37 = .ok (.ireturn, 1) := by decide +kernel
theorem dX1_canGoOn_0 : decode cX1_canGoOn 0 = .ok (.aload_n 0, 1) := by decide +kernel
theorem dX1_canGoOn_1 : decode cX1_canGoOn 1 = .ok (.iload_n 1, 1) := by decide +kernel
theorem dX1_canGoOn_2 : decode cX1_canGoOn 2 = .ok (.invokevirtual 118, 3) := by decide +kernel
theorem dX1_canGoOn_5 : decode cX1_canGoOn 5 = .ok (.astore_n 2, 1) := by decide +kernel
theorem dX1_canGoOn_6 : decode cX1_canGoOn 6 = .ok (.aload_n 0, 1) := by decide +kernel
theorem dX1_canGoOn_7 : decode cX1_canGoOn 7 = .ok (.iload_n 1, 1) := by decide +kernel
theorem dX1_canGoOn_8 : decode cX1_canGoOn 8 = .ok (.invokevirtual 137, 3) := by decide +kernel
theorem dX1_canGoOn_11 : decode cX1_canGoOn 11 = .ok (.ifCond .ne 26, 3) := by decide +kernel
theorem dX1_canGoOn_14 : decode cX1_canGoOn 14 = .ok (.aload_n 2, 1) := by decide +kernel
theorem dX1_canGoOn_15 : decode cX1_canGoOn 15 = .ok (.getfield 141, 3) := by decide +kernel
theorem dX1_canGoOn_18 : decode cX1_canGoOn 18 = .ok (.iconst (-1), 1) := by decide +kernel
theorem dX1_canGoOn_19 : decode cX1_canGoOn 19 = .ok (.if_icmp .eq 14, 3) := by decide +kernel
theorem dX1_canGoOn_22 : decode cX1_canGoOn 22 = .ok (.aload_n 0, 1) := by decide +kernel
theorem dX1_canGoOn_23 : decode cX1_canGoOn 23 = .ok (.aload_n 2, 1) := by decide +kernel
theorem dX1_canGoOn_24 : decode cX1_canGoOn 24 = .ok (.getfield 141, 3) := by decide +kernel
theorem dX1_canGoOn_27 : decode cX1_canGoOn 27 = .ok (.invokevirtual 137, 3) := by decide +kernel
theorem dX1_canGoOn_30 : decode cX1_canGoOn 30 = .ok (.ifCond .eq 7, 3) := by decide +kernel
theorem dX1_canGoOn_33 : decode cX1_canGoOn 33 = .ok (.iconst 1, 1) := by decide +kernel
theorem dX1_canGoOn_34 : decode cX1_canGoOn 34 = .ok (.goto 4, 3) := by decide +kernel
theorem dX1_canGoOn_37 : decode cX1_canGoOn 37 = .ok (.iconst 0, 1) := by decide +kernel
theorem dX1_canGoOn_38 : decode cX1_canGoOn 38 = .ok (.ireturn, 1) := by decide +kernel
theorem dX1_choose_0 : decode cX1_choose 0 = .ok (.iconst 0, 1) := by decide +kernel
theorem dX1_choose_1 : decode cX1_choose 1 = .ok (.istore_n 1, 1) := by decide +kernel
theorem dX1_choose_2 : decode cX1_choose 2 = .ok (.iconst 0, 1) := by decide +kernel
theorem dX1_choose_3 : decode cX1_choose 3 = .ok (.istore_n 2, 1) := by decide +kernel
theorem dX1_choose_4 : decode cX1_choose 4 = .ok (.iload_n 2, 1) := by decide +kernel
theorem dX1_choose_5 : decode cX1_choose 5 = .ok (.aload_n 0, 1) := by decide +kernel
theorem dX1_choose_6 : decode cX1_choose 6 = .ok (.getfield 67, 3) := by decide +kernel
theorem dX1_choose_9 : decode cX1_choose 9 = .ok (.if_icmp .ge 25, 3) := by decide +kernel
theorem dX1_choose_12 : decode cX1_choose 12 = .ok (.iload_n 1, 1) := by decide +kernel
theorem dX1_choose_13 : decode cX1_choose 13 = .ok (.aload_n 0, 1) := by decide +kernel
theorem dX1_choose_14 : decode cX1_choose 14 = .ok (.iload_n 2, 1) := by decide +kernel
theorem dX1_choose_15 : decode cX1_choose 15 = .ok (.invokevirtual 144, 3) := by decide +kernel
theorem dX1_choose_18 : decode cX1_choose 18 = .ok (.ifCond .eq 7, 3) := by decide +kernel
theorem dX1_choose_21 : decode cX1_choose 21 = .ok (.iconst 1, 1) := by decide +kernel
theorem dX1_choose_22 : decode cX1_choose 22 = .ok (.goto 4, 3) := by decide +kernel
theorem dX1_choose_25 : decode cX1_choose 25 = .ok (.iconst 0, 1) := by decide +kernel
theorem dX1_choose_26 : decode cX1_choose 26 = .ok (.iadd, 1) := by decide +kernel
theorem dX1_choose_27 : decode cX1_choose 27 = .ok (.istore_n 1, 1) := by decide +kernel
theorem dX1_choose_28 : decode cX1_choose 28 = .ok (.iinc 2 1, 3) := by decide +kernel
theorem dX1_choose_31 : decode cX1_choose 31 = .ok (.goto (-27), 3) := by decide +kernel
theorem dX1_choose_34 : decode cX1_choose 34 = .ok (.iload_n 1, 1) := by decide +kernel
theorem dX1_choose_35 : decode cX1_choose 35 = .ok (.ifCond .ne 5, 3) := by decide +kernel
theorem dX1_choose_38 : decode cX1_choose 38 = .ok (.iconst (-1), 1) := by decide +kernel
theorem dX1_choose_39 : decode cX1_choose 39 = .ok (.ireturn, 1) := by decide +kernel
theorem dX1_choose_40 : decode cX1_choose 40 = .ok (.iconst 0, 1) := by decide +kernel
theorem dX1_choose_41 : decode cX1_choose 41 = .ok (.istore_n 2, 1) := by decide +kernel
theorem dX1_choose_42 : decode cX1_choose 42 = .ok (.aload_n 0, 1) := by decide +kernel
theorem dX1_choose_43 : decode cX1_choose 43 = .ok (.getfield 89, 3) := by decide +kernel
theorem dX1_choose_46 : decode cX1_choose 46 = .ok (.ifCond .eq 28, 3) := by decide +kernel
theorem dX1_choose_49 : decode cX1_choose 49 = .ok (.aload_n 0, 1) := by decide +kernel
theorem dX1_choose_50 : decode cX1_choose 50 = .ok (.aload_n 0, 1) := by decide +kernel
theorem dX1_choose_51 : decode cX1_choose 51 = .ok (.getfield 92, 3) := by decide +kernel
theorem dX1_choose_54 : decode cX1_choose 54 = .ok (.ldc 147, 2) := by decide +kernel
theorem dX1_choose_56 : decode cX1_choose 56 = .ok (.imul, 1) := by decide +kernel
theorem dX1_choose_57 : decode cX1_choose 57 = .ok (.sipush 12345, 3) := by decide +kernel
theorem dX1_choose_60 : decode cX1_choose 60 = .ok (.iadd, 1) := by decide +kernel
theorem dX1_choose_61 : decode cX1_choose 61 = .ok (.putfield 92, 3) := by decide +kernel
theorem dX1_choose_64 : decode cX1_choose 64 = .ok (.aload_n 0, 1) := by decide +kernel
theorem dX1_choose_65 : decode cX1_choose 65 = .ok (.getfield 92, 3) := by decide +kernel
theorem dX1_choose_68 : decode cX1_choose 68 = .ok (.bipush 16, 2) := by decide +kernel
theorem dX1_choose_70 : decode cX1_choose 70 = .ok (.iushr, 1) := by decide +kernel
theorem dX1_choose_71 : decode cX1_choose 71 = .ok (.iload_n 1, 1) := by decide +kernel
theorem dX1_choose_72 : decode cX1_choose 72 = .ok (.irem, 1) := by decide +kernel
theorem dX1_choose_73 : decode cX1_choose 73 = .ok (.istore_n 2, 1) := by decide +kernel
theorem dX1_choose_74 : decode cX1_choose 74 = .ok (.iconst 0, 1) := by decide +kernel
theorem dX1_choose_75 : decode cX1_choose 75 = .ok (.istore_n 3, 1) := by decide +kernel
theorem dX1_choose_76 : decode cX1_choose 76 = .ok (.iload_n 3, 1) := by decide +kernel
theorem dX1_choose_77 : decode cX1_choose 77 = .ok (.aload_n 0, 1) := by decide +kernel
theorem dX1_choose_78 : decode cX1_choose 78 = .ok (.getfield 67, 3) := by decide +kernel
theorem dX1_choose_81 : decode cX1_choose 81 = .ok (.if_icmp .ge 37, 3) := by decide +kernel
theorem dX1_choose_84 : decode cX1_choose 84 = .ok (.iload_n 2, 1) := by decide +kernel
theorem dX1_choose_85 : decode cX1_choose 85 = .ok (.ifCond .gt 11, 3) := by decide +kernel
theorem dX1_choose_88 : decode cX1_choose 88 = .ok (.aload_n 0, 1) := by decide +kernel
theorem dX1_choose_89 : decode cX1_choose 89 = .ok (.iload_n 3, 1) := by decide +kernel
theorem dX1_choose_90 : decode cX1_choose 90 = .ok (.invokevirtual 144, 3) := by decide +kernel
theorem dX1_choose_93 : decode cX1_choose 93 = .ok (.ifCond .ne 25, 3) := by decide +kernel
theorem dX1_choose_96 : decode cX1_choose 96 = .ok (.iload_n 2, 1) := by decide +kernel
theorem dX1_choose_97 : decode cX1_choose 97 = .ok (.aload_n 0, 1) := by decide +kernel
theorem dX1_choose_98 : decode cX1_choose 98 = .ok (.iload_n 3, 1) := by decide +kernel
theorem dX1_choose_99 : decode cX1_choose 99 = .ok (.invokevirtual 144, 3) := by decide +kernel
theorem dX1_choose_102 : decode cX1_choose 102 = .ok (.ifCond .eq 7, 3) := by decide +kernel
theorem dX1_choose_105 : decode cX1_choose 105 = .ok (.iconst 1, 1) := by decide +kernel
theorem dX1_choose_106 : decode cX1_choose 106 = .ok (.goto 4, 3) := by decide +kernel
theorem dX1_choose_109 : decode cX1_choose 109 = .ok (.iconst 0, 1) := by decide +kernel
theorem dX1_choose_110 : decode cX1_choose 110 = .ok (.isub, 1) := by decide +kernel
theorem dX1_choose_111 : decode cX1_choose 111 = .ok (.istore_n 2, 1) := by decide +kernel
theorem dX1_choose_112 : decode cX1_choose 112 = .ok (.iinc 3 1, 3) := by decide +kernel
theorem dX1_choose_115 : decode cX1_choose 115 = .ok (.goto (-39), 3) := by decide +kernel
theorem dX1_choose_118 : decode cX1_choose 118 = .ok (.iload_n 3, 1) := by decide +kernel
theorem dX1_choose_119 : decode cX1_choose 119 = .ok (.ireturn, 1) := by decide +kernel
theorem dX1_goThread_0 : decode cX1_goThread 0 = .ok (.iconst 0, 1) := by decide +kernel
theorem dX1_goThread_1 : decode cX1_goThread 1 = .ok (.istore_n 2, 1) := by decide +kernel
theorem dX1_goThread_2 : decode cX1_goThread 2 = .ok (.aload_n 1, 1) := by decide +kernel
theorem dX1_goThread_3 : decode cX1_goThread 3 = .ok (.getfield 141, 3) := by decide +kernel
theorem dX1_goThread_6 : decode cX1_goThread 6 = .ok (.iconst (-1), 1) := by decide +kernel
theorem dX1_goThread_7 : decode cX1_goThread 7 = .ok (.if_icmp .eq 24, 3) := by decide +kernel
theorem dX1_goThread_10 : decode cX1_goThread 10 = .ok (.aload_n 0, 1) := by decide +kernel
theorem dX1_goThread_11 : decode cX1_goThread 11 = .ok (.aload_n 1, 1) := by decide +kernel
theorem dX1_goThread_12 : decode cX1_goThread 12 = .ok (.getfield 141, 3) := by decide +kernel
theorem dX1_goThread_15 : decode cX1_goThread 15 = .ok (.invokevirtual 118, 3) := by decide +kernel
theorem dX1_goThread_18 : decode cX1_goThread 18 = .ok (.astore_n 3, 1) := by decide +kernel
theorem dX1_goThread_19 : decode cX1_goThread 19 = .ok (.aload_n 1, 1) := by decide +kernel
theorem dX1_goThread_20 : decode cX1_goThread 20 = .ok (.iconst (-1), 1) := by decide +kernel
theorem dX1_goThread_21 : decode cX1_goThread 21 = .ok (.putfield 141, 3) := by decide +kernel
theorem dX1_goThread_24 : decode cX1_goThread 24 = .ok (.aload_n 0, 1) := by decide +kernel
theorem dX1_goThread_25 : decode cX1_goThread 25 = .ok (.aload_n 1, 1) := by decide +kernel
theorem dX1_goThread_26 : decode cX1_goThread 26 = .ok (.aload_n 3, 1) := by decide +kernel
theorem dX1_goThread_27 : decode cX1_goThread 27 = .ok (.invokevirtual 148, 3) := by decide +kernel
theorem dX1_goThread_30 : decode cX1_goThread 30 = .ok (.istore_n 2, 1) := by decide +kernel
theorem dX1_goThread_31 : decode cX1_goThread 31 = .ok (.iconst 0, 1) := by decide +kernel
theorem dX1_goThread_32 : decode cX1_goThread 32 = .ok (.istore_n 3, 1) := by decide +kernel
theorem dX1_goThread_33 : decode cX1_goThread 33 = .ok (.iload_n 3, 1) := by decide +kernel
theorem dX1_goThread_34 : decode cX1_goThread 34 = .ok (.ldc 117, 2) := by decide +kernel
theorem dX1_goThread_36 : decode cX1_goThread 36 = .ok (.if_icmp .ge 48, 3) := by decide +kernel
theorem dX1_goThread_39 : decode cX1_goThread 39 = .ok (.iload_n 2, 1) := by decide +kernel
theorem dX1_goThread_40 : decode cX1_goThread 40 = .ok (.iconst 1, 1) := by decide +kernel
theorem dX1_goThread_41 : decode cX1_goThread 41 = .ok (.if_icmp .eq 43, 3) := by decide +kernel
theorem dX1_goThread_44 : decode cX1_goThread 44 = .ok (.iload_n 2, 1) := by decide +kernel
theorem dX1_goThread_45 : decode cX1_goThread 45 = .ok (.iconst 2, 1) := by decide +kernel
theorem dX1_goThread_46 : decode cX1_goThread 46 = .ok (.if_icmp .ne 12, 3) := by decide +kernel
theorem dX1_goThread_49 : decode cX1_goThread 49 = .ok (.aload_n 0, 1) := by decide +kernel
theorem dX1_goThread_50 : decode cX1_goThread 50 = .ok (.aload_n 1, 1) := by decide +kernel
theorem dX1_goThread_51 : decode cX1_goThread 51 = .ok (.invokevirtual 152, 3) := by decide +kernel
theorem dX1_goThread_54 : decode cX1_goThread 54 = .ok (.istore_n 2, 1) := by decide +kernel
theorem dX1_goThread_55 : decode cX1_goThread 55 = .ok (.goto 23, 3) := by decide +kernel
theorem dX1_goThread_58 : decode cX1_goThread 58 = .ok (.iload_n 2, 1) := by decide +kernel
theorem dX1_goThread_59 : decode cX1_goThread 59 = .ok (.iconst 3, 1) := by decide +kernel
theorem dX1_goThread_60 : decode cX1_goThread 60 = .ok (.if_icmp .ne 12, 3) := by decide +kernel
theorem dX1_goThread_63 : decode cX1_goThread 63 = .ok (.aload_n 0, 1) := by decide +kernel
theorem dX1_goThread_64 : decode cX1_goThread 64 = .ok (.aload_n 1, 1) := by decide +kernel
theorem dX1_goThread_65 : decode cX1_goThread 65 = .ok (.invokevirtual 113, 3) := by decide +kernel
theorem dX1_goThread_68 : decode cX1_goThread 68 = .ok (.istore_n 2, 1) := by decide +kernel
theorem dX1_goThread_69 : decode cX1_goThread 69 = .ok (.goto 9, 3) := by decide +kernel
theorem dX1_goThread_72 : decode cX1_goThread 72 = .ok (.aload_n 0, 1) := by decide +kernel
theorem dX1_goThread_73 : decode cX1_goThread 73 = .ok (.aload_n 1, 1) := by decide +kernel
theorem dX1_goThread_74 : decode cX1_goThread 74 = .ok (.invokevirtual 155, 3) := by decide +kernel
theorem dX1_goThread_77 : decode cX1_goThread 77 = .ok (.istore_n 2, 1) := by decide +kernel
theorem dX1_goThread_78 : decode cX1_goThread 78 = .ok (.iinc 3 1, 3) := by decide +kernel
theorem dX1_goThread_81 : decode cX1_goThread 81 = .ok (.goto (-48), 3) := by decide +kernel
theorem dX1_goThread_84 : decode cX1_goThread 84 = .ok (.return_, 1) := by decide +kernel
theorem dX1_step_0 : decode cX1_step 0 = .ok (.aload_n 0, 1) := by decide +kernel
theorem dX1_step_1 : decode cX1_step 1 = .ok (.getfield 11, 3) := by decide +kernel
theorem dX1_step_4 : decode cX1_step 4 = .ok (.aload_n 1, 1) := by decide +kernel
theorem dX1_step_5 : decode cX1_step 5 = .ok (.invokevirtual 158, 3) := by decide +kernel
theorem dX1_step_8 : decode cX1_step 8 = .ok (.invokevirtual 161, 3) := by decide +kernel
theorem dX1_step_11 : decode cX1_step 11 = .ok (.getfield 167, 3) := by decide +kernel
theorem dX1_step_14 : decode cX1_step 14 = .ok (.astore_n 2, 1) := by decide +kernel
theorem dX1_step_15 : decode cX1_step 15 = .ok (.aload_n 1, 1) := by decide +kernel
theorem dX1_step_16 : decode cX1_step 16 = .ok (.invokevirtual 170, 3) := by decide +kernel
theorem dX1_step_19 : decode cX1_step 19 = .ok (.istore_n 3, 1) := by decide +kernel
theorem dX1_step_20 : decode cX1_step 20 = .ok (.aload_n 2, 1) := by decide +kernel
theorem dX1_step_21 : decode cX1_step 21 = .ok (.iload_n 3, 1) := by decide +kernel
theorem dX1_step_22 : decode cX1_step 22 = .ok (.invokevirtual 173, 3) := by decide +kernel
theorem dX1_step_25 : decode cX1_step 25 = .ok (.istore 4, 2) := by decide +kernel
theorem dX1_step_27 : decode cX1_step 27 = .ok (.iload 4, 2) := by decide +kernel
theorem dX1_step_29 : decode cX1_step 29 = .ok (.ifCond .lt 21, 3) := by decide +kernel
theorem dX1_step_32 : decode cX1_step 32 = .ok (.iload 4, 2) := by decide +kernel
theorem dX1_step_34 : decode cX1_step 34 = .ok (.getstatic 177, 3) := by decide +kernel
theorem dX1_step_37 : decode cX1_step 37 = .ok (.arraylength, 1) := by decide +kernel
theorem dX1_step_38 : decode cX1_step 38 = .ok (.if_icmp .ge 12, 3) := by decide +kernel
theorem dX1_step_41 : decode cX1_step 41 = .ok (.getstatic 177, 3) := by decide +kernel
theorem dX1_step_44 : decode cX1_step 44 = .ok (.iload 4, 2) := by decide +kernel
theorem dX1_step_46 : decode cX1_step 46 = .ok (.iaload, 1) := by decide +kernel
theorem dX1_step_47 : decode cX1_step 47 = .ok (.goto 4, 3) := by decide +kernel
theorem dX1_step_50 : decode cX1_step 50 = .ok (.iconst 0, 1) := by decide +kernel
theorem dX1_step_51 : decode cX1_step 51 = .ok (.istore 5, 2) := by decide +kernel
theorem dX1_step_53 : decode cX1_step 53 = .ok (.iload 5, 2) := by decide +kernel
theorem dX1_step_55 : decode cX1_step 55 = .ok (.ifCond .le 13, 3) := by decide +kernel
theorem dX1_step_58 : decode cX1_step 58 = .ok (.aload_n 2, 1) := by decide +kernel
theorem dX1_step_59 : decode cX1_step 59 = .ok (.iload_n 3, 1) := by decide +kernel
theorem dX1_step_60 : decode cX1_step 60 = .ok (.iconst 1, 1) := by decide +kernel
theorem dX1_step_61 : decode cX1_step 61 = .ok (.iadd, 1) := by decide +kernel
theorem dX1_step_62 : decode cX1_step 62 = .ok (.invokevirtual 181, 3) := by decide +kernel
theorem dX1_step_65 : decode cX1_step 65 = .ok (.goto 4, 3) := by decide +kernel
theorem dX1_step_68 : decode cX1_step 68 = .ok (.iconst 0, 1) := by decide +kernel
theorem dX1_step_69 : decode cX1_step 69 = .ok (.istore 6, 2) := by decide +kernel
theorem dX1_step_71 : decode cX1_step 71 = .ok (.aload_n 1, 1) := by decide +kernel
theorem dX1_step_72 : decode cX1_step 72 = .ok (.iload_n 3, 1) := by decide +kernel
theorem dX1_step_73 : decode cX1_step 73 = .ok (.iconst 1, 1) := by decide +kernel
theorem dX1_step_74 : decode cX1_step 74 = .ok (.iadd, 1) := by decide +kernel
theorem dX1_step_75 : decode cX1_step 75 = .ok (.iconst 2, 1) := by decide +kernel
theorem dX1_step_76 : decode cX1_step 76 = .ok (.iload 5, 2) := by decide +kernel
theorem dX1_step_78 : decode cX1_step 78 = .ok (.imul, 1) := by decide +kernel
theorem dX1_step_79 : decode cX1_step 79 = .ok (.iadd, 1) := by decide +kernel
theorem dX1_step_80 : decode cX1_step 80 = .ok (.invokevirtual 184, 3) := by decide +kernel
theorem dX1_step_83 : decode cX1_step 83 = .ok (.iload 4, 2) := by decide +kernel
theorem dX1_step_85 : decode cX1_step 85 = .ok (.tableswitch 375 0 27 #[127, 145, 153, 172, 179, 187, 195, 203, 218, 226, 241, 256, 256, 256, 256, 264, 270, 275, 282, 290, 301, 306, 312, 318, 324, 330, 339, 348], 127) := by decide +kernel
theorem dX1_step_212 : decode cX1_step 212 = .ok (.aload_n 1, 1) := by decide +kernel
theorem dX1_step_213 : decode cX1_step 213 = .ok (.iconst 0, 1) := by decide +kernel
theorem dX1_step_214 : decode cX1_step 214 = .ok (.aload_n 0, 1) := by decide +kernel
theorem dX1_step_215 : decode cX1_step 215 = .ok (.getfield 11, 3) := by decide +kernel
theorem dX1_step_218 : decode cX1_step 218 = .ok (.iload 6, 2) := by decide +kernel
theorem dX1_step_220 : decode cX1_step 220 = .ok (.invokevirtual 187, 3) := by decide +kernel
theorem dX1_step_223 : decode cX1_step 223 = .ok (.invokestatic 190, 3) := by decide +kernel
theorem dX1_step_226 : decode cX1_step 226 = .ok (.invokestatic 194, 3) := by decide +kernel
theorem dX1_step_229 : decode cX1_step 229 = .ok (.ireturn, 1) := by decide +kernel
theorem dX1_step_230 : decode cX1_step 230 = .ok (.aload_n 1, 1) := by decide +kernel
theorem dX1_step_231 : decode cX1_step 231 = .ok (.ldc2_w 198, 3) := by decide +kernel
theorem dX1_step_234 : decode cX1_step 234 = .ok (.invokestatic 194, 3) := by decide +kernel
theorem dX1_step_237 : decode cX1_step 237 = .ok (.ireturn, 1) := by decide +kernel
theorem dX1_step_238 : decode cX1_step 238 = .ok (.aload_n 1, 1) := by decide +kernel
theorem dX1_step_239 : decode cX1_step 239 = .ok (.aload_n 1, 1) := by decide +kernel
theorem dX1_step_240 : decode cX1_step 240 = .ok (.getfield 200, 3) := by decide +kernel
theorem dX1_step_243 : decode cX1_step 243 = .ok (.aload_n 1, 1) := by decide +kernel
theorem dX1_step_244 : decode cX1_step 244 = .ok (.invokevirtual 203, 3) := by decide +kernel
theorem dX1_step_247 : decode cX1_step 247 = .ok (.iload 6, 2) := by decide +kernel
theorem dX1_step_249 : decode cX1_step 249 = .ok (.iadd, 1) := by decide +kernel
theorem dX1_step_250 : decode cX1_step 250 = .ok (.invokevirtual 206, 3) := by decide +kernel
theorem dX1_step_253 : decode cX1_step 253 = .ok (.invokestatic 194, 3) := by decide +kernel
theorem dX1_step_256 : decode cX1_step 256 = .ok (.ireturn, 1) := by decide +kernel
theorem dX1_step_257 : decode cX1_step 257 = .ok (.aload_n 1, 1) := by decide +kernel
theorem dX1_step_258 : decode cX1_step 258 = .ok (.iload 6, 2) := by decide +kernel
theorem dX1_step_260 : decode cX1_step 260 = .ok (.invokestatic 210, 3) := by decide +kernel
theorem dX1_step_263 : decode cX1_step 263 = .ok (.ireturn, 1) := by decide +kernel
theorem dX1_step_264 : decode cX1_step 264 = .ok (.aload_n 0, 1) := by decide +kernel
theorem dX1_step_265 : decode cX1_step 265 = .ok (.aload_n 1, 1) := by decide +kernel
theorem dX1_step_266 : decode cX1_step 266 = .ok (.iload 6, 2) := by decide +kernel
theorem dX1_step_268 : decode cX1_step 268 = .ok (.invokevirtual 105, 3) := by decide +kernel
theorem dX1_step_271 : decode cX1_step 271 = .ok (.ireturn, 1) := by decide +kernel
theorem dX1_step_272 : decode cX1_step 272 = .ok (.aload_n 0, 1) := by decide +kernel
theorem dX1_step_273 : decode cX1_step 273 = .ok (.aload_n 1, 1) := by decide +kernel
theorem dX1_step_274 : decode cX1_step 274 = .ok (.iload 6, 2) := by decide +kernel
theorem dX1_step_276 : decode cX1_step 276 = .ok (.invokevirtual 213, 3) := by decide +kernel
theorem dX1_step_279 : decode cX1_step 279 = .ok (.ireturn, 1) := by decide +kernel
theorem dX1_step_280 : decode cX1_step 280 = .ok (.aload_n 0, 1) := by decide +kernel
theorem dX1_step_281 : decode cX1_step 281 = .ok (.aload_n 1, 1) := by decide +kernel
theorem dX1_step_282 : decode cX1_step 282 = .ok (.iload 6, 2) := by decide +kernel
theorem dX1_step_284 : decode cX1_step 284 = .ok (.invokevirtual 216, 3) := by decide +kernel
theorem dX1_step_287 : decode cX1_step 287 = .ok (.ireturn, 1) := by decide +kernel
theorem dX1_step_288 : decode cX1_step 288 = .ok (.aload_n 0, 1) := by decide +kernel
theorem dX1_step_289 : decode cX1_step 289 = .ok (.aload_n 1, 1) := by decide +kernel
theorem dX1_step_290 : decode cX1_step 290 = .ok (.iload 6, 2) := by decide +kernel
theorem dX1_step_292 : decode cX1_step 292 = .ok (.aload_n 2, 1) := by decide +kernel
theorem dX1_step_293 : decode cX1_step 293 = .ok (.iload_n 3, 1) := by decide +kernel
theorem dX1_step_294 : decode cX1_step 294 = .ok (.iconst 3, 1) := by decide +kernel
theorem dX1_step_295 : decode cX1_step 295 = .ok (.iadd, 1) := by decide +kernel
theorem dX1_step_296 : decode cX1_step 296 = .ok (.invokevirtual 181, 3) := by decide +kernel
theorem dX1_step_299 : decode cX1_step 299 = .ok (.invokevirtual 219, 3) := by decide +kernel
theorem dX1_step_302 : decode cX1_step 302 = .ok (.ireturn, 1) := by decide +kernel
theorem dX1_step_303 : decode cX1_step 303 = .ok (.aload_n 0, 1) := by decide +kernel
theorem dX1_step_304 : decode cX1_step 304 = .ok (.aload_n 1, 1) := by decide +kernel
theorem dX1_step_305 : decode cX1_step 305 = .ok (.iload 6, 2) := by decide +kernel
theorem dX1_step_307 : decode cX1_step 307 = .ok (.invokevirtual 223, 3) := by decide +kernel
theorem dX1_step_310 : decode cX1_step 310 = .ok (.ireturn, 1) := by decide +kernel
theorem dX1_step_311 : decode cX1_step 311 = .ok (.aload_n 0, 1) := by decide +kernel
theorem dX1_step_312 : decode cX1_step 312 = .ok (.aload_n 1, 1) := by decide +kernel
theorem dX1_step_313 : decode cX1_step 313 = .ok (.aload_n 0, 1) := by decide +kernel
