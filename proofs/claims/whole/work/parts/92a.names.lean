abbrev cX12_thrown : ByteArray := prog_14_method_2_code
def yX12_thrown : MethodName := ⟨RX12, "thrown", "()I"⟩
abbrev cX12_in : ByteArray := prog_14_method_3_code
def yX12_in : MethodName := ⟨RX12, "in", "(JJJ)Z"⟩
abbrev cX12_feed : ByteArray := prog_14_method_4_code
def yX12_feed : MethodName := ⟨RX12, "feed", "(IIIII)Z"⟩
abbrev cX12_end : ByteArray := prog_14_method_5_code
def yX12_end : MethodName := ⟨RX12, "end", "(I)Z"⟩
abbrev cX12_at : ByteArray := prog_14_method_6_code
def yX12_at : MethodName := ⟨RX12, "at", "(I)I"⟩
abbrev cX12_isLetter : ByteArray := prog_14_method_7_code
def yX12_isLetter : MethodName := ⟨RX12, "isLetter", "(I)Z"⟩
abbrev cX12_isDigit : ByteArray := prog_14_method_8_code
def yX12_isDigit : MethodName := ⟨RX12, "isDigit", "(I)Z"⟩
abbrev cX12_isFine : ByteArray := prog_14_method_9_code
def yX12_isFine : MethodName := ⟨RX12, "isFine", "()Z"⟩
abbrev cX12_failsAt : ByteArray := prog_14_method_10_code
def yX12_failsAt : MethodName := ⟨RX12, "failsAt", "(II)V"⟩
abbrev cX12_fails : ByteArray := prog_14_method_11_code
def yX12_fails : MethodName := ⟨RX12, "fails", "(I)V"⟩
abbrev cX12_digitOf : ByteArray := prog_14_method_12_code
def yX12_digitOf : MethodName := ⟨RX12, "digitOf", "(I)I"⟩
abbrev cX12_codeOf : ByteArray := prog_14_method_13_code
def yX12_codeOf : MethodName := ⟨RX12, "codeOf", "(Ljava/lang/String;II)J"⟩
abbrev cX12_keywordOf : ByteArray := prog_14_method_14_code
def yX12_keywordOf : MethodName := ⟨RX12, "keywordOf", "(J)I"⟩
abbrev cX12_next : ByteArray := prog_14_method_15_code
def yX12_next : MethodName := ⟨RX12, "next", "()V"⟩
abbrev cX12_nextName : ByteArray := prog_14_method_16_code
def yX12_nextName : MethodName := ⟨RX12, "nextName", "()V"⟩
abbrev cX12_nextNumber : ByteArray := prog_14_method_17_code
def yX12_nextNumber : MethodName := ⟨RX12, "nextNumber", "()V"⟩
abbrev cX12_nextPattern : ByteArray := prog_14_method_18_code
def yX12_nextPattern : MethodName := ⟨RX12, "nextPattern", "()V"⟩
abbrev cX12_nextSign : ByteArray := prog_14_method_19_code
def yX12_nextSign : MethodName := ⟨RX12, "nextSign", "(I)V"⟩
abbrev cX12_isSign : ByteArray := prog_14_method_20_code
def yX12_isSign : MethodName := ⟨RX12, "isSign", "(I)Z"⟩
abbrev cX12_isKey : ByteArray := prog_14_method_21_code
def yX12_isKey : MethodName := ⟨RX12, "isKey", "(I)Z"⟩
abbrev cX12_misfit : ByteArray := prog_14_method_22_code
def yX12_misfit : MethodName := ⟨RX12, "misfit", "()V"⟩
abbrev cX12_sign : ByteArray := prog_14_method_23_code
def yX12_sign : MethodName := ⟨RX12, "sign", "(I)V"⟩
abbrev cX12_key : ByteArray := prog_14_method_24_code
def yX12_key : MethodName := ⟨RX12, "key", "(I)V"⟩
abbrev cX12_isName : ByteArray := prog_14_method_25_code
def yX12_isName : MethodName := ⟨RX12, "isName", "()Z"⟩
abbrev cX12_keepPattern : ByteArray := prog_14_method_26_code
def yX12_keepPattern : MethodName := ⟨RX12, "keepPattern", "(I)V"⟩
abbrev cX12_covers : ByteArray := prog_14_method_27_code
def yX12_covers : MethodName := ⟨RX12, "covers", "(II)Z"⟩
abbrev cX12_pattern : ByteArray := prog_14_method_28_code
def yX12_pattern : MethodName := ⟨RX12, "pattern", "(IZ)V"⟩
abbrev cX12_right : ByteArray := prog_14_method_29_code
def yX12_right : MethodName := ⟨RX12, "right", "(I)V"⟩
abbrev cX12_hasRight : ByteArray := prog_14_method_30_code
def yX12_hasRight : MethodName := ⟨RX12, "hasRight", "(IJI)Z"⟩
abbrev cX12_hasDomain : ByteArray := prog_14_method_31_code
def yX12_hasDomain : MethodName := ⟨RX12, "hasDomain", "(IJI)Z"⟩
abbrev cX12_hasLimit : ByteArray := prog_14_method_32_code
def yX12_hasLimit : MethodName := ⟨RX12, "hasLimit", "(IJI)Z"⟩
abbrev cX12_node : ByteArray := prog_14_method_33_code
def yX12_node : MethodName := ⟨RX12, "node", "(III)I"⟩
abbrev cX12_gets : ByteArray := prog_14_method_34_code
def yX12_gets : MethodName := ⟨RX12, "gets", "(II)V"⟩
abbrev cX12_program : ByteArray := prog_14_method_35_code
def yX12_program : MethodName := ⟨RX12, "program", "()I"⟩
abbrev cX12_readAll : ByteArray := prog_14_method_36_code
def yX12_readAll : MethodName := ⟨RX12, "readAll", "()V"⟩
abbrev cX12_grant : ByteArray := prog_14_method_37_code
def yX12_grant : MethodName := ⟨RX12, "grant", "()V"⟩
abbrev cX12_moduleOf : ByteArray := prog_14_method_38_code
def yX12_moduleOf : MethodName := ⟨RX12, "moduleOf", "(J)I"⟩
abbrev cX12_readModule : ByteArray := prog_14_method_39_code
def yX12_readModule : MethodName := ⟨RX12, "readModule", "()V"⟩
abbrev cX12_readField : ByteArray := prog_14_method_40_code
def yX12_readField : MethodName := ⟨RX12, "readField", "(I)V"⟩
abbrev cX12_fieldsAbove : ByteArray := prog_14_method_41_code
def yX12_fieldsAbove : MethodName := ⟨RX12, "fieldsAbove", "(I)I"⟩
abbrev cX12_fieldOf : ByteArray := prog_14_method_42_code
def yX12_fieldOf : MethodName := ⟨RX12, "fieldOf", "(IJ)I"⟩
abbrev cX12_countsPart : ByteArray := prog_14_method_43_code
def yX12_countsPart : MethodName := ⟨RX12, "countsPart", "()Z"⟩
abbrev cX12_newUnit : ByteArray := prog_14_method_44_code
def yX12_newUnit : MethodName := ⟨RX12, "newUnit", "(III)I"⟩
abbrev cX12_newVariable : ByteArray := prog_14_method_45_code
def yX12_newVariable : MethodName := ⟨RX12, "newVariable", "(IJIZ)I"⟩
abbrev cX12_readMethod : ByteArray := prog_14_method_46_code
def yX12_readMethod : MethodName := ⟨RX12, "readMethod", "(I)V"⟩
abbrev cX12_parameters : ByteArray := prog_14_method_47_code
def yX12_parameters : MethodName := ⟨RX12, "parameters", "(II)V"⟩
abbrev cX12_beginsPrefix : ByteArray := prog_14_method_48_code
def yX12_beginsPrefix : MethodName := ⟨RX12, "beginsPrefix", "()Z"⟩
abbrev cX12_beginsE : ByteArray := prog_14_method_49_code
def yX12_beginsE : MethodName := ⟨RX12, "beginsE", "()Z"⟩
abbrev cX12_deeper : ByteArray := prog_14_method_50_code
def yX12_deeper : MethodName := ⟨RX12, "deeper", "(Z)Z"⟩
abbrev cX12_e : ByteArray := prog_14_method_51_code
def yX12_e : MethodName := ⟨RX12, "e", "()I"⟩
abbrev cX12_innerPrefix : ByteArray := prog_14_method_52_code
def yX12_innerPrefix : MethodName := ⟨RX12, "innerPrefix", "()I"⟩
abbrev cX12_wholeE : ByteArray := prog_14_method_53_code
def yX12_wholeE : MethodName := ⟨RX12, "wholeE", "()I"⟩
abbrev cX12_operation : ByteArray := prog_14_method_54_code
def yX12_operation : MethodName := ⟨RX12, "operation", "(II)I"⟩
abbrev cX12_sum : ByteArray := prog_14_method_55_code
def yX12_sum : MethodName := ⟨RX12, "sum", "()I"⟩
abbrev cX12_product : ByteArray := prog_14_method_56_code
def yX12_product : MethodName := ⟨RX12, "product", "()I"⟩
abbrev cX12_anyPrefix : ByteArray := prog_14_method_57_code
def yX12_anyPrefix : MethodName := ⟨RX12, "anyPrefix", "()I"⟩
abbrev cX12_binds : ByteArray := prog_14_method_58_code
def yX12_binds : MethodName := ⟨RX12, "binds", "(I)V"⟩
abbrev cX12_letE : ByteArray := prog_14_method_59_code
def yX12_letE : MethodName := ⟨RX12, "letE", "()I"⟩
abbrev cX12_around : ByteArray := prog_14_method_60_code
def yX12_around : MethodName := ⟨RX12, "around", "(II)V"⟩
abbrev cX12_ifE : ByteArray := prog_14_method_61_code
def yX12_ifE : MethodName := ⟨RX12, "ifE", "()I"⟩
abbrev cX12_tryE : ByteArray := prog_14_method_62_code
def yX12_tryE : MethodName := ⟨RX12, "tryE", "()I"⟩
abbrev cX12_prefix : ByteArray := prog_14_method_63_code
def yX12_prefix : MethodName := ⟨RX12, "prefix", "()I"⟩
abbrev cX12_priv : ByteArray := prog_14_method_64_code
def yX12_priv : MethodName := ⟨RX12, "priv", "()I"⟩
abbrev cX12_bodyOf : ByteArray := prog_14_method_65_code
def yX12_bodyOf : MethodName := ⟨RX12, "bodyOf", "(I)V"⟩
abbrev cX12_under : ByteArray := prog_14_method_66_code
def yX12_under : MethodName := ⟨RX12, "under", "()I"⟩
abbrev cX12_numberOf : ByteArray := prog_14_method_67_code
def yX12_numberOf : MethodName := ⟨RX12, "numberOf", "(I)I"⟩
abbrev cX12_nameOf : ByteArray := prog_14_method_68_code
def yX12_nameOf : MethodName := ⟨RX12, "nameOf", "(J)I"⟩
abbrev cX12_postfix : ByteArray := prog_14_method_69_code
def yX12_postfix : MethodName := ⟨RX12, "postfix", "()I"⟩
abbrev cX12_dotted : ByteArray := prog_14_method_70_code
def yX12_dotted : MethodName := ⟨RX12, "dotted", "(I)I"⟩
abbrev cX12_arguments : ByteArray := prog_14_method_71_code
def yX12_arguments : MethodName := ⟨RX12, "arguments", "(I)I"⟩
abbrev cX12_simple : ByteArray := prog_14_method_72_code
def yX12_simple : MethodName := ⟨RX12, "simple", "(III)I"⟩
abbrev cX12_atom : ByteArray := prog_14_method_73_code
def yX12_atom : MethodName := ⟨RX12, "atom", "()I"⟩
abbrev cX12_simpleNumber : ByteArray := prog_14_method_74_code
def yX12_simpleNumber : MethodName := ⟨RX12, "simpleNumber", "()I"⟩
abbrev cX12_captures : ByteArray := prog_14_method_75_code
def yX12_captures : MethodName := ⟨RX12, "captures", "(I)V"⟩
abbrev cX12_variable : ByteArray := prog_14_method_76_code
def yX12_variable : MethodName := ⟨RX12, "variable", "()I"⟩
abbrev cX12_selfAtom : ByteArray := prog_14_method_77_code
def yX12_selfAtom : MethodName := ⟨RX12, "selfAtom", "()I"⟩
abbrev cX12_newAtom : ByteArray := prog_14_method_78_code
def yX12_newAtom : MethodName := ⟨RX12, "newAtom", "()I"⟩
abbrev cX12_fun : ByteArray := prog_14_method_79_code
def yX12_fun : MethodName := ⟨RX12, "fun", "()I"⟩
abbrev cX12_row : ByteArray := prog_14_method_80_code
def yX12_row : MethodName := ⟨RX12, "row", "()I"⟩
abbrev cX12_asking : ByteArray := prog_14_method_81_code
def yX12_asking : MethodName := ⟨RX12, "asking", "()I"⟩
abbrev cX12_findDomains : ByteArray := prog_14_method_82_code
def yX12_findDomains : MethodName := ⟨RX12, "findDomains", "()V"⟩
abbrev cX12_isOfGroup : ByteArray := prog_14_method_83_code
def yX12_isOfGroup : MethodName := ⟨RX12, "isOfGroup", "(II)Z"⟩
abbrev cX12_groupNeeds : ByteArray := prog_14_method_84_code
def yX12_groupNeeds : MethodName := ⟨RX12, "groupNeeds", "(I)Z"⟩
abbrev cX12_nodeNeeds : ByteArray := prog_14_method_85_code
def yX12_nodeNeeds : MethodName := ⟨RX12, "nodeNeeds", "(I)Z"⟩
abbrev cX12_areOfOne : ByteArray := prog_14_method_86_code
def yX12_areOfOne : MethodName := ⟨RX12, "areOfOne", "(II)Z"⟩
abbrev cX12_findNeeds : ByteArray := prog_14_method_87_code
def yX12_findNeeds : MethodName := ⟨RX12, "findNeeds", "()V"⟩
abbrev cX12_put : ByteArray := prog_14_method_88_code
def yX12_put : MethodName := ⟨RX12, "put", "(I)V"⟩
abbrev cX12_putNumber : ByteArray := prog_14_method_89_code
def yX12_putNumber : MethodName := ⟨RX12, "putNumber", "(I)V"⟩
abbrev cX12_put_ : ByteArray := prog_14_method_90_code
def yX12_put_ : MethodName := ⟨RX12, "put", "(II)V"⟩
abbrev cX12_codeBegin : ByteArray := prog_14_method_91_code
def yX12_codeBegin : MethodName := ⟨RX12, "codeBegin", "()I"⟩
abbrev cX12_localsOf : ByteArray := prog_14_method_92_code
def yX12_localsOf : MethodName := ⟨RX12, "localsOf", "(I)I"⟩
abbrev cX12_localOf : ByteArray := prog_14_method_93_code
def yX12_localOf : MethodName := ⟨RX12, "localOf", "(II)I"⟩
abbrev cX12_writeAll : ByteArray := prog_14_method_94_code
def yX12_writeAll : MethodName := ⟨RX12, "writeAll", "()V"⟩
abbrev cX12_opening : ByteArray := prog_14_method_95_code
def yX12_opening : MethodName := ⟨RX12, "opening", "(I)V"⟩
abbrev cX12_isSpine : ByteArray := prog_14_method_96_code
def yX12_isSpine : MethodName := ⟨RX12, "isSpine", "(I)Z"⟩
abbrev cX12_write : ByteArray := prog_14_method_97_code
def yX12_write : MethodName := ⟨RX12, "write", "(I)V"⟩
abbrev cX12_begins : ByteArray := prog_14_method_98_code
def yX12_begins : MethodName := ⟨RX12, "begins", "(IZ)V"⟩
abbrev cX12_writeSpine : ByteArray := prog_14_method_99_code
def yX12_writeSpine : MethodName := ⟨RX12, "writeSpine", "(I)V"⟩
abbrev cX12_writeUnit : ByteArray := prog_14_method_100_code
def yX12_writeUnit : MethodName := ⟨RX12, "writeUnit", "(II)V"⟩
abbrev cX12_writeOne : ByteArray := prog_14_method_101_code
def yX12_writeOne : MethodName := ⟨RX12, "writeOne", "(I)V"⟩
abbrev cX12_gap : ByteArray := prog_14_method_102_code
def yX12_gap : MethodName := ⟨RX12, "gap", "(I)I"⟩
abbrev cX12_fill : ByteArray := prog_14_method_103_code
def yX12_fill : MethodName := ⟨RX12, "fill", "(I)V"⟩
abbrev cX12_writeIf : ByteArray := prog_14_method_104_code
def yX12_writeIf : MethodName := ⟨RX12, "writeIf", "(I)V"⟩
abbrev cX12_writeTry : ByteArray := prog_14_method_105_code
def yX12_writeTry : MethodName := ⟨RX12, "writeTry", "(II)V"⟩
abbrev cX12_fault : ByteArray := prog_14_method_106_code
def yX12_fault : MethodName := ⟨RX12, "fault", "(I)I"⟩
abbrev cX12_count : ByteArray := prog_14_method_107_code
def yX12_count : MethodName := ⟨RX12, "count", "(I)I"⟩
abbrev cX12_isUnit : ByteArray := prog_14_method_108_code
def yX12_isUnit : MethodName := ⟨RX12, "isUnit", "(I)Z"⟩
abbrev cX12_unit : ByteArray := prog_14_method_109_code
def yX12_unit : MethodName := ⟨RX12, "unit", "(II)I"⟩
abbrev cX12_code : ByteArray := prog_14_method_110_code
def yX12_code : MethodName := ⟨RX12, "code", "(IZI)I"⟩
abbrev cX12_number : ByteArray := prog_14_method_111_code
def yX12_number : MethodName := ⟨RX12, "number", "(I)I"⟩
abbrev cX12_domain : ByteArray := prog_14_method_112_code
def yX12_domain : MethodName := ⟨RX12, "domain", "(I)I"⟩
abbrev cX12_asks : ByteArray := prog_14_method_113_code
def yX12_asks : MethodName := ⟨RX12, "asks", "()Z"⟩
abbrev cX12_has : ByteArray := prog_14_method_114_code
def yX12_has : MethodName := ⟨RX12, "has", "(IZ)I"⟩
abbrev cX12_own : ByteArray := prog_14_method_115_code
def yX12_own : MethodName := ⟨RX12, "own", "(I)Z"⟩
abbrev cX12_adds : ByteArray := prog_14_method_116_code
def yX12_adds : MethodName := ⟨RX12, "adds", "(IZ)Z"⟩
abbrev cX12_goesOn : ByteArray := prog_14_method_117_code
def yX12_goesOn : MethodName := ⟨RX12, "goesOn", "(IZ)Z"⟩
abbrev cX12_may : ByteArray := prog_14_method_118_code
def yX12_may : MethodName := ⟨RX12, "may", "(I)I"⟩
abbrev cX12_addProduct : ByteArray := prog_14_method_119_code
def yX12_addProduct : MethodName := ⟨RX12, "addProduct", "(I)V"⟩
abbrev cX12_keepMade : ByteArray := prog_14_method_120_code
def yX12_keepMade : MethodName := ⟨RX12, "keepMade", "()I"⟩
abbrev cX12_contextOf : ByteArray := prog_14_method_121_code
def yX12_contextOf : MethodName := ⟨RX12, "contextOf", "(II)I"⟩
abbrev cX12_bitsOf : ByteArray := prog_14_method_122_code
def yX12_bitsOf : MethodName := ⟨RX12, "bitsOf", "(JI)I"⟩
abbrev cX12_isGrantedBy : ByteArray := prog_14_method_123_code
def yX12_isGrantedBy : MethodName := ⟨RX12, "isGrantedBy", "(II)Z"⟩
abbrev cX12_isGrantedIn : ByteArray := prog_14_method_124_code
def yX12_isGrantedIn : MethodName := ⟨RX12, "isGrantedIn", "(II)Z"⟩
abbrev cX12_frameAt : ByteArray := prog_14_method_125_code
def yX12_frameAt : MethodName := ⟨RX12, "frameAt", "()I"⟩
abbrev cX12_push : ByteArray := prog_14_method_126_code
def yX12_push : MethodName := ⟨RX12, "push", "(II)V"⟩
abbrev cX12_pop : ByteArray := prog_14_method_127_code
def yX12_pop : MethodName := ⟨RX12, "pop", "()I"⟩
abbrev cX12_tells : ByteArray := prog_14_method_128_code
def yX12_tells : MethodName := ⟨RX12, "tells", "(IIII)V"⟩
abbrev cX12_failure : ByteArray := prog_14_method_129_code
def yX12_failure : MethodName := ⟨RX12, "failure", "(I)V"⟩
abbrev cX12_begin : ByteArray := prog_14_method_130_code
def yX12_begin : MethodName := ⟨RX12, "begin", "(III)Z"⟩
abbrev cX12_setLocal : ByteArray := prog_14_method_131_code
def yX12_setLocal : MethodName := ⟨RX12, "setLocal", "(IIIII)V"⟩
abbrev cX12_newThing : ByteArray := prog_14_method_132_code
def yX12_newThing : MethodName := ⟨RX12, "newThing", "(II)I"⟩
abbrev cX12_newObject : ByteArray := prog_14_method_133_code
def yX12_newObject : MethodName := ⟨RX12, "newObject", "(I)I"⟩
abbrev cX12_run : ByteArray := prog_14_method_134_code
def yX12_run : MethodName := ⟨RX12, "run", "(IIIZ)I"⟩
abbrev cX12_newThread : ByteArray := prog_14_method_135_code
def yX12_newThread : MethodName := ⟨RX12, "newThread", "()I"⟩
abbrev cX12_canGo : ByteArray := prog_14_method_136_code
def yX12_canGo : MethodName := ⟨RX12, "canGo", "(I)Z"⟩
abbrev cX12_ready : ByteArray := prog_14_method_137_code
def yX12_ready : MethodName := ⟨RX12, "ready", "()I"⟩
abbrev cX12_going : ByteArray := prog_14_method_138_code
def yX12_going : MethodName := ⟨RX12, "going", "()I"⟩
abbrev cX12_choose : ByteArray := prog_14_method_139_code
def yX12_choose : MethodName := ⟨RX12, "choose", "(I)V"⟩
abbrev cX12_hasWaited : ByteArray := prog_14_method_140_code
def yX12_hasWaited : MethodName := ⟨RX12, "hasWaited", "(I)V"⟩
abbrev cX12_wordAt : ByteArray := prog_14_method_141_code
def yX12_wordAt : MethodName := ⟨RX12, "wordAt", "(I)I"⟩
abbrev cX12_step : ByteArray := prog_14_method_142_code
def yX12_step : MethodName := ⟨RX12, "step", "()V"⟩
abbrev cX12_stepIf : ByteArray := prog_14_method_143_code
def yX12_stepIf : MethodName := ⟨RX12, "stepIf", "(II)V"⟩
abbrev cX12_stepTry : ByteArray := prog_14_method_144_code
def yX12_stepTry : MethodName := ⟨RX12, "stepTry", "(II)V"⟩
abbrev cX12_stepBack : ByteArray := prog_14_method_145_code
def yX12_stepBack : MethodName := ⟨RX12, "stepBack", "(I)V"⟩
abbrev cX12_stepOther : ByteArray := prog_14_method_146_code
def yX12_stepOther : MethodName := ⟨RX12, "stepOther", "(IIII)V"⟩
abbrev cX12_reckons : ByteArray := prog_14_method_147_code
def yX12_reckons : MethodName := ⟨RX12, "reckons", "(I)V"⟩
abbrev cX12_stepField : ByteArray := prog_14_method_148_code
def yX12_stepField : MethodName := ⟨RX12, "stepField", "(IJ)V"⟩
abbrev cX12_methodOf : ByteArray := prog_14_method_149_code
def yX12_methodOf : MethodName := ⟨RX12, "methodOf", "(IJI)I"⟩
abbrev cX12_sends : ByteArray := prog_14_method_150_code
def yX12_sends : MethodName := ⟨RX12, "sends", "(JI)V"⟩
abbrev cX12_takeCaptured : ByteArray := prog_14_method_151_code
def yX12_takeCaptured : MethodName := ⟨RX12, "takeCaptured", "(II)V"⟩
abbrev cX12_applies : ByteArray := prog_14_method_152_code
def yX12_applies : MethodName := ⟨RX12, "applies", "(I)V"⟩
abbrev cX12_closes : ByteArray := prog_14_method_153_code
def yX12_closes : MethodName := ⟨RX12, "closes", "(I)V"⟩
abbrev cX12_stepPart : ByteArray := prog_14_method_154_code
def yX12_stepPart : MethodName := ⟨RX12, "stepPart", "(I)V"⟩
abbrev cX12_asks_ : ByteArray := prog_14_method_155_code
def yX12_asks_ : MethodName := ⟨RX12, "asks", "(II)V"⟩
abbrev cX12_placeWith : ByteArray := prog_14_method_156_code
def yX12_placeWith : MethodName := ⟨RX12, "placeWith", "(II)V"⟩
abbrev cX12_stepWord : ByteArray := prog_14_method_157_code
def yX12_stepWord : MethodName := ⟨RX12, "stepWord", "(I)V"⟩
abbrev cX12_spawns : ByteArray := prog_14_method_158_code
def yX12_spawns : MethodName := ⟨RX12, "spawns", "(II)V"⟩
abbrev cX12_result : ByteArray := prog_14_method_159_code
def yX12_result : MethodName := ⟨RX12, "result", "(I)I"⟩
abbrev cX12_event : ByteArray := prog_14_method_160_code
def yX12_event : MethodName := ⟨RX12, "event", "(II)I"⟩
abbrev cX12_thread : ByteArray := prog_14_method_161_code
def yX12_thread : MethodName := ⟨RX12, "thread", "(II)I"⟩
abbrev cX12_context : ByteArray := prog_14_method_162_code
def yX12_context : MethodName := ⟨RX12, "context", "(II)I"⟩
theorem dX12_thrown_0 : decode cX12_thrown 0 = .ok (.aload_n 0, 1) := by decide +kernel
theorem dX12_thrown_1 : decode cX12_thrown 1 = .ok (.getfield 268, 3) := by decide +kernel
theorem dX12_thrown_4 : decode cX12_thrown 4 = .ok (.ireturn, 1) := by decide +kernel
theorem dX12_in_0 : decode cX12_in 0 = .ok (.lload_n 0, 1) := by decide +kernel
theorem dX12_in_1 : decode cX12_in 1 = .ok (.lload_n 2, 1) := by decide +kernel
theorem dX12_in_2 : decode cX12_in 2 = .ok (.lcmp, 1) := by decide +kernel
theorem dX12_in_3 : decode cX12_in 3 = .ok (.ifCond .lt 14, 3) := by decide +kernel
theorem dX12_in_6 : decode cX12_in 6 = .ok (.lload_n 0, 1) := by decide +kernel
theorem dX12_in_7 : decode cX12_in 7 = .ok (.lload 4, 2) := by decide +kernel
theorem dX12_in_9 : decode cX12_in 9 = .ok (.lcmp, 1) := by decide +kernel
theorem dX12_in_10 : decode cX12_in 10 = .ok (.ifCond .gt 7, 3) := by decide +kernel
theorem dX12_in_13 : decode cX12_in 13 = .ok (.iconst 1, 1) := by decide +kernel
theorem dX12_in_14 : decode cX12_in 14 = .ok (.goto 4, 3) := by decide +kernel
theorem dX12_in_17 : decode cX12_in 17 = .ok (.iconst 0, 1) := by decide +kernel
theorem dX12_in_18 : decode cX12_in 18 = .ok (.ireturn, 1) := by decide +kernel
theorem dX12_feed_0 : decode cX12_feed 0 = .ok (.aload_n 0, 1) := by decide +kernel
theorem dX12_feed_1 : decode cX12_feed 1 = .ok (.iconst 0, 1) := by decide +kernel
theorem dX12_feed_2 : decode cX12_feed 2 = .ok (.putfield 268, 3) := by decide +kernel
theorem dX12_feed_5 : decode cX12_feed 5 = .ok (.aload_n 0, 1) := by decide +kernel
theorem dX12_feed_6 : decode cX12_feed 6 = .ok (.getfield 271, 3) := by decide +kernel
theorem dX12_feed_9 : decode cX12_feed 9 = .ok (.bipush 20, 2) := by decide +kernel
theorem dX12_feed_11 : decode cX12_feed 11 = .ok (.iadd, 1) := by decide +kernel
theorem dX12_feed_12 : decode cX12_feed 12 = .ok (.sipush 3000, 3) := by decide +kernel
theorem dX12_feed_15 : decode cX12_feed 15 = .ok (.if_icmp .le 5, 3) := by decide +kernel
theorem dX12_feed_18 : decode cX12_feed 18 = .ok (.iconst 0, 1) := by decide +kernel
theorem dX12_feed_19 : decode cX12_feed 19 = .ok (.ireturn, 1) := by decide +kernel
theorem dX12_feed_20 : decode cX12_feed 20 = .ok (.iconst 0, 1) := by decide +kernel
theorem dX12_feed_21 : decode cX12_feed 21 = .ok (.istore 6, 2) := by decide +kernel
theorem dX12_feed_23 : decode cX12_feed 23 = .ok (.iload 6, 2) := by decide +kernel
theorem dX12_feed_25 : decode cX12_feed 25 = .ok (.bipush 20, 2) := by decide +kernel
theorem dX12_feed_27 : decode cX12_feed 27 = .ok (.if_icmp .ge 93, 3) := by decide +kernel
theorem dX12_feed_30 : decode cX12_feed 30 = .ok (.iload 6, 2) := by decide +kernel
theorem dX12_feed_32 : decode cX12_feed 32 = .ok (.iconst 4, 1) := by decide +kernel
theorem dX12_feed_33 : decode cX12_feed 33 = .ok (.if_icmp .ge 7, 3) := by decide +kernel
theorem dX12_feed_36 : decode cX12_feed 36 = .ok (.iload_n 1, 1) := by decide +kernel
theorem dX12_feed_37 : decode cX12_feed 37 = .ok (.goto 39, 3) := by decide +kernel
theorem dX12_feed_40 : decode cX12_feed 40 = .ok (.iload 6, 2) := by decide +kernel
theorem dX12_feed_42 : decode cX12_feed 42 = .ok (.bipush 8, 2) := by decide +kernel
theorem dX12_feed_44 : decode cX12_feed 44 = .ok (.if_icmp .ge 7, 3) := by decide +kernel
theorem dX12_feed_47 : decode cX12_feed 47 = .ok (.iload_n 2, 1) := by decide +kernel
theorem dX12_feed_48 : decode cX12_feed 48 = .ok (.goto 28, 3) := by decide +kernel
theorem dX12_feed_51 : decode cX12_feed 51 = .ok (.iload 6, 2) := by decide +kernel
theorem dX12_feed_53 : decode cX12_feed 53 = .ok (.bipush 12, 2) := by decide +kernel
theorem dX12_feed_55 : decode cX12_feed 55 = .ok (.if_icmp .ge 7, 3) := by decide +kernel
theorem dX12_feed_58 : decode cX12_feed 58 = .ok (.iload_n 3, 1) := by decide +kernel
theorem dX12_feed_59 : decode cX12_feed 59 = .ok (.goto 17, 3) := by decide +kernel
theorem dX12_feed_62 : decode cX12_feed 62 = .ok (.iload 6, 2) := by decide +kernel
theorem dX12_feed_64 : decode cX12_feed 64 = .ok (.bipush 16, 2) := by decide +kernel
theorem dX12_feed_66 : decode cX12_feed 66 = .ok (.if_icmp .ge 8, 3) := by decide +kernel
theorem dX12_feed_69 : decode cX12_feed 69 = .ok (.iload 4, 2) := by decide +kernel
theorem dX12_feed_71 : decode cX12_feed 71 = .ok (.goto 5, 3) := by decide +kernel
theorem dX12_feed_74 : decode cX12_feed 74 = .ok (.iload 5, 2) := by decide +kernel
theorem dX12_feed_76 : decode cX12_feed 76 = .ok (.istore 7, 2) := by decide +kernel
theorem dX12_feed_78 : decode cX12_feed 78 = .ok (.aload_n 0, 1) := by decide +kernel
theorem dX12_feed_79 : decode cX12_feed 79 = .ok (.getfield 9, 3) := by decide +kernel
theorem dX12_feed_82 : decode cX12_feed 82 = .ok (.aload_n 0, 1) := by decide +kernel
theorem dX12_feed_83 : decode cX12_feed 83 = .ok (.getfield 271, 3) := by decide +kernel
theorem dX12_feed_86 : decode cX12_feed 86 = .ok (.iload 7, 2) := by decide +kernel
theorem dX12_feed_88 : decode cX12_feed 88 = .ok (.bipush 24, 2) := by decide +kernel
theorem dX12_feed_90 : decode cX12_feed 90 = .ok (.bipush 8, 2) := by decide +kernel
theorem dX12_feed_92 : decode cX12_feed 92 = .ok (.iload 6, 2) := by decide +kernel
theorem dX12_feed_94 : decode cX12_feed 94 = .ok (.iconst 4, 1) := by decide +kernel
theorem dX12_feed_95 : decode cX12_feed 95 = .ok (.irem, 1) := by decide +kernel
theorem dX12_feed_96 : decode cX12_feed 96 = .ok (.imul, 1) := by decide +kernel
theorem dX12_feed_97 : decode cX12_feed 97 = .ok (.isub, 1) := by decide +kernel
theorem dX12_feed_98 : decode cX12_feed 98 = .ok (.ishr, 1) := by decide +kernel
theorem dX12_feed_99 : decode cX12_feed 99 = .ok (.sipush 255, 3) := by decide +kernel
theorem dX12_feed_102 : decode cX12_feed 102 = .ok (.iand, 1) := by decide +kernel
theorem dX12_feed_103 : decode cX12_feed 103 = .ok (.iastore, 1) := by decide +kernel
theorem dX12_feed_104 : decode cX12_feed 104 = .ok (.aload_n 0, 1) := by decide +kernel
theorem dX12_feed_105 : decode cX12_feed 105 = .ok (.dup, 1) := by decide +kernel
theorem dX12_feed_106 : decode cX12_feed 106 = .ok (.getfield 271, 3) := by decide +kernel
theorem dX12_feed_109 : decode cX12_feed 109 = .ok (.iconst 1, 1) := by decide +kernel
theorem dX12_feed_110 : decode cX12_feed 110 = .ok (.iadd, 1) := by decide +kernel
theorem dX12_feed_111 : decode cX12_feed 111 = .ok (.putfield 271, 3) := by decide +kernel
theorem dX12_feed_114 : decode cX12_feed 114 = .ok (.iinc 6 1, 3) := by decide +kernel
theorem dX12_feed_117 : decode cX12_feed 117 = .ok (.goto (-94), 3) := by decide +kernel
theorem dX12_feed_120 : decode cX12_feed 120 = .ok (.iconst 1, 1) := by decide +kernel
theorem dX12_feed_121 : decode cX12_feed 121 = .ok (.ireturn, 1) := by decide +kernel
theorem dX12_end_0 : decode cX12_end 0 = .ok (.aload_n 0, 1) := by decide +kernel
theorem dX12_end_1 : decode cX12_end 1 = .ok (.iconst 0, 1) := by decide +kernel
theorem dX12_end_2 : decode cX12_end 2 = .ok (.putfield 268, 3) := by decide +kernel
theorem dX12_end_5 : decode cX12_end 5 = .ok (.iload_n 1, 1) := by decide +kernel
theorem dX12_end_6 : decode cX12_end 6 = .ok (.i2l, 1) := by decide +kernel
theorem dX12_end_7 : decode cX12_end 7 = .ok (.lconst 0, 1) := by decide +kernel
theorem dX12_end_8 : decode cX12_end 8 = .ok (.aload_n 0, 1) := by decide +kernel
theorem dX12_end_9 : decode cX12_end 9 = .ok (.getfield 271, 3) := by decide +kernel
theorem dX12_end_12 : decode cX12_end 12 = .ok (.i2l, 1) := by decide +kernel
theorem dX12_end_13 : decode cX12_end 13 = .ok (.invokestatic 274, 3) := by decide +kernel
theorem dX12_end_16 : decode cX12_end 16 = .ok (.ifCond .ne 5, 3) := by decide +kernel
theorem dX12_end_19 : decode cX12_end 19 = .ok (.iconst 0, 1) := by decide +kernel
theorem dX12_end_20 : decode cX12_end 20 = .ok (.ireturn, 1) := by decide +kernel
theorem dX12_end_21 : decode cX12_end 21 = .ok (.aload_n 0, 1) := by decide +kernel
theorem dX12_end_22 : decode cX12_end 22 = .ok (.iload_n 1, 1) := by decide +kernel
theorem dX12_end_23 : decode cX12_end 23 = .ok (.putfield 271, 3) := by decide +kernel
theorem dX12_end_26 : decode cX12_end 26 = .ok (.iconst 1, 1) := by decide +kernel
theorem dX12_end_27 : decode cX12_end 27 = .ok (.ireturn, 1) := by decide +kernel
theorem dX12_at_0 : decode cX12_at 0 = .ok (.iload_n 1, 1) := by decide +kernel
theorem dX12_at_1 : decode cX12_at 1 = .ok (.aload_n 0, 1) := by decide +kernel
theorem dX12_at_2 : decode cX12_at 2 = .ok (.getfield 278, 3) := by decide +kernel
theorem dX12_at_5 : decode cX12_at 5 = .ok (.if_icmp .ge 12, 3) := by decide +kernel
theorem dX12_at_8 : decode cX12_at 8 = .ok (.aload_n 0, 1) := by decide +kernel
theorem dX12_at_9 : decode cX12_at 9 = .ok (.getfield 13, 3) := by decide +kernel
theorem dX12_at_12 : decode cX12_at 12 = .ok (.iload_n 1, 1) := by decide +kernel
theorem dX12_at_13 : decode cX12_at 13 = .ok (.iaload, 1) := by decide +kernel
theorem dX12_at_14 : decode cX12_at 14 = .ok (.goto 4, 3) := by decide +kernel
theorem dX12_at_17 : decode cX12_at 17 = .ok (.iconst (-1), 1) := by decide +kernel
theorem dX12_at_18 : decode cX12_at 18 = .ok (.ireturn, 1) := by decide +kernel
theorem dX12_isLetter_0 : decode cX12_isLetter 0 = .ok (.iload_n 0, 1) := by decide +kernel
theorem dX12_isLetter_1 : decode cX12_isLetter 1 = .ok (.i2l, 1) := by decide +kernel
theorem dX12_isLetter_2 : decode cX12_isLetter 2 = .ok (.ldc2_w 281, 3) := by decide +kernel
theorem dX12_isLetter_5 : decode cX12_isLetter 5 = .ok (.ldc2_w 283, 3) := by decide +kernel
theorem dX12_isLetter_8 : decode cX12_isLetter 8 = .ok (.invokestatic 274, 3) := by decide +kernel
theorem dX12_isLetter_11 : decode cX12_isLetter 11 = .ok (.ireturn, 1) := by decide +kernel
theorem dX12_isDigit_0 : decode cX12_isDigit 0 = .ok (.iload_n 0, 1) := by decide +kernel
theorem dX12_isDigit_1 : decode cX12_isDigit 1 = .ok (.i2l, 1) := by decide +kernel
theorem dX12_isDigit_2 : decode cX12_isDigit 2 = .ok (.ldc2_w 285, 3) := by decide +kernel
theorem dX12_isDigit_5 : decode cX12_isDigit 5 = .ok (.ldc2_w 287, 3) := by decide +kernel
theorem dX12_isDigit_8 : decode cX12_isDigit 8 = .ok (.invokestatic 274, 3) := by decide +kernel
theorem dX12_isDigit_11 : decode cX12_isDigit 11 = .ok (.ireturn, 1) := by decide +kernel
theorem dX12_isFine_0 : decode cX12_isFine 0 = .ok (.aload_n 0, 1) := by decide +kernel
theorem dX12_isFine_1 : decode cX12_isFine 1 = .ok (.getfield 289, 3) := by decide +kernel
theorem dX12_isFine_4 : decode cX12_isFine 4 = .ok (.ifCond .ne 7, 3) := by decide +kernel
theorem dX12_isFine_7 : decode cX12_isFine 7 = .ok (.iconst 1, 1) := by decide +kernel
theorem dX12_isFine_8 : decode cX12_isFine 8 = .ok (.goto 4, 3) := by decide +kernel
theorem dX12_isFine_11 : decode cX12_isFine 11 = .ok (.iconst 0, 1) := by decide +kernel
theorem dX12_isFine_12 : decode cX12_isFine 12 = .ok (.ireturn, 1) := by decide +kernel
theorem dX12_failsAt_0 : decode cX12_failsAt 0 = .ok (.aload_n 0, 1) := by decide +kernel
theorem dX12_failsAt_1 : decode cX12_failsAt 1 = .ok (.getfield 289, 3) := by decide +kernel
theorem dX12_failsAt_4 : decode cX12_failsAt 4 = .ok (.ifCond .ne 13, 3) := by decide +kernel
theorem dX12_failsAt_7 : decode cX12_failsAt 7 = .ok (.aload_n 0, 1) := by decide +kernel
theorem dX12_failsAt_8 : decode cX12_failsAt 8 = .ok (.iload_n 1, 1) := by decide +kernel
theorem dX12_failsAt_9 : decode cX12_failsAt 9 = .ok (.putfield 289, 3) := by decide +kernel
theorem dX12_failsAt_12 : decode cX12_failsAt 12 = .ok (.aload_n 0, 1) := by decide +kernel
theorem dX12_failsAt_13 : decode cX12_failsAt 13 = .ok (.iload_n 2, 1) := by decide +kernel
theorem dX12_failsAt_14 : decode cX12_failsAt 14 = .ok (.putfield 16, 3) := by decide +kernel
theorem dX12_failsAt_17 : decode cX12_failsAt 17 = .ok (.aload_n 0, 1) := by decide +kernel
theorem dX12_failsAt_18 : decode cX12_failsAt 18 = .ok (.iconst 0, 1) := by decide +kernel
theorem dX12_failsAt_19 : decode cX12_failsAt 19 = .ok (.putfield 292, 3) := by decide +kernel
theorem dX12_failsAt_22 : decode cX12_failsAt 22 = .ok (.return_, 1) := by decide +kernel
theorem dX12_fails_0 : decode cX12_fails 0 = .ok (.aload_n 0, 1) := by decide +kernel
theorem dX12_fails_1 : decode cX12_fails 1 = .ok (.iload_n 1, 1) := by decide +kernel
theorem dX12_fails_2 : decode cX12_fails 2 = .ok (.aload_n 0, 1) := by decide +kernel
theorem dX12_fails_3 : decode cX12_fails 3 = .ok (.getfield 295, 3) := by decide +kernel
theorem dX12_fails_6 : decode cX12_fails 6 = .ok (.invokevirtual 298, 3) := by decide +kernel
theorem dX12_fails_9 : decode cX12_fails 9 = .ok (.return_, 1) := by decide +kernel
theorem dX12_digitOf_0 : decode cX12_digitOf 0 = .ok (.iload_n 0, 1) := by decide +kernel
theorem dX12_digitOf_1 : decode cX12_digitOf 1 = .ok (.invokestatic 302, 3) := by decide +kernel
theorem dX12_digitOf_4 : decode cX12_digitOf 4 = .ok (.ifCond .eq 12, 3) := by decide +kernel
theorem dX12_digitOf_7 : decode cX12_digitOf 7 = .ok (.iload_n 0, 1) := by decide +kernel
theorem dX12_digitOf_8 : decode cX12_digitOf 8 = .ok (.bipush 97, 2) := by decide +kernel
theorem dX12_digitOf_10 : decode cX12_digitOf 10 = .ok (.isub, 1) := by decide +kernel
theorem dX12_digitOf_11 : decode cX12_digitOf 11 = .ok (.iconst 1, 1) := by decide +kernel
theorem dX12_digitOf_12 : decode cX12_digitOf 12 = .ok (.iadd, 1) := by decide +kernel
theorem dX12_digitOf_13 : decode cX12_digitOf 13 = .ok (.goto 10, 3) := by decide +kernel
theorem dX12_digitOf_16 : decode cX12_digitOf 16 = .ok (.iload_n 0, 1) := by decide +kernel
theorem dX12_digitOf_17 : decode cX12_digitOf 17 = .ok (.bipush 48, 2) := by decide +kernel
theorem dX12_digitOf_19 : decode cX12_digitOf 19 = .ok (.isub, 1) := by decide +kernel
theorem dX12_digitOf_20 : decode cX12_digitOf 20 = .ok (.bipush 27, 2) := by decide +kernel
theorem dX12_digitOf_22 : decode cX12_digitOf 22 = .ok (.iadd, 1) := by decide +kernel
theorem dX12_digitOf_23 : decode cX12_digitOf 23 = .ok (.ireturn, 1) := by decide +kernel
theorem dX12_codeOf_0 : decode cX12_codeOf 0 = .ok (.lconst 0, 1) := by decide +kernel
theorem dX12_codeOf_1 : decode cX12_codeOf 1 = .ok (.lstore_n 3, 1) := by decide +kernel
theorem dX12_codeOf_2 : decode cX12_codeOf 2 = .ok (.iload_n 1, 1) := by decide +kernel
theorem dX12_codeOf_3 : decode cX12_codeOf 3 = .ok (.istore 5, 2) := by decide +kernel
theorem dX12_codeOf_5 : decode cX12_codeOf 5 = .ok (.iload 5, 2) := by decide +kernel
theorem dX12_codeOf_7 : decode cX12_codeOf 7 = .ok (.iload_n 2, 1) := by decide +kernel
theorem dX12_codeOf_8 : decode cX12_codeOf 8 = .ok (.if_icmp .ge 26, 3) := by decide +kernel
theorem dX12_codeOf_11 : decode cX12_codeOf 11 = .ok (.ldc2_w 306, 3) := by decide +kernel
theorem dX12_codeOf_14 : decode cX12_codeOf 14 = .ok (.lload_n 3, 1) := by decide +kernel
theorem dX12_codeOf_15 : decode cX12_codeOf 15 = .ok (.lmul, 1) := by decide +kernel
theorem dX12_codeOf_16 : decode cX12_codeOf 16 = .ok (.aload_n 0, 1) := by decide +kernel
theorem dX12_codeOf_17 : decode cX12_codeOf 17 = .ok (.iload 5, 2) := by decide +kernel
theorem dX12_codeOf_19 : decode cX12_codeOf 19 = .ok (.invokevirtual 308, 3) := by decide +kernel
theorem dX12_codeOf_22 : decode cX12_codeOf 22 = .ok (.invokestatic 314, 3) := by decide +kernel
theorem dX12_codeOf_25 : decode cX12_codeOf 25 = .ok (.i2l, 1) := by decide +kernel
theorem dX12_codeOf_26 : decode cX12_codeOf 26 = .ok (.ladd, 1) := by decide +kernel
theorem dX12_codeOf_27 : decode cX12_codeOf 27 = .ok (.lstore_n 3, 1) := by decide +kernel
theorem dX12_codeOf_28 : decode cX12_codeOf 28 = .ok (.iinc 5 1, 3) := by decide +kernel
theorem dX12_codeOf_31 : decode cX12_codeOf 31 = .ok (.goto (-26), 3) := by decide +kernel
theorem dX12_codeOf_34 : decode cX12_codeOf 34 = .ok (.lload_n 3, 1) := by decide +kernel
theorem dX12_codeOf_35 : decode cX12_codeOf 35 = .ok (.lreturn, 1) := by decide +kernel
theorem dX12_keywordOf_0 : decode cX12_keywordOf 0 = .ok (.iconst 0, 1) := by decide +kernel
theorem dX12_keywordOf_1 : decode cX12_keywordOf 1 = .ok (.istore_n 2, 1) := by decide +kernel
theorem dX12_keywordOf_2 : decode cX12_keywordOf 2 = .ok (.iconst 0, 1) := by decide +kernel
theorem dX12_keywordOf_3 : decode cX12_keywordOf 3 = .ok (.istore_n 3, 1) := by decide +kernel
theorem dX12_keywordOf_4 : decode cX12_keywordOf 4 = .ok (.iload_n 3, 1) := by decide +kernel
theorem dX12_keywordOf_5 : decode cX12_keywordOf 5 = .ok (.ldc_w 318, 3) := by decide +kernel
theorem dX12_keywordOf_8 : decode cX12_keywordOf 8 = .ok (.invokevirtual 320, 3) := by decide +kernel
theorem dX12_keywordOf_11 : decode cX12_keywordOf 11 = .ok (.if_icmp .ge 41, 3) := by decide +kernel
theorem dX12_keywordOf_14 : decode cX12_keywordOf 14 = .ok (.ldc_w 318, 3) := by decide +kernel
theorem dX12_keywordOf_17 : decode cX12_keywordOf 17 = .ok (.bipush 32, 2) := by decide +kernel
theorem dX12_keywordOf_19 : decode cX12_keywordOf 19 = .ok (.iload_n 3, 1) := by decide +kernel
theorem dX12_keywordOf_20 : decode cX12_keywordOf 20 = .ok (.invokevirtual 324, 3) := by decide +kernel
theorem dX12_keywordOf_23 : decode cX12_keywordOf 23 = .ok (.istore 4, 2) := by decide +kernel
theorem dX12_keywordOf_25 : decode cX12_keywordOf 25 = .ok (.ldc_w 318, 3) := by decide +kernel
theorem dX12_keywordOf_28 : decode cX12_keywordOf 28 = .ok (.iload_n 3, 1) := by decide +kernel
theorem dX12_keywordOf_29 : decode cX12_keywordOf 29 = .ok (.iload 4, 2) := by decide +kernel
theorem dX12_keywordOf_31 : decode cX12_keywordOf 31 = .ok (.invokestatic 328, 3) := by decide +kernel
theorem dX12_keywordOf_34 : decode cX12_keywordOf 34 = .ok (.lload_n 0, 1) := by decide +kernel
theorem dX12_keywordOf_35 : decode cX12_keywordOf 35 = .ok (.lcmp, 1) := by decide +kernel
theorem dX12_keywordOf_36 : decode cX12_keywordOf 36 = .ok (.ifCond .ne 5, 3) := by decide +kernel
theorem dX12_keywordOf_39 : decode cX12_keywordOf 39 = .ok (.iload_n 2, 1) := by decide +kernel
theorem dX12_keywordOf_40 : decode cX12_keywordOf 40 = .ok (.ireturn, 1) := by decide +kernel
theorem dX12_keywordOf_41 : decode cX12_keywordOf 41 = .ok (.iload 4, 2) := by decide +kernel
theorem dX12_keywordOf_43 : decode cX12_keywordOf 43 = .ok (.iconst 1, 1) := by decide +kernel
theorem dX12_keywordOf_44 : decode cX12_keywordOf 44 = .ok (.iadd, 1) := by decide +kernel
theorem dX12_keywordOf_45 : decode cX12_keywordOf 45 = .ok (.istore_n 3, 1) := by decide +kernel
theorem dX12_keywordOf_46 : decode cX12_keywordOf 46 = .ok (.iinc 2 1, 3) := by decide +kernel
theorem dX12_keywordOf_49 : decode cX12_keywordOf 49 = .ok (.goto (-45), 3) := by decide +kernel
theorem dX12_keywordOf_52 : decode cX12_keywordOf 52 = .ok (.iconst (-1), 1) := by decide +kernel
theorem dX12_keywordOf_53 : decode cX12_keywordOf 53 = .ok (.ireturn, 1) := by decide +kernel
theorem dX12_next_0 : decode cX12_next 0 = .ok (.aload_n 0, 1) := by decide +kernel
theorem dX12_next_1 : decode cX12_next 1 = .ok (.invokevirtual 332, 3) := by decide +kernel
theorem dX12_next_4 : decode cX12_next 4 = .ok (.ifCond .ne 4, 3) := by decide +kernel
theorem dX12_next_7 : decode cX12_next 7 = .ok (.return_, 1) := by decide +kernel
theorem dX12_next_8 : decode cX12_next 8 = .ok (.iconst 1, 1) := by decide +kernel
theorem dX12_next_9 : decode cX12_next 9 = .ok (.istore_n 1, 1) := by decide +kernel
theorem dX12_next_10 : decode cX12_next 10 = .ok (.iload_n 1, 1) := by decide +kernel
theorem dX12_next_11 : decode cX12_next 11 = .ok (.ifCond .eq 107, 3) := by decide +kernel
theorem dX12_next_14 : decode cX12_next 14 = .ok (.aload_n 0, 1) := by decide +kernel
theorem dX12_next_15 : decode cX12_next 15 = .ok (.aload_n 0, 1) := by decide +kernel
theorem dX12_next_16 : decode cX12_next 16 = .ok (.getfield 336, 3) := by decide +kernel
theorem dX12_next_19 : decode cX12_next 19 = .ok (.invokevirtual 339, 3) := by decide +kernel
theorem dX12_next_22 : decode cX12_next 22 = .ok (.bipush 32, 2) := by decide +kernel
theorem dX12_next_24 : decode cX12_next 24 = .ok (.if_icmp .eq 16, 3) := by decide +kernel
theorem dX12_next_27 : decode cX12_next 27 = .ok (.aload_n 0, 1) := by decide +kernel
theorem dX12_next_28 : decode cX12_next 28 = .ok (.aload_n 0, 1) := by decide +kernel
theorem dX12_next_29 : decode cX12_next 29 = .ok (.getfield 336, 3) := by decide +kernel
theorem dX12_next_32 : decode cX12_next 32 = .ok (.invokevirtual 339, 3) := by decide +kernel
theorem dX12_next_35 : decode cX12_next 35 = .ok (.bipush 10, 2) := by decide +kernel
theorem dX12_next_37 : decode cX12_next 37 = .ok (.if_icmp .ne 7, 3) := by decide +kernel
theorem dX12_next_40 : decode cX12_next 40 = .ok (.iconst 1, 1) := by decide +kernel
theorem dX12_next_41 : decode cX12_next 41 = .ok (.goto 4, 3) := by decide +kernel
theorem dX12_next_44 : decode cX12_next 44 = .ok (.iconst 0, 1) := by decide +kernel
theorem dX12_next_45 : decode cX12_next 45 = .ok (.istore_n 1, 1) := by decide +kernel
theorem dX12_next_46 : decode cX12_next 46 = .ok (.aload_n 0, 1) := by decide +kernel
theorem dX12_next_47 : decode cX12_next 47 = .ok (.aload_n 0, 1) := by decide +kernel
theorem dX12_next_48 : decode cX12_next 48 = .ok (.getfield 336, 3) := by decide +kernel
theorem dX12_next_51 : decode cX12_next 51 = .ok (.invokevirtual 339, 3) := by decide +kernel
theorem dX12_next_54 : decode cX12_next 54 = .ok (.bipush 35, 2) := by decide +kernel
theorem dX12_next_56 : decode cX12_next 56 = .ok (.if_icmp .ne 45, 3) := by decide +kernel
theorem dX12_next_59 : decode cX12_next 59 = .ok (.aload_n 0, 1) := by decide +kernel
theorem dX12_next_60 : decode cX12_next 60 = .ok (.getfield 336, 3) := by decide +kernel
theorem dX12_next_63 : decode cX12_next 63 = .ok (.aload_n 0, 1) := by decide +kernel
theorem dX12_next_64 : decode cX12_next 64 = .ok (.getfield 278, 3) := by decide +kernel
theorem dX12_next_67 : decode cX12_next 67 = .ok (.if_icmp .ge 29, 3) := by decide +kernel
theorem dX12_next_70 : decode cX12_next 70 = .ok (.aload_n 0, 1) := by decide +kernel
theorem dX12_next_71 : decode cX12_next 71 = .ok (.aload_n 0, 1) := by decide +kernel
theorem dX12_next_72 : decode cX12_next 72 = .ok (.getfield 336, 3) := by decide +kernel
theorem dX12_next_75 : decode cX12_next 75 = .ok (.invokevirtual 339, 3) := by decide +kernel
theorem dX12_next_78 : decode cX12_next 78 = .ok (.bipush 10, 2) := by decide +kernel
theorem dX12_next_80 : decode cX12_next 80 = .ok (.if_icmp .eq 16, 3) := by decide +kernel
theorem dX12_next_83 : decode cX12_next 83 = .ok (.aload_n 0, 1) := by decide +kernel
theorem dX12_next_84 : decode cX12_next 84 = .ok (.dup, 1) := by decide +kernel
theorem dX12_next_85 : decode cX12_next 85 = .ok (.getfield 336, 3) := by decide +kernel
theorem dX12_next_88 : decode cX12_next 88 = .ok (.iconst 1, 1) := by decide +kernel
theorem dX12_next_89 : decode cX12_next 89 = .ok (.iadd, 1) := by decide +kernel
theorem dX12_next_90 : decode cX12_next 90 = .ok (.putfield 336, 3) := by decide +kernel
theorem dX12_next_93 : decode cX12_next 93 = .ok (.goto (-34), 3) := by decide +kernel
theorem dX12_next_96 : decode cX12_next 96 = .ok (.iconst 1, 1) := by decide +kernel
theorem dX12_next_97 : decode cX12_next 97 = .ok (.istore_n 1, 1) := by decide +kernel
theorem dX12_next_98 : decode cX12_next 98 = .ok (.goto (-88), 3) := by decide +kernel
theorem dX12_next_101 : decode cX12_next 101 = .ok (.iload_n 1, 1) := by decide +kernel
theorem dX12_next_102 : decode cX12_next 102 = .ok (.ifCond .eq (-92), 3) := by decide +kernel
theorem dX12_next_105 : decode cX12_next 105 = .ok (.aload_n 0, 1) := by decide +kernel
theorem dX12_next_106 : decode cX12_next 106 = .ok (.dup, 1) := by decide +kernel
theorem dX12_next_107 : decode cX12_next 107 = .ok (.getfield 336, 3) := by decide +kernel
theorem dX12_next_110 : decode cX12_next 110 = .ok (.iconst 1, 1) := by decide +kernel
theorem dX12_next_111 : decode cX12_next 111 = .ok (.iadd, 1) := by decide +kernel
theorem dX12_next_112 : decode cX12_next 112 = .ok (.putfield 336, 3) := by decide +kernel
theorem dX12_next_115 : decode cX12_next 115 = .ok (.goto (-105), 3) := by decide +kernel
theorem dX12_next_118 : decode cX12_next 118 = .ok (.aload_n 0, 1) := by decide +kernel
theorem dX12_next_119 : decode cX12_next 119 = .ok (.aload_n 0, 1) := by decide +kernel
theorem dX12_next_120 : decode cX12_next 120 = .ok (.getfield 336, 3) := by decide +kernel
theorem dX12_next_123 : decode cX12_next 123 = .ok (.putfield 295, 3) := by decide +kernel
theorem dX12_next_126 : decode cX12_next 126 = .ok (.aload_n 0, 1) := by decide +kernel
theorem dX12_next_127 : decode cX12_next 127 = .ok (.aload_n 0, 1) := by decide +kernel
theorem dX12_next_128 : decode cX12_next 128 = .ok (.getfield 336, 3) := by decide +kernel
theorem dX12_next_131 : decode cX12_next 131 = .ok (.invokevirtual 339, 3) := by decide +kernel
theorem dX12_next_134 : decode cX12_next 134 = .ok (.istore_n 2, 1) := by decide +kernel
theorem dX12_next_135 : decode cX12_next 135 = .ok (.iload_n 2, 1) := by decide +kernel
theorem dX12_next_136 : decode cX12_next 136 = .ok (.iconst (-1), 1) := by decide +kernel
theorem dX12_next_137 : decode cX12_next 137 = .ok (.if_icmp .ne 11, 3) := by decide +kernel
theorem dX12_next_140 : decode cX12_next 140 = .ok (.aload_n 0, 1) := by decide +kernel
theorem dX12_next_141 : decode cX12_next 141 = .ok (.iconst 0, 1) := by decide +kernel
theorem dX12_next_142 : decode cX12_next 142 = .ok (.putfield 292, 3) := by decide +kernel
theorem dX12_next_145 : decode cX12_next 145 = .ok (.goto 49, 3) := by decide +kernel
theorem dX12_next_148 : decode cX12_next 148 = .ok (.iload_n 2, 1) := by decide +kernel
theorem dX12_next_149 : decode cX12_next 149 = .ok (.invokestatic 302, 3) := by decide +kernel
theorem dX12_next_152 : decode cX12_next 152 = .ok (.ifCond .eq 10, 3) := by decide +kernel
theorem dX12_next_155 : decode cX12_next 155 = .ok (.aload_n 0, 1) := by decide +kernel
theorem dX12_next_156 : decode cX12_next 156 = .ok (.invokevirtual 342, 3) := by decide +kernel
theorem dX12_next_159 : decode cX12_next 159 = .ok (.goto 35, 3) := by decide +kernel
theorem dX12_next_162 : decode cX12_next 162 = .ok (.iload_n 2, 1) := by decide +kernel
theorem dX12_next_163 : decode cX12_next 163 = .ok (.invokestatic 345, 3) := by decide +kernel
theorem dX12_next_166 : decode cX12_next 166 = .ok (.ifCond .eq 10, 3) := by decide +kernel
theorem dX12_next_169 : decode cX12_next 169 = .ok (.aload_n 0, 1) := by decide +kernel
theorem dX12_next_170 : decode cX12_next 170 = .ok (.invokevirtual 348, 3) := by decide +kernel
theorem dX12_next_173 : decode cX12_next 173 = .ok (.goto 21, 3) := by decide +kernel
theorem dX12_next_176 : decode cX12_next 176 = .ok (.iload_n 2, 1) := by decide +kernel
theorem dX12_next_177 : decode cX12_next 177 = .ok (.bipush 47, 2) := by decide +kernel
theorem dX12_next_179 : decode cX12_next 179 = .ok (.if_icmp .ne 10, 3) := by decide +kernel
theorem dX12_next_182 : decode cX12_next 182 = .ok (.aload_n 0, 1) := by decide +kernel
theorem dX12_next_183 : decode cX12_next 183 = .ok (.invokevirtual 351, 3) := by decide +kernel
theorem dX12_next_186 : decode cX12_next 186 = .ok (.goto 8, 3) := by decide +kernel
theorem dX12_next_189 : decode cX12_next 189 = .ok (.aload_n 0, 1) := by decide +kernel
theorem dX12_next_190 : decode cX12_next 190 = .ok (.iload_n 2, 1) := by decide +kernel
theorem dX12_next_191 : decode cX12_next 191 = .ok (.invokevirtual 354, 3) := by decide +kernel
theorem dX12_next_194 : decode cX12_next 194 = .ok (.return_, 1) := by decide +kernel
theorem dX12_nextName_0 : decode cX12_nextName 0 = .ok (.aload_n 0, 1) := by decide +kernel
theorem dX12_nextName_1 : decode cX12_nextName 1 = .ok (.lconst 0, 1) := by decide +kernel
theorem dX12_nextName_2 : decode cX12_nextName 2 = .ok (.putfield 358, 3) := by decide +kernel
theorem dX12_nextName_5 : decode cX12_nextName 5 = .ok (.aload_n 0, 1) := by decide +kernel
theorem dX12_nextName_6 : decode cX12_nextName 6 = .ok (.aload_n 0, 1) := by decide +kernel
theorem dX12_nextName_7 : decode cX12_nextName 7 = .ok (.getfield 336, 3) := by decide +kernel
theorem dX12_nextName_10 : decode cX12_nextName 10 = .ok (.invokevirtual 339, 3) := by decide +kernel
theorem dX12_nextName_13 : decode cX12_nextName 13 = .ok (.invokestatic 302, 3) := by decide +kernel
theorem dX12_nextName_16 : decode cX12_nextName 16 = .ok (.ifCond .ne 17, 3) := by decide +kernel
theorem dX12_nextName_19 : decode cX12_nextName 19 = .ok (.aload_n 0, 1) := by decide +kernel
theorem dX12_nextName_20 : decode cX12_nextName 20 = .ok (.aload_n 0, 1) := by decide +kernel
theorem dX12_nextName_21 : decode cX12_nextName 21 = .ok (.getfield 336, 3) := by decide +kernel
theorem dX12_nextName_24 : decode cX12_nextName 24 = .ok (.invokevirtual 339, 3) := by decide +kernel
theorem dX12_nextName_27 : decode cX12_nextName 27 = .ok (.invokestatic 345, 3) := by decide +kernel
theorem dX12_nextName_30 : decode cX12_nextName 30 = .ok (.ifCond .eq 62, 3) := by decide +kernel
theorem dX12_nextName_33 : decode cX12_nextName 33 = .ok (.aload_n 0, 1) := by decide +kernel
theorem dX12_nextName_34 : decode cX12_nextName 34 = .ok (.aload_n 0, 1) := by decide +kernel
theorem dX12_nextName_35 : decode cX12_nextName 35 = .ok (.getfield 336, 3) := by decide +kernel
theorem dX12_nextName_38 : decode cX12_nextName 38 = .ok (.aload_n 0, 1) := by decide +kernel
theorem dX12_nextName_39 : decode cX12_nextName 39 = .ok (.getfield 295, 3) := by decide +kernel
theorem dX12_nextName_42 : decode cX12_nextName 42 = .ok (.isub, 1) := by decide +kernel
theorem dX12_nextName_43 : decode cX12_nextName 43 = .ok (.bipush 8, 2) := by decide +kernel
theorem dX12_nextName_45 : decode cX12_nextName 45 = .ok (.if_icmp .ge 27, 3) := by decide +kernel
theorem dX12_nextName_48 : decode cX12_nextName 48 = .ok (.ldc2_w 306, 3) := by decide +kernel
theorem dX12_nextName_51 : decode cX12_nextName 51 = .ok (.aload_n 0, 1) := by decide +kernel
theorem dX12_nextName_52 : decode cX12_nextName 52 = .ok (.getfield 358, 3) := by decide +kernel
theorem dX12_nextName_55 : decode cX12_nextName 55 = .ok (.lmul, 1) := by decide +kernel
theorem dX12_nextName_56 : decode cX12_nextName 56 = .ok (.aload_n 0, 1) := by decide +kernel
theorem dX12_nextName_57 : decode cX12_nextName 57 = .ok (.aload_n 0, 1) := by decide +kernel
theorem dX12_nextName_58 : decode cX12_nextName 58 = .ok (.getfield 336, 3) := by decide +kernel
theorem dX12_nextName_61 : decode cX12_nextName 61 = .ok (.invokevirtual 339, 3) := by decide +kernel
theorem dX12_nextName_64 : decode cX12_nextName 64 = .ok (.invokestatic 314, 3) := by decide +kernel
theorem dX12_nextName_67 : decode cX12_nextName 67 = .ok (.i2l, 1) := by decide +kernel
theorem dX12_nextName_68 : decode cX12_nextName 68 = .ok (.ladd, 1) := by decide +kernel
theorem dX12_nextName_69 : decode cX12_nextName 69 = .ok (.goto 7, 3) := by decide +kernel
theorem dX12_nextName_72 : decode cX12_nextName 72 = .ok (.aload_n 0, 1) := by decide +kernel
theorem dX12_nextName_73 : decode cX12_nextName 73 = .ok (.getfield 358, 3) := by decide +kernel
theorem dX12_nextName_76 : decode cX12_nextName 76 = .ok (.putfield 358, 3) := by decide +kernel
theorem dX12_nextName_79 : decode cX12_nextName 79 = .ok (.aload_n 0, 1) := by decide +kernel
theorem dX12_nextName_80 : decode cX12_nextName 80 = .ok (.dup, 1) := by decide +kernel
theorem dX12_nextName_81 : decode cX12_nextName 81 = .ok (.getfield 336, 3) := by decide +kernel
theorem dX12_nextName_84 : decode cX12_nextName 84 = .ok (.iconst 1, 1) := by decide +kernel
theorem dX12_nextName_85 : decode cX12_nextName 85 = .ok (.iadd, 1) := by decide +kernel
theorem dX12_nextName_86 : decode cX12_nextName 86 = .ok (.putfield 336, 3) := by decide +kernel
theorem dX12_nextName_89 : decode cX12_nextName 89 = .ok (.goto (-84), 3) := by decide +kernel
theorem dX12_nextName_92 : decode cX12_nextName 92 = .ok (.aload_n 0, 1) := by decide +kernel
theorem dX12_nextName_93 : decode cX12_nextName 93 = .ok (.getfield 336, 3) := by decide +kernel
theorem dX12_nextName_96 : decode cX12_nextName 96 = .ok (.aload_n 0, 1) := by decide +kernel
theorem dX12_nextName_97 : decode cX12_nextName 97 = .ok (.getfield 295, 3) := by decide +kernel
theorem dX12_nextName_100 : decode cX12_nextName 100 = .ok (.isub, 1) := by decide +kernel
theorem dX12_nextName_101 : decode cX12_nextName 101 = .ok (.bipush 8, 2) := by decide +kernel
theorem dX12_nextName_103 : decode cX12_nextName 103 = .ok (.if_icmp .le 9, 3) := by decide +kernel
theorem dX12_nextName_106 : decode cX12_nextName 106 = .ok (.aload_n 0, 1) := by decide +kernel
theorem dX12_nextName_107 : decode cX12_nextName 107 = .ok (.iconst 1, 1) := by decide +kernel
theorem dX12_nextName_108 : decode cX12_nextName 108 = .ok (.invokevirtual 362, 3) := by decide +kernel
theorem dX12_nextName_111 : decode cX12_nextName 111 = .ok (.return_, 1) := by decide +kernel
theorem dX12_nextName_112 : decode cX12_nextName 112 = .ok (.aload_n 0, 1) := by decide +kernel
theorem dX12_nextName_113 : decode cX12_nextName 113 = .ok (.aload_n 0, 1) := by decide +kernel
theorem dX12_nextName_114 : decode cX12_nextName 114 = .ok (.getfield 358, 3) := by decide +kernel
theorem dX12_nextName_117 : decode cX12_nextName 117 = .ok (.invokestatic 365, 3) := by decide +kernel
theorem dX12_nextName_120 : decode cX12_nextName 120 = .ok (.putfield 369, 3) := by decide +kernel
theorem dX12_nextName_123 : decode cX12_nextName 123 = .ok (.aload_n 0, 1) := by decide +kernel
theorem dX12_nextName_124 : decode cX12_nextName 124 = .ok (.aload_n 0, 1) := by decide +kernel
theorem dX12_nextName_125 : decode cX12_nextName 125 = .ok (.getfield 369, 3) := by decide +kernel
theorem dX12_nextName_128 : decode cX12_nextName 128 = .ok (.iconst (-1), 1) := by decide +kernel
theorem dX12_nextName_129 : decode cX12_nextName 129 = .ok (.if_icmp .ne 7, 3) := by decide +kernel
theorem dX12_nextName_132 : decode cX12_nextName 132 = .ok (.iconst 1, 1) := by decide +kernel
theorem dX12_nextName_133 : decode cX12_nextName 133 = .ok (.goto 4, 3) := by decide +kernel
theorem dX12_nextName_136 : decode cX12_nextName 136 = .ok (.iconst 2, 1) := by decide +kernel
theorem dX12_nextName_137 : decode cX12_nextName 137 = .ok (.putfield 292, 3) := by decide +kernel
theorem dX12_nextName_140 : decode cX12_nextName 140 = .ok (.return_, 1) := by decide +kernel
theorem dX12_nextNumber_0 : decode cX12_nextNumber 0 = .ok (.lconst 0, 1) := by decide +kernel
theorem dX12_nextNumber_1 : decode cX12_nextNumber 1 = .ok (.lstore_n 1, 1) := by decide +kernel
theorem dX12_nextNumber_2 : decode cX12_nextNumber 2 = .ok (.aload_n 0, 1) := by decide +kernel
theorem dX12_nextNumber_3 : decode cX12_nextNumber 3 = .ok (.aload_n 0, 1) := by decide +kernel
theorem dX12_nextNumber_4 : decode cX12_nextNumber 4 = .ok (.getfield 336, 3) := by decide +kernel
theorem dX12_nextNumber_7 : decode cX12_nextNumber 7 = .ok (.invokevirtual 339, 3) := by decide +kernel
theorem dX12_nextNumber_10 : decode cX12_nextNumber 10 = .ok (.invokestatic 345, 3) := by decide +kernel
theorem dX12_nextNumber_13 : decode cX12_nextNumber 13 = .ok (.ifCond .eq 48, 3) := by decide +kernel
theorem dX12_nextNumber_16 : decode cX12_nextNumber 16 = .ok (.lload_n 1, 1) := by decide +kernel
theorem dX12_nextNumber_17 : decode cX12_nextNumber 17 = .ok (.ldc2_w 372, 3) := by decide +kernel
theorem dX12_nextNumber_20 : decode cX12_nextNumber 20 = .ok (.lcmp, 1) := by decide +kernel
theorem dX12_nextNumber_21 : decode cX12_nextNumber 21 = .ok (.ifCond .le 7, 3) := by decide +kernel
theorem dX12_nextNumber_24 : decode cX12_nextNumber 24 = .ok (.lload_n 1, 1) := by decide +kernel
theorem dX12_nextNumber_25 : decode cX12_nextNumber 25 = .ok (.goto 22, 3) := by decide +kernel
theorem dX12_nextNumber_28 : decode cX12_nextNumber 28 = .ok (.ldc2_w 374, 3) := by decide +kernel
theorem dX12_nextNumber_31 : decode cX12_nextNumber 31 = .ok (.lload_n 1, 1) := by decide +kernel
theorem dX12_nextNumber_32 : decode cX12_nextNumber 32 = .ok (.lmul, 1) := by decide +kernel
theorem dX12_nextNumber_33 : decode cX12_nextNumber 33 = .ok (.aload_n 0, 1) := by decide +kernel
theorem dX12_nextNumber_34 : decode cX12_nextNumber 34 = .ok (.aload_n 0, 1) := by decide +kernel
theorem dX12_nextNumber_35 : decode cX12_nextNumber 35 = .ok (.getfield 336, 3) := by decide +kernel
theorem dX12_nextNumber_38 : decode cX12_nextNumber 38 = .ok (.invokevirtual 339, 3) := by decide +kernel
theorem dX12_nextNumber_41 : decode cX12_nextNumber 41 = .ok (.i2l, 1) := by decide +kernel
theorem dX12_nextNumber_42 : decode cX12_nextNumber 42 = .ok (.ladd, 1) := by decide +kernel
theorem dX12_nextNumber_43 : decode cX12_nextNumber 43 = .ok (.ldc2_w 285, 3) := by decide +kernel
theorem dX12_nextNumber_46 : decode cX12_nextNumber 46 = .ok (.lsub, 1) := by decide +kernel
theorem dX12_nextNumber_47 : decode cX12_nextNumber 47 = .ok (.lstore_n 1, 1) := by decide +kernel
theorem dX12_nextNumber_48 : decode cX12_nextNumber 48 = .ok (.aload_n 0, 1) := by decide +kernel
theorem dX12_nextNumber_49 : decode cX12_nextNumber 49 = .ok (.dup, 1) := by decide +kernel
theorem dX12_nextNumber_50 : decode cX12_nextNumber 50 = .ok (.getfield 336, 3) := by decide +kernel
theorem dX12_nextNumber_53 : decode cX12_nextNumber 53 = .ok (.iconst 1, 1) := by decide +kernel
theorem dX12_nextNumber_54 : decode cX12_nextNumber 54 = .ok (.iadd, 1) := by decide +kernel
theorem dX12_nextNumber_55 : decode cX12_nextNumber 55 = .ok (.putfield 336, 3) := by decide +kernel
theorem dX12_nextNumber_58 : decode cX12_nextNumber 58 = .ok (.goto (-56), 3) := by decide +kernel
theorem dX12_nextNumber_61 : decode cX12_nextNumber 61 = .ok (.lload_n 1, 1) := by decide +kernel
theorem dX12_nextNumber_62 : decode cX12_nextNumber 62 = .ok (.ldc2_w 372, 3) := by decide +kernel
theorem dX12_nextNumber_65 : decode cX12_nextNumber 65 = .ok (.lcmp, 1) := by decide +kernel
theorem dX12_nextNumber_66 : decode cX12_nextNumber 66 = .ok (.ifCond .le 9, 3) := by decide +kernel
theorem dX12_nextNumber_69 : decode cX12_nextNumber 69 = .ok (.aload_n 0, 1) := by decide +kernel
theorem dX12_nextNumber_70 : decode cX12_nextNumber 70 = .ok (.iconst 1, 1) := by decide +kernel
theorem dX12_nextNumber_71 : decode cX12_nextNumber 71 = .ok (.invokevirtual 362, 3) := by decide +kernel
theorem dX12_nextNumber_74 : decode cX12_nextNumber 74 = .ok (.return_, 1) := by decide +kernel
theorem dX12_nextNumber_75 : decode cX12_nextNumber 75 = .ok (.aload_n 0, 1) := by decide +kernel
theorem dX12_nextNumber_76 : decode cX12_nextNumber 76 = .ok (.lload_n 1, 1) := by decide +kernel
theorem dX12_nextNumber_77 : decode cX12_nextNumber 77 = .ok (.l2i, 1) := by decide +kernel
theorem dX12_nextNumber_78 : decode cX12_nextNumber 78 = .ok (.putfield 369, 3) := by decide +kernel
theorem dX12_nextNumber_81 : decode cX12_nextNumber 81 = .ok (.aload_n 0, 1) := by decide +kernel
theorem dX12_nextNumber_82 : decode cX12_nextNumber 82 = .ok (.iconst 3, 1) := by decide +kernel
theorem dX12_nextNumber_83 : decode cX12_nextNumber 83 = .ok (.putfield 292, 3) := by decide +kernel
theorem dX12_nextNumber_86 : decode cX12_nextNumber 86 = .ok (.return_, 1) := by decide +kernel
theorem dX12_nextPattern_0 : decode cX12_nextPattern 0 = .ok (.aload_n 0, 1) := by decide +kernel
theorem dX12_nextPattern_1 : decode cX12_nextPattern 1 = .ok (.iconst 0, 1) := by decide +kernel
theorem dX12_nextPattern_2 : decode cX12_nextPattern 2 = .ok (.putfield 376, 3) := by decide +kernel
theorem dX12_nextPattern_5 : decode cX12_nextPattern 5 = .ok (.aload_n 0, 1) := by decide +kernel
theorem dX12_nextPattern_6 : decode cX12_nextPattern 6 = .ok (.iconst 0, 1) := by decide +kernel
theorem dX12_nextPattern_7 : decode cX12_nextPattern 7 = .ok (.putfield 379, 3) := by decide +kernel
theorem dX12_nextPattern_10 : decode cX12_nextPattern 10 = .ok (.iconst 1, 1) := by decide +kernel
theorem dX12_nextPattern_11 : decode cX12_nextPattern 11 = .ok (.istore_n 1, 1) := by decide +kernel
theorem dX12_nextPattern_12 : decode cX12_nextPattern 12 = .ok (.iconst 1, 1) := by decide +kernel
theorem dX12_nextPattern_13 : decode cX12_nextPattern 13 = .ok (.istore_n 2, 1) := by decide +kernel
theorem dX12_nextPattern_14 : decode cX12_nextPattern 14 = .ok (.iload_n 2, 1) := by decide +kernel
theorem dX12_nextPattern_15 : decode cX12_nextPattern 15 = .ok (.ifCond .eq 270, 3) := by decide +kernel
theorem dX12_nextPattern_18 : decode cX12_nextPattern 18 = .ok (.aload_n 0, 1) := by decide +kernel
theorem dX12_nextPattern_19 : decode cX12_nextPattern 19 = .ok (.aload_n 0, 1) := by decide +kernel
theorem dX12_nextPattern_20 : decode cX12_nextPattern 20 = .ok (.getfield 336, 3) := by decide +kernel
theorem dX12_nextPattern_23 : decode cX12_nextPattern 23 = .ok (.iconst 1, 1) := by decide +kernel
theorem dX12_nextPattern_24 : decode cX12_nextPattern 24 = .ok (.iadd, 1) := by decide +kernel
theorem dX12_nextPattern_25 : decode cX12_nextPattern 25 = .ok (.invokevirtual 339, 3) := by decide +kernel
theorem dX12_nextPattern_28 : decode cX12_nextPattern 28 = .ok (.istore_n 3, 1) := by decide +kernel
theorem dX12_nextPattern_29 : decode cX12_nextPattern 29 = .ok (.iload_n 3, 1) := by decide +kernel
theorem dX12_nextPattern_30 : decode cX12_nextPattern 30 = .ok (.invokestatic 302, 3) := by decide +kernel
theorem dX12_nextPattern_33 : decode cX12_nextPattern 33 = .ok (.ifCond .ne 10, 3) := by decide +kernel
theorem dX12_nextPattern_36 : decode cX12_nextPattern 36 = .ok (.iload_n 3, 1) := by decide +kernel
theorem dX12_nextPattern_37 : decode cX12_nextPattern 37 = .ok (.invokestatic 345, 3) := by decide +kernel
theorem dX12_nextPattern_40 : decode cX12_nextPattern 40 = .ok (.ifCond .eq 7, 3) := by decide +kernel
theorem dX12_nextPattern_43 : decode cX12_nextPattern 43 = .ok (.iconst 1, 1) := by decide +kernel
theorem dX12_nextPattern_44 : decode cX12_nextPattern 44 = .ok (.goto 4, 3) := by decide +kernel
theorem dX12_nextPattern_47 : decode cX12_nextPattern 47 = .ok (.iconst 0, 1) := by decide +kernel
theorem dX12_nextPattern_48 : decode cX12_nextPattern 48 = .ok (.istore 4, 2) := by decide +kernel
theorem dX12_nextPattern_50 : decode cX12_nextPattern 50 = .ok (.iload 4, 2) := by decide +kernel
theorem dX12_nextPattern_52 : decode cX12_nextPattern 52 = .ok (.ifCond .eq 169, 3) := by decide +kernel
theorem dX12_nextPattern_55 : decode cX12_nextPattern 55 = .ok (.aload_n 0, 1) := by decide +kernel
theorem dX12_nextPattern_56 : decode cX12_nextPattern 56 = .ok (.dup, 1) := by decide +kernel
theorem dX12_nextPattern_57 : decode cX12_nextPattern 57 = .ok (.getfield 336, 3) := by decide +kernel
theorem dX12_nextPattern_60 : decode cX12_nextPattern 60 = .ok (.iconst 1, 1) := by decide +kernel
theorem dX12_nextPattern_61 : decode cX12_nextPattern 61 = .ok (.iadd, 1) := by decide +kernel
theorem dX12_nextPattern_62 : decode cX12_nextPattern 62 = .ok (.putfield 336, 3) := by decide +kernel
theorem dX12_nextPattern_65 : decode cX12_nextPattern 65 = .ok (.aload_n 0, 1) := by decide +kernel
theorem dX12_nextPattern_66 : decode cX12_nextPattern 66 = .ok (.getfield 336, 3) := by decide +kernel
theorem dX12_nextPattern_69 : decode cX12_nextPattern 69 = .ok (.istore 5, 2) := by decide +kernel
theorem dX12_nextPattern_71 : decode cX12_nextPattern 71 = .ok (.lconst 0, 1) := by decide +kernel
theorem dX12_nextPattern_72 : decode cX12_nextPattern 72 = .ok (.lstore 6, 2) := by decide +kernel
theorem dX12_nextPattern_74 : decode cX12_nextPattern 74 = .ok (.aload_n 0, 1) := by decide +kernel
theorem dX12_nextPattern_75 : decode cX12_nextPattern 75 = .ok (.aload_n 0, 1) := by decide +kernel
theorem dX12_nextPattern_76 : decode cX12_nextPattern 76 = .ok (.getfield 336, 3) := by decide +kernel
theorem dX12_nextPattern_79 : decode cX12_nextPattern 79 = .ok (.invokevirtual 339, 3) := by decide +kernel
theorem dX12_nextPattern_82 : decode cX12_nextPattern 82 = .ok (.invokestatic 302, 3) := by decide +kernel
theorem dX12_nextPattern_85 : decode cX12_nextPattern 85 = .ok (.ifCond .ne 17, 3) := by decide +kernel
theorem dX12_nextPattern_88 : decode cX12_nextPattern 88 = .ok (.aload_n 0, 1) := by decide +kernel
theorem dX12_nextPattern_89 : decode cX12_nextPattern 89 = .ok (.aload_n 0, 1) := by decide +kernel
theorem dX12_nextPattern_90 : decode cX12_nextPattern 90 = .ok (.getfield 336, 3) := by decide +kernel
theorem dX12_nextPattern_93 : decode cX12_nextPattern 93 = .ok (.invokevirtual 339, 3) := by decide +kernel
theorem dX12_nextPattern_96 : decode cX12_nextPattern 96 = .ok (.invokestatic 345, 3) := by decide +kernel
theorem dX12_nextPattern_99 : decode cX12_nextPattern 99 = .ok (.ifCond .eq 54, 3) := by decide +kernel
theorem dX12_nextPattern_102 : decode cX12_nextPattern 102 = .ok (.aload_n 0, 1) := by decide +kernel
theorem dX12_nextPattern_103 : decode cX12_nextPattern 103 = .ok (.getfield 336, 3) := by decide +kernel
theorem dX12_nextPattern_106 : decode cX12_nextPattern 106 = .ok (.iload 5, 2) := by decide +kernel
theorem dX12_nextPattern_108 : decode cX12_nextPattern 108 = .ok (.isub, 1) := by decide +kernel
theorem dX12_nextPattern_109 : decode cX12_nextPattern 109 = .ok (.bipush 6, 2) := by decide +kernel
theorem dX12_nextPattern_111 : decode cX12_nextPattern 111 = .ok (.if_icmp .ge 25, 3) := by decide +kernel
theorem dX12_nextPattern_114 : decode cX12_nextPattern 114 = .ok (.ldc2_w 306, 3) := by decide +kernel
theorem dX12_nextPattern_117 : decode cX12_nextPattern 117 = .ok (.lload 6, 2) := by decide +kernel
theorem dX12_nextPattern_119 : decode cX12_nextPattern 119 = .ok (.lmul, 1) := by decide +kernel
theorem dX12_nextPattern_120 : decode cX12_nextPattern 120 = .ok (.aload_n 0, 1) := by decide +kernel
theorem dX12_nextPattern_121 : decode cX12_nextPattern 121 = .ok (.aload_n 0, 1) := by decide +kernel
theorem dX12_nextPattern_122 : decode cX12_nextPattern 122 = .ok (.getfield 336, 3) := by decide +kernel
theorem dX12_nextPattern_125 : decode cX12_nextPattern 125 = .ok (.invokevirtual 339, 3) := by decide +kernel
theorem dX12_nextPattern_128 : decode cX12_nextPattern 128 = .ok (.invokestatic 314, 3) := by decide +kernel
theorem dX12_nextPattern_131 : decode cX12_nextPattern 131 = .ok (.i2l, 1) := by decide +kernel
theorem dX12_nextPattern_132 : decode cX12_nextPattern 132 = .ok (.ladd, 1) := by decide +kernel
theorem dX12_nextPattern_133 : decode cX12_nextPattern 133 = .ok (.goto 5, 3) := by decide +kernel
theorem dX12_nextPattern_136 : decode cX12_nextPattern 136 = .ok (.lload 6, 2) := by decide +kernel
theorem dX12_nextPattern_138 : decode cX12_nextPattern 138 = .ok (.lstore 6, 2) := by decide +kernel
theorem dX12_nextPattern_140 : decode cX12_nextPattern 140 = .ok (.aload_n 0, 1) := by decide +kernel
theorem dX12_nextPattern_141 : decode cX12_nextPattern 141 = .ok (.dup, 1) := by decide +kernel
theorem dX12_nextPattern_142 : decode cX12_nextPattern 142 = .ok (.getfield 336, 3) := by decide +kernel
theorem dX12_nextPattern_145 : decode cX12_nextPattern 145 = .ok (.iconst 1, 1) := by decide +kernel
theorem dX12_nextPattern_146 : decode cX12_nextPattern 146 = .ok (.iadd, 1) := by decide +kernel
theorem dX12_nextPattern_147 : decode cX12_nextPattern 147 = .ok (.putfield 336, 3) := by decide +kernel
theorem dX12_nextPattern_150 : decode cX12_nextPattern 150 = .ok (.goto (-76), 3) := by decide +kernel
theorem dX12_nextPattern_153 : decode cX12_nextPattern 153 = .ok (.iload_n 1, 1) := by decide +kernel
theorem dX12_nextPattern_154 : decode cX12_nextPattern 154 = .ok (.ifCond .eq 30, 3) := by decide +kernel
theorem dX12_nextPattern_157 : decode cX12_nextPattern 157 = .ok (.aload_n 0, 1) := by decide +kernel
theorem dX12_nextPattern_158 : decode cX12_nextPattern 158 = .ok (.getfield 336, 3) := by decide +kernel
theorem dX12_nextPattern_161 : decode cX12_nextPattern 161 = .ok (.iload 5, 2) := by decide +kernel
theorem dX12_nextPattern_163 : decode cX12_nextPattern 163 = .ok (.isub, 1) := by decide +kernel
theorem dX12_nextPattern_164 : decode cX12_nextPattern 164 = .ok (.bipush 6, 2) := by decide +kernel
theorem dX12_nextPattern_166 : decode cX12_nextPattern 166 = .ok (.if_icmp .gt 18, 3) := by decide +kernel
theorem dX12_nextPattern_169 : decode cX12_nextPattern 169 = .ok (.aload_n 0, 1) := by decide +kernel
theorem dX12_nextPattern_170 : decode cX12_nextPattern 170 = .ok (.getfield 376, 3) := by decide +kernel
theorem dX12_nextPattern_173 : decode cX12_nextPattern 173 = .ok (.aload_n 0, 1) := by decide +kernel
theorem dX12_nextPattern_174 : decode cX12_nextPattern 174 = .ok (.getfield 382, 3) := by decide +kernel
theorem dX12_nextPattern_177 : decode cX12_nextPattern 177 = .ok (.if_icmp .ge 7, 3) := by decide +kernel
theorem dX12_nextPattern_180 : decode cX12_nextPattern 180 = .ok (.iconst 1, 1) := by decide +kernel
theorem dX12_nextPattern_181 : decode cX12_nextPattern 181 = .ok (.goto 4, 3) := by decide +kernel
theorem dX12_nextPattern_184 : decode cX12_nextPattern 184 = .ok (.iconst 0, 1) := by decide +kernel
theorem dX12_nextPattern_185 : decode cX12_nextPattern 185 = .ok (.istore_n 1, 1) := by decide +kernel
theorem dX12_nextPattern_186 : decode cX12_nextPattern 186 = .ok (.aload_n 0, 1) := by decide +kernel
theorem dX12_nextPattern_187 : decode cX12_nextPattern 187 = .ok (.getfield 376, 3) := by decide +kernel
theorem dX12_nextPattern_190 : decode cX12_nextPattern 190 = .ok (.aload_n 0, 1) := by decide +kernel
theorem dX12_nextPattern_191 : decode cX12_nextPattern 191 = .ok (.getfield 382, 3) := by decide +kernel
theorem dX12_nextPattern_194 : decode cX12_nextPattern 194 = .ok (.if_icmp .ge 14, 3) := by decide +kernel
theorem dX12_nextPattern_197 : decode cX12_nextPattern 197 = .ok (.aload_n 0, 1) := by decide +kernel
theorem dX12_nextPattern_198 : decode cX12_nextPattern 198 = .ok (.getfield 20, 3) := by decide +kernel
theorem dX12_nextPattern_201 : decode cX12_nextPattern 201 = .ok (.aload_n 0, 1) := by decide +kernel
theorem dX12_nextPattern_202 : decode cX12_nextPattern 202 = .ok (.getfield 376, 3) := by decide +kernel
theorem dX12_nextPattern_205 : decode cX12_nextPattern 205 = .ok (.lload 6, 2) := by decide +kernel
theorem dX12_nextPattern_207 : decode cX12_nextPattern 207 = .ok (.lastore, 1) := by decide +kernel
theorem dX12_nextPattern_208 : decode cX12_nextPattern 208 = .ok (.aload_n 0, 1) := by decide +kernel
theorem dX12_nextPattern_209 : decode cX12_nextPattern 209 = .ok (.dup, 1) := by decide +kernel
theorem dX12_nextPattern_210 : decode cX12_nextPattern 210 = .ok (.getfield 376, 3) := by decide +kernel
theorem dX12_nextPattern_213 : decode cX12_nextPattern 213 = .ok (.iconst 1, 1) := by decide +kernel
theorem dX12_nextPattern_214 : decode cX12_nextPattern 214 = .ok (.iadd, 1) := by decide +kernel
theorem dX12_nextPattern_215 : decode cX12_nextPattern 215 = .ok (.putfield 376, 3) := by decide +kernel
theorem dX12_nextPattern_218 : decode cX12_nextPattern 218 = .ok (.goto 40, 3) := by decide +kernel
theorem dX12_nextPattern_221 : decode cX12_nextPattern 221 = .ok (.iload_n 3, 1) := by decide +kernel
theorem dX12_nextPattern_222 : decode cX12_nextPattern 222 = .ok (.bipush 42, 2) := by decide +kernel
theorem dX12_nextPattern_224 : decode cX12_nextPattern 224 = .ok (.if_icmp .eq 9, 3) := by decide +kernel
theorem dX12_nextPattern_227 : decode cX12_nextPattern 227 = .ok (.iload_n 3, 1) := by decide +kernel
theorem dX12_nextPattern_228 : decode cX12_nextPattern 228 = .ok (.bipush 45, 2) := by decide +kernel
theorem dX12_nextPattern_230 : decode cX12_nextPattern 230 = .ok (.if_icmp .ne 28, 3) := by decide +kernel
theorem dX12_nextPattern_233 : decode cX12_nextPattern 233 = .ok (.aload_n 0, 1) := by decide +kernel
theorem dX12_nextPattern_234 : decode cX12_nextPattern 234 = .ok (.iload_n 3, 1) := by decide +kernel
theorem dX12_nextPattern_235 : decode cX12_nextPattern 235 = .ok (.bipush 42, 2) := by decide +kernel
theorem dX12_nextPattern_237 : decode cX12_nextPattern 237 = .ok (.if_icmp .ne 7, 3) := by decide +kernel
theorem dX12_nextPattern_240 : decode cX12_nextPattern 240 = .ok (.iconst 1, 1) := by decide +kernel
theorem dX12_nextPattern_241 : decode cX12_nextPattern 241 = .ok (.goto 4, 3) := by decide +kernel
theorem dX12_nextPattern_244 : decode cX12_nextPattern 244 = .ok (.iconst 2, 1) := by decide +kernel
theorem dX12_nextPattern_245 : decode cX12_nextPattern 245 = .ok (.putfield 379, 3) := by decide +kernel
theorem dX12_nextPattern_248 : decode cX12_nextPattern 248 = .ok (.aload_n 0, 1) := by decide +kernel
theorem dX12_nextPattern_249 : decode cX12_nextPattern 249 = .ok (.dup, 1) := by decide +kernel
theorem dX12_nextPattern_250 : decode cX12_nextPattern 250 = .ok (.getfield 336, 3) := by decide +kernel
theorem dX12_nextPattern_253 : decode cX12_nextPattern 253 = .ok (.iconst 2, 1) := by decide +kernel
theorem dX12_nextPattern_254 : decode cX12_nextPattern 254 = .ok (.iadd, 1) := by decide +kernel
theorem dX12_nextPattern_255 : decode cX12_nextPattern 255 = .ok (.putfield 336, 3) := by decide +kernel
theorem dX12_nextPattern_258 : decode cX12_nextPattern 258 = .ok (.iload 4, 2) := by decide +kernel
theorem dX12_nextPattern_260 : decode cX12_nextPattern 260 = .ok (.ifCond .eq 20, 3) := by decide +kernel
theorem dX12_nextPattern_263 : decode cX12_nextPattern 263 = .ok (.aload_n 0, 1) := by decide +kernel
theorem dX12_nextPattern_264 : decode cX12_nextPattern 264 = .ok (.aload_n 0, 1) := by decide +kernel
theorem dX12_nextPattern_265 : decode cX12_nextPattern 265 = .ok (.getfield 336, 3) := by decide +kernel
theorem dX12_nextPattern_268 : decode cX12_nextPattern 268 = .ok (.invokevirtual 339, 3) := by decide +kernel
theorem dX12_nextPattern_271 : decode cX12_nextPattern 271 = .ok (.bipush 47, 2) := by decide +kernel
theorem dX12_nextPattern_273 : decode cX12_nextPattern 273 = .ok (.if_icmp .ne 7, 3) := by decide +kernel
theorem dX12_nextPattern_276 : decode cX12_nextPattern 276 = .ok (.iconst 1, 1) := by decide +kernel
theorem dX12_nextPattern_277 : decode cX12_nextPattern 277 = .ok (.goto 4, 3) := by decide +kernel
theorem dX12_nextPattern_280 : decode cX12_nextPattern 280 = .ok (.iconst 0, 1) := by decide +kernel
theorem dX12_nextPattern_281 : decode cX12_nextPattern 281 = .ok (.istore_n 2, 1) := by decide +kernel
theorem dX12_nextPattern_282 : decode cX12_nextPattern 282 = .ok (.goto (-268), 3) := by decide +kernel
theorem dX12_nextPattern_285 : decode cX12_nextPattern 285 = .ok (.iload_n 1, 1) := by decide +kernel
theorem dX12_nextPattern_286 : decode cX12_nextPattern 286 = .ok (.ifCond .eq 17, 3) := by decide +kernel
theorem dX12_nextPattern_289 : decode cX12_nextPattern 289 = .ok (.aload_n 0, 1) := by decide +kernel
theorem dX12_nextPattern_290 : decode cX12_nextPattern 290 = .ok (.getfield 376, 3) := by decide +kernel
theorem dX12_nextPattern_293 : decode cX12_nextPattern 293 = .ok (.ifCond .ne 16, 3) := by decide +kernel
theorem dX12_nextPattern_296 : decode cX12_nextPattern 296 = .ok (.aload_n 0, 1) := by decide +kernel
theorem dX12_nextPattern_297 : decode cX12_nextPattern 297 = .ok (.getfield 379, 3) := by decide +kernel
theorem dX12_nextPattern_300 : decode cX12_nextPattern 300 = .ok (.ifCond .ne 9, 3) := by decide +kernel
theorem dX12_nextPattern_303 : decode cX12_nextPattern 303 = .ok (.aload_n 0, 1) := by decide +kernel
theorem dX12_nextPattern_304 : decode cX12_nextPattern 304 = .ok (.iconst 1, 1) := by decide +kernel
theorem dX12_nextPattern_305 : decode cX12_nextPattern 305 = .ok (.invokevirtual 362, 3) := by decide +kernel
theorem dX12_nextPattern_308 : decode cX12_nextPattern 308 = .ok (.return_, 1) := by decide +kernel
theorem dX12_nextPattern_309 : decode cX12_nextPattern 309 = .ok (.aload_n 0, 1) := by decide +kernel
theorem dX12_nextPattern_310 : decode cX12_nextPattern 310 = .ok (.iconst 4, 1) := by decide +kernel
theorem dX12_nextPattern_311 : decode cX12_nextPattern 311 = .ok (.putfield 292, 3) := by decide +kernel
theorem dX12_nextPattern_314 : decode cX12_nextPattern 314 = .ok (.return_, 1) := by decide +kernel
theorem dX12_nextSign_0 : decode cX12_nextSign 0 = .ok (.aload_n 0, 1) := by decide +kernel
theorem dX12_nextSign_1 : decode cX12_nextSign 1 = .ok (.dup, 1) := by decide +kernel
theorem dX12_nextSign_2 : decode cX12_nextSign 2 = .ok (.getfield 336, 3) := by decide +kernel
theorem dX12_nextSign_5 : decode cX12_nextSign 5 = .ok (.iconst 1, 1) := by decide +kernel
theorem dX12_nextSign_6 : decode cX12_nextSign 6 = .ok (.iadd, 1) := by decide +kernel
theorem dX12_nextSign_7 : decode cX12_nextSign 7 = .ok (.putfield 336, 3) := by decide +kernel
theorem dX12_nextSign_10 : decode cX12_nextSign 10 = .ok (.aload_n 0, 1) := by decide +kernel
theorem dX12_nextSign_11 : decode cX12_nextSign 11 = .ok (.iconst 5, 1) := by decide +kernel
theorem dX12_nextSign_12 : decode cX12_nextSign 12 = .ok (.putfield 292, 3) := by decide +kernel
theorem dX12_nextSign_15 : decode cX12_nextSign 15 = .ok (.aload_n 0, 1) := by decide +kernel
theorem dX12_nextSign_16 : decode cX12_nextSign 16 = .ok (.iload_n 1, 1) := by decide +kernel
theorem dX12_nextSign_17 : decode cX12_nextSign 17 = .ok (.putfield 369, 3) := by decide +kernel
theorem dX12_nextSign_20 : decode cX12_nextSign 20 = .ok (.iload_n 1, 1) := by decide +kernel
theorem dX12_nextSign_21 : decode cX12_nextSign 21 = .ok (.bipush 58, 2) := by decide +kernel
theorem dX12_nextSign_23 : decode cX12_nextSign 23 = .ok (.if_icmp .eq 9, 3) := by decide +kernel
theorem dX12_nextSign_26 : decode cX12_nextSign 26 = .ok (.iload_n 1, 1) := by decide +kernel
theorem dX12_nextSign_27 : decode cX12_nextSign 27 = .ok (.bipush 61, 2) := by decide +kernel
theorem dX12_nextSign_29 : decode cX12_nextSign 29 = .ok (.if_icmp .ne 46, 3) := by decide +kernel
theorem dX12_nextSign_32 : decode cX12_nextSign 32 = .ok (.aload_n 0, 1) := by decide +kernel
theorem dX12_nextSign_33 : decode cX12_nextSign 33 = .ok (.aload_n 0, 1) := by decide +kernel
theorem dX12_nextSign_34 : decode cX12_nextSign 34 = .ok (.getfield 336, 3) := by decide +kernel
theorem dX12_nextSign_37 : decode cX12_nextSign 37 = .ok (.invokevirtual 339, 3) := by decide +kernel
theorem dX12_nextSign_40 : decode cX12_nextSign 40 = .ok (.bipush 61, 2) := by decide +kernel
theorem dX12_nextSign_42 : decode cX12_nextSign 42 = .ok (.if_icmp .ne 33, 3) := by decide +kernel
theorem dX12_nextSign_45 : decode cX12_nextSign 45 = .ok (.aload_n 0, 1) := by decide +kernel
theorem dX12_nextSign_46 : decode cX12_nextSign 46 = .ok (.iload_n 1, 1) := by decide +kernel
theorem dX12_nextSign_47 : decode cX12_nextSign 47 = .ok (.bipush 58, 2) := by decide +kernel
theorem dX12_nextSign_49 : decode cX12_nextSign 49 = .ok (.if_icmp .ne 9, 3) := by decide +kernel
theorem dX12_nextSign_52 : decode cX12_nextSign 52 = .ok (.sipush 256, 3) := by decide +kernel
theorem dX12_nextSign_55 : decode cX12_nextSign 55 = .ok (.goto 6, 3) := by decide +kernel
theorem dX12_nextSign_58 : decode cX12_nextSign 58 = .ok (.sipush 257, 3) := by decide +kernel
theorem dX12_nextSign_61 : decode cX12_nextSign 61 = .ok (.putfield 369, 3) := by decide +kernel
theorem dX12_nextSign_64 : decode cX12_nextSign 64 = .ok (.aload_n 0, 1) := by decide +kernel
theorem dX12_nextSign_65 : decode cX12_nextSign 65 = .ok (.dup, 1) := by decide +kernel
theorem dX12_nextSign_66 : decode cX12_nextSign 66 = .ok (.getfield 336, 3) := by decide +kernel
theorem dX12_nextSign_69 : decode cX12_nextSign 69 = .ok (.iconst 1, 1) := by decide +kernel
theorem dX12_nextSign_70 : decode cX12_nextSign 70 = .ok (.iadd, 1) := by decide +kernel
theorem dX12_nextSign_71 : decode cX12_nextSign 71 = .ok (.putfield 336, 3) := by decide +kernel
theorem dX12_nextSign_74 : decode cX12_nextSign 74 = .ok (.return_, 1) := by decide +kernel
theorem dX12_nextSign_75 : decode cX12_nextSign 75 = .ok (.iload_n 1, 1) := by decide +kernel
theorem dX12_nextSign_76 : decode cX12_nextSign 76 = .ok (.bipush 123, 2) := by decide +kernel
theorem dX12_nextSign_78 : decode cX12_nextSign 78 = .ok (.if_icmp .eq 45, 3) := by decide +kernel
theorem dX12_nextSign_81 : decode cX12_nextSign 81 = .ok (.iload_n 1, 1) := by decide +kernel
theorem dX12_nextSign_82 : decode cX12_nextSign 82 = .ok (.bipush 125, 2) := by decide +kernel
theorem dX12_nextSign_84 : decode cX12_nextSign 84 = .ok (.if_icmp .eq 39, 3) := by decide +kernel
theorem dX12_nextSign_87 : decode cX12_nextSign 87 = .ok (.iload_n 1, 1) := by decide +kernel
theorem dX12_nextSign_88 : decode cX12_nextSign 88 = .ok (.bipush 40, 2) := by decide +kernel
theorem dX12_nextSign_90 : decode cX12_nextSign 90 = .ok (.if_icmp .eq 33, 3) := by decide +kernel
theorem dX12_nextSign_93 : decode cX12_nextSign 93 = .ok (.iload_n 1, 1) := by decide +kernel
theorem dX12_nextSign_94 : decode cX12_nextSign 94 = .ok (.bipush 41, 2) := by decide +kernel
theorem dX12_nextSign_96 : decode cX12_nextSign 96 = .ok (.if_icmp .eq 27, 3) := by decide +kernel
theorem dX12_nextSign_99 : decode cX12_nextSign 99 = .ok (.iload_n 1, 1) := by decide +kernel
theorem dX12_nextSign_100 : decode cX12_nextSign 100 = .ok (.bipush 91, 2) := by decide +kernel
theorem dX12_nextSign_102 : decode cX12_nextSign 102 = .ok (.if_icmp .eq 21, 3) := by decide +kernel
theorem dX12_nextSign_105 : decode cX12_nextSign 105 = .ok (.iload_n 1, 1) := by decide +kernel
theorem dX12_nextSign_106 : decode cX12_nextSign 106 = .ok (.bipush 93, 2) := by decide +kernel
theorem dX12_nextSign_108 : decode cX12_nextSign 108 = .ok (.if_icmp .eq 15, 3) := by decide +kernel
theorem dX12_nextSign_111 : decode cX12_nextSign 111 = .ok (.iload_n 1, 1) := by decide +kernel
theorem dX12_nextSign_112 : decode cX12_nextSign 112 = .ok (.bipush 44, 2) := by decide +kernel
theorem dX12_nextSign_114 : decode cX12_nextSign 114 = .ok (.if_icmp .eq 9, 3) := by decide +kernel
theorem dX12_nextSign_117 : decode cX12_nextSign 117 = .ok (.iload_n 1, 1) := by decide +kernel
theorem dX12_nextSign_118 : decode cX12_nextSign 118 = .ok (.bipush 59, 2) := by decide +kernel
theorem dX12_nextSign_120 : decode cX12_nextSign 120 = .ok (.if_icmp .ne 7, 3) := by decide +kernel
theorem dX12_nextSign_123 : decode cX12_nextSign 123 = .ok (.iconst 1, 1) := by decide +kernel
theorem dX12_nextSign_124 : decode cX12_nextSign 124 = .ok (.goto 4, 3) := by decide +kernel
theorem dX12_nextSign_127 : decode cX12_nextSign 127 = .ok (.iconst 0, 1) := by decide +kernel
theorem dX12_nextSign_128 : decode cX12_nextSign 128 = .ok (.istore_n 2, 1) := by decide +kernel
theorem dX12_nextSign_129 : decode cX12_nextSign 129 = .ok (.iload_n 2, 1) := by decide +kernel
theorem dX12_nextSign_130 : decode cX12_nextSign 130 = .ok (.ifCond .ne 45, 3) := by decide +kernel
theorem dX12_nextSign_133 : decode cX12_nextSign 133 = .ok (.iload_n 1, 1) := by decide +kernel
theorem dX12_nextSign_134 : decode cX12_nextSign 134 = .ok (.bipush 58, 2) := by decide +kernel
theorem dX12_nextSign_136 : decode cX12_nextSign 136 = .ok (.if_icmp .eq 39, 3) := by decide +kernel
theorem dX12_nextSign_139 : decode cX12_nextSign 139 = .ok (.iload_n 1, 1) := by decide +kernel
theorem dX12_nextSign_140 : decode cX12_nextSign 140 = .ok (.bipush 61, 2) := by decide +kernel
theorem dX12_nextSign_142 : decode cX12_nextSign 142 = .ok (.if_icmp .eq 33, 3) := by decide +kernel
theorem dX12_nextSign_145 : decode cX12_nextSign 145 = .ok (.iload_n 1, 1) := by decide +kernel
theorem dX12_nextSign_146 : decode cX12_nextSign 146 = .ok (.bipush 46, 2) := by decide +kernel
theorem dX12_nextSign_148 : decode cX12_nextSign 148 = .ok (.if_icmp .eq 27, 3) := by decide +kernel
theorem dX12_nextSign_151 : decode cX12_nextSign 151 = .ok (.iload_n 1, 1) := by decide +kernel
theorem dX12_nextSign_152 : decode cX12_nextSign 152 = .ok (.bipush 43, 2) := by decide +kernel
theorem dX12_nextSign_154 : decode cX12_nextSign 154 = .ok (.if_icmp .eq 21, 3) := by decide +kernel
theorem dX12_nextSign_157 : decode cX12_nextSign 157 = .ok (.iload_n 1, 1) := by decide +kernel
theorem dX12_nextSign_158 : decode cX12_nextSign 158 = .ok (.bipush 45, 2) := by decide +kernel
theorem dX12_nextSign_160 : decode cX12_nextSign 160 = .ok (.if_icmp .eq 15, 3) := by decide +kernel
theorem dX12_nextSign_163 : decode cX12_nextSign 163 = .ok (.iload_n 1, 1) := by decide +kernel
theorem dX12_nextSign_164 : decode cX12_nextSign 164 = .ok (.bipush 42, 2) := by decide +kernel
theorem dX12_nextSign_166 : decode cX12_nextSign 166 = .ok (.if_icmp .eq 9, 3) := by decide +kernel
theorem dX12_nextSign_169 : decode cX12_nextSign 169 = .ok (.iload_n 1, 1) := by decide +kernel
theorem dX12_nextSign_170 : decode cX12_nextSign 170 = .ok (.bipush 60, 2) := by decide +kernel
theorem dX12_nextSign_172 : decode cX12_nextSign 172 = .ok (.if_icmp .ne 7, 3) := by decide +kernel
theorem dX12_nextSign_175 : decode cX12_nextSign 175 = .ok (.iconst 1, 1) := by decide +kernel
theorem dX12_nextSign_176 : decode cX12_nextSign 176 = .ok (.goto 4, 3) := by decide +kernel
theorem dX12_nextSign_179 : decode cX12_nextSign 179 = .ok (.iconst 0, 1) := by decide +kernel
theorem dX12_nextSign_180 : decode cX12_nextSign 180 = .ok (.istore_n 2, 1) := by decide +kernel
theorem dX12_nextSign_181 : decode cX12_nextSign 181 = .ok (.iload_n 2, 1) := by decide +kernel
theorem dX12_nextSign_182 : decode cX12_nextSign 182 = .ok (.ifCond .ne 8, 3) := by decide +kernel
theorem dX12_nextSign_185 : decode cX12_nextSign 185 = .ok (.aload_n 0, 1) := by decide +kernel
theorem dX12_nextSign_186 : decode cX12_nextSign 186 = .ok (.iconst 1, 1) := by decide +kernel
theorem dX12_nextSign_187 : decode cX12_nextSign 187 = .ok (.invokevirtual 362, 3) := by decide +kernel
theorem dX12_nextSign_190 : decode cX12_nextSign 190 = .ok (.return_, 1) := by decide +kernel
theorem dX12_isSign_0 : decode cX12_isSign 0 = .ok (.aload_n 0, 1) := by decide +kernel
theorem dX12_isSign_1 : decode cX12_isSign 1 = .ok (.invokevirtual 332, 3) := by decide +kernel
theorem dX12_isSign_4 : decode cX12_isSign 4 = .ok (.ifCond .eq 23, 3) := by decide +kernel
theorem dX12_isSign_7 : decode cX12_isSign 7 = .ok (.aload_n 0, 1) := by decide +kernel
theorem dX12_isSign_8 : decode cX12_isSign 8 = .ok (.getfield 292, 3) := by decide +kernel
theorem dX12_isSign_11 : decode cX12_isSign 11 = .ok (.iconst 5, 1) := by decide +kernel
theorem dX12_isSign_12 : decode cX12_isSign 12 = .ok (.if_icmp .ne 15, 3) := by decide +kernel
theorem dX12_isSign_15 : decode cX12_isSign 15 = .ok (.aload_n 0, 1) := by decide +kernel
theorem dX12_isSign_16 : decode cX12_isSign 16 = .ok (.getfield 369, 3) := by decide +kernel
theorem dX12_isSign_19 : decode cX12_isSign 19 = .ok (.iload_n 1, 1) := by decide +kernel
theorem dX12_isSign_20 : decode cX12_isSign 20 = .ok (.if_icmp .ne 7, 3) := by decide +kernel
theorem dX12_isSign_23 : decode cX12_isSign 23 = .ok (.iconst 1, 1) := by decide +kernel
theorem dX12_isSign_24 : decode cX12_isSign 24 = .ok (.goto 4, 3) := by decide +kernel
theorem dX12_isSign_27 : decode cX12_isSign 27 = .ok (.iconst 0, 1) := by decide +kernel
theorem dX12_isSign_28 : decode cX12_isSign 28 = .ok (.ireturn, 1) := by decide +kernel
theorem dX12_isKey_0 : decode cX12_isKey 0 = .ok (.aload_n 0, 1) := by decide +kernel
theorem dX12_isKey_1 : decode cX12_isKey 1 = .ok (.invokevirtual 332, 3) := by decide +kernel
theorem dX12_isKey_4 : decode cX12_isKey 4 = .ok (.ifCond .eq 23, 3) := by decide +kernel
theorem dX12_isKey_7 : decode cX12_isKey 7 = .ok (.aload_n 0, 1) := by decide +kernel
theorem dX12_isKey_8 : decode cX12_isKey 8 = .ok (.getfield 292, 3) := by decide +kernel
theorem dX12_isKey_11 : decode cX12_isKey 11 = .ok (.iconst 2, 1) := by decide +kernel
theorem dX12_isKey_12 : decode cX12_isKey 12 = .ok (.if_icmp .ne 15, 3) := by decide +kernel
theorem dX12_isKey_15 : decode cX12_isKey 15 = .ok (.aload_n 0, 1) := by decide +kernel
theorem dX12_isKey_16 : decode cX12_isKey 16 = .ok (.getfield 369, 3) := by decide +kernel
theorem dX12_isKey_19 : decode cX12_isKey 19 = .ok (.iload_n 1, 1) := by decide +kernel
theorem dX12_isKey_20 : decode cX12_isKey 20 = .ok (.if_icmp .ne 7, 3) := by decide +kernel
theorem dX12_isKey_23 : decode cX12_isKey 23 = .ok (.iconst 1, 1) := by decide +kernel
theorem dX12_isKey_24 : decode cX12_isKey 24 = .ok (.goto 4, 3) := by decide +kernel
theorem dX12_isKey_27 : decode cX12_isKey 27 = .ok (.iconst 0, 1) := by decide +kernel
theorem dX12_isKey_28 : decode cX12_isKey 28 = .ok (.ireturn, 1) := by decide +kernel
theorem dX12_misfit_0 : decode cX12_misfit 0 = .ok (.aload_n 0, 1) := by decide +kernel
theorem dX12_misfit_1 : decode cX12_misfit 1 = .ok (.iconst 1, 1) := by decide +kernel
theorem dX12_misfit_2 : decode cX12_misfit 2 = .ok (.aload_n 0, 1) := by decide +kernel
theorem dX12_misfit_3 : decode cX12_misfit 3 = .ok (.getfield 292, 3) := by decide +kernel
theorem dX12_misfit_6 : decode cX12_misfit 6 = .ok (.ifCond .ne 10, 3) := by decide +kernel
theorem dX12_misfit_9 : decode cX12_misfit 9 = .ok (.aload_n 0, 1) := by decide +kernel
theorem dX12_misfit_10 : decode cX12_misfit 10 = .ok (.getfield 278, 3) := by decide +kernel
theorem dX12_misfit_13 : decode cX12_misfit 13 = .ok (.goto 7, 3) := by decide +kernel
theorem dX12_misfit_16 : decode cX12_misfit 16 = .ok (.aload_n 0, 1) := by decide +kernel
theorem dX12_misfit_17 : decode cX12_misfit 17 = .ok (.getfield 295, 3) := by decide +kernel
theorem dX12_misfit_20 : decode cX12_misfit 20 = .ok (.invokevirtual 298, 3) := by decide +kernel
theorem dX12_misfit_23 : decode cX12_misfit 23 = .ok (.return_, 1) := by decide +kernel
theorem dX12_sign_0 : decode cX12_sign 0 = .ok (.aload_n 0, 1) := by decide +kernel
theorem dX12_sign_1 : decode cX12_sign 1 = .ok (.iload_n 1, 1) := by decide +kernel
theorem dX12_sign_2 : decode cX12_sign 2 = .ok (.invokevirtual 385, 3) := by decide +kernel
theorem dX12_sign_5 : decode cX12_sign 5 = .ok (.ifCond .eq 10, 3) := by decide +kernel
theorem dX12_sign_8 : decode cX12_sign 8 = .ok (.aload_n 0, 1) := by decide +kernel
theorem dX12_sign_9 : decode cX12_sign 9 = .ok (.invokevirtual 388, 3) := by decide +kernel
theorem dX12_sign_12 : decode cX12_sign 12 = .ok (.goto 14, 3) := by decide +kernel
theorem dX12_sign_15 : decode cX12_sign 15 = .ok (.aload_n 0, 1) := by decide +kernel
theorem dX12_sign_16 : decode cX12_sign 16 = .ok (.invokevirtual 332, 3) := by decide +kernel
theorem dX12_sign_19 : decode cX12_sign 19 = .ok (.ifCond .eq 7, 3) := by decide +kernel
theorem dX12_sign_22 : decode cX12_sign 22 = .ok (.aload_n 0, 1) := by decide +kernel
theorem dX12_sign_23 : decode cX12_sign 23 = .ok (.invokevirtual 391, 3) := by decide +kernel
theorem dX12_sign_26 : decode cX12_sign 26 = .ok (.return_, 1) := by decide +kernel
theorem dX12_key_0 : decode cX12_key 0 = .ok (.aload_n 0, 1) := by decide +kernel
theorem dX12_key_1 : decode cX12_key 1 = .ok (.iload_n 1, 1) := by decide +kernel
theorem dX12_key_2 : decode cX12_key 2 = .ok (.invokevirtual 394, 3) := by decide +kernel
theorem dX12_key_5 : decode cX12_key 5 = .ok (.ifCond .eq 10, 3) := by decide +kernel
theorem dX12_key_8 : decode cX12_key 8 = .ok (.aload_n 0, 1) := by decide +kernel
theorem dX12_key_9 : decode cX12_key 9 = .ok (.invokevirtual 388, 3) := by decide +kernel
theorem dX12_key_12 : decode cX12_key 12 = .ok (.goto 14, 3) := by decide +kernel
theorem dX12_key_15 : decode cX12_key 15 = .ok (.aload_n 0, 1) := by decide +kernel
theorem dX12_key_16 : decode cX12_key 16 = .ok (.invokevirtual 332, 3) := by decide +kernel
theorem dX12_key_19 : decode cX12_key 19 = .ok (.ifCond .eq 7, 3) := by decide +kernel
theorem dX12_key_22 : decode cX12_key 22 = .ok (.aload_n 0, 1) := by decide +kernel
theorem dX12_key_23 : decode cX12_key 23 = .ok (.invokevirtual 391, 3) := by decide +kernel
theorem dX12_key_26 : decode cX12_key 26 = .ok (.return_, 1) := by decide +kernel
theorem dX12_isName_0 : decode cX12_isName 0 = .ok (.aload_n 0, 1) := by decide +kernel
theorem dX12_isName_1 : decode cX12_isName 1 = .ok (.invokevirtual 332, 3) := by decide +kernel
theorem dX12_isName_4 : decode cX12_isName 4 = .ok (.ifCond .eq 15, 3) := by decide +kernel
theorem dX12_isName_7 : decode cX12_isName 7 = .ok (.aload_n 0, 1) := by decide +kernel
theorem dX12_isName_8 : decode cX12_isName 8 = .ok (.getfield 292, 3) := by decide +kernel
theorem dX12_isName_11 : decode cX12_isName 11 = .ok (.iconst 1, 1) := by decide +kernel
theorem dX12_isName_12 : decode cX12_isName 12 = .ok (.if_icmp .eq 7, 3) := by decide +kernel
theorem dX12_isName_15 : decode cX12_isName 15 = .ok (.aload_n 0, 1) := by decide +kernel
theorem dX12_isName_16 : decode cX12_isName 16 = .ok (.invokevirtual 391, 3) := by decide +kernel
theorem dX12_isName_19 : decode cX12_isName 19 = .ok (.aload_n 0, 1) := by decide +kernel
theorem dX12_isName_20 : decode cX12_isName 20 = .ok (.invokevirtual 332, 3) := by decide +kernel
theorem dX12_isName_23 : decode cX12_isName 23 = .ok (.ireturn, 1) := by decide +kernel
theorem dX12_keepPattern_0 : decode cX12_keepPattern 0 = .ok (.iconst 0, 1) := by decide +kernel
theorem dX12_keepPattern_1 : decode cX12_keepPattern 1 = .ok (.istore_n 2, 1) := by decide +kernel
theorem dX12_keepPattern_2 : decode cX12_keepPattern 2 = .ok (.iload_n 2, 1) := by decide +kernel
theorem dX12_keepPattern_3 : decode cX12_keepPattern 3 = .ok (.aload_n 0, 1) := by decide +kernel
theorem dX12_keepPattern_4 : decode cX12_keepPattern 4 = .ok (.getfield 376, 3) := by decide +kernel
theorem dX12_keepPattern_7 : decode cX12_keepPattern 7 = .ok (.if_icmp .ge 25, 3) := by decide +kernel
theorem dX12_keepPattern_10 : decode cX12_keepPattern 10 = .ok (.aload_n 0, 1) := by decide +kernel
theorem dX12_keepPattern_11 : decode cX12_keepPattern 11 = .ok (.getfield 24, 3) := by decide +kernel
theorem dX12_keepPattern_14 : decode cX12_keepPattern 14 = .ok (.iconst 5, 1) := by decide +kernel
theorem dX12_keepPattern_15 : decode cX12_keepPattern 15 = .ok (.iload_n 1, 1) := by decide +kernel
theorem dX12_keepPattern_16 : decode cX12_keepPattern 16 = .ok (.imul, 1) := by decide +kernel
theorem dX12_keepPattern_17 : decode cX12_keepPattern 17 = .ok (.iload_n 2, 1) := by decide +kernel
theorem dX12_keepPattern_18 : decode cX12_keepPattern 18 = .ok (.iadd, 1) := by decide +kernel
theorem dX12_keepPattern_19 : decode cX12_keepPattern 19 = .ok (.aload_n 0, 1) := by decide +kernel
theorem dX12_keepPattern_20 : decode cX12_keepPattern 20 = .ok (.getfield 20, 3) := by decide +kernel
theorem dX12_keepPattern_23 : decode cX12_keepPattern 23 = .ok (.iload_n 2, 1) := by decide +kernel
theorem dX12_keepPattern_24 : decode cX12_keepPattern 24 = .ok (.laload, 1) := by decide +kernel
theorem dX12_keepPattern_25 : decode cX12_keepPattern 25 = .ok (.lastore, 1) := by decide +kernel
theorem dX12_keepPattern_26 : decode cX12_keepPattern 26 = .ok (.iinc 2 1, 3) := by decide +kernel
theorem dX12_keepPattern_29 : decode cX12_keepPattern 29 = .ok (.goto (-27), 3) := by decide +kernel
theorem dX12_keepPattern_32 : decode cX12_keepPattern 32 = .ok (.aload_n 0, 1) := by decide +kernel
theorem dX12_keepPattern_33 : decode cX12_keepPattern 33 = .ok (.getfield 27, 3) := by decide +kernel
theorem dX12_keepPattern_36 : decode cX12_keepPattern 36 = .ok (.iload_n 1, 1) := by decide +kernel
theorem dX12_keepPattern_37 : decode cX12_keepPattern 37 = .ok (.aload_n 0, 1) := by decide +kernel
theorem dX12_keepPattern_38 : decode cX12_keepPattern 38 = .ok (.getfield 376, 3) := by decide +kernel
theorem dX12_keepPattern_41 : decode cX12_keepPattern 41 = .ok (.iastore, 1) := by decide +kernel
theorem dX12_keepPattern_42 : decode cX12_keepPattern 42 = .ok (.aload_n 0, 1) := by decide +kernel
theorem dX12_keepPattern_43 : decode cX12_keepPattern 43 = .ok (.getfield 30, 3) := by decide +kernel
theorem dX12_keepPattern_46 : decode cX12_keepPattern 46 = .ok (.iload_n 1, 1) := by decide +kernel
theorem dX12_keepPattern_47 : decode cX12_keepPattern 47 = .ok (.aload_n 0, 1) := by decide +kernel
theorem dX12_keepPattern_48 : decode cX12_keepPattern 48 = .ok (.getfield 379, 3) := by decide +kernel
theorem dX12_keepPattern_51 : decode cX12_keepPattern 51 = .ok (.iastore, 1) := by decide +kernel
theorem dX12_keepPattern_52 : decode cX12_keepPattern 52 = .ok (.return_, 1) := by decide +kernel
theorem dX12_covers_0 : decode cX12_covers 0 = .ok (.aload_n 0, 1) := by decide +kernel
theorem dX12_covers_1 : decode cX12_covers 1 = .ok (.getfield 27, 3) := by decide +kernel
theorem dX12_covers_4 : decode cX12_covers 4 = .ok (.iload_n 1, 1) := by decide +kernel
theorem dX12_covers_5 : decode cX12_covers 5 = .ok (.iaload, 1) := by decide +kernel
theorem dX12_covers_6 : decode cX12_covers 6 = .ok (.istore_n 3, 1) := by decide +kernel
theorem dX12_covers_7 : decode cX12_covers 7 = .ok (.aload_n 0, 1) := by decide +kernel
theorem dX12_covers_8 : decode cX12_covers 8 = .ok (.getfield 27, 3) := by decide +kernel
theorem dX12_covers_11 : decode cX12_covers 11 = .ok (.iload_n 2, 1) := by decide +kernel
theorem dX12_covers_12 : decode cX12_covers 12 = .ok (.iaload, 1) := by decide +kernel
theorem dX12_covers_13 : decode cX12_covers 13 = .ok (.istore 4, 2) := by decide +kernel
theorem dX12_covers_15 : decode cX12_covers 15 = .ok (.iload 4, 2) := by decide +kernel
theorem dX12_covers_17 : decode cX12_covers 17 = .ok (.iload_n 3, 1) := by decide +kernel
theorem dX12_covers_18 : decode cX12_covers 18 = .ok (.if_icmp .lt 7, 3) := by decide +kernel
theorem dX12_covers_21 : decode cX12_covers 21 = .ok (.iconst 1, 1) := by decide +kernel
theorem dX12_covers_22 : decode cX12_covers 22 = .ok (.goto 4, 3) := by decide +kernel
theorem dX12_covers_25 : decode cX12_covers 25 = .ok (.iconst 0, 1) := by decide +kernel
theorem dX12_covers_26 : decode cX12_covers 26 = .ok (.istore 5, 2) := by decide +kernel
theorem dX12_covers_28 : decode cX12_covers 28 = .ok (.iconst 0, 1) := by decide +kernel
theorem dX12_covers_29 : decode cX12_covers 29 = .ok (.istore 6, 2) := by decide +kernel
theorem dX12_covers_31 : decode cX12_covers 31 = .ok (.iload 6, 2) := by decide +kernel
theorem dX12_covers_33 : decode cX12_covers 33 = .ok (.iload_n 3, 1) := by decide +kernel
theorem dX12_covers_34 : decode cX12_covers 34 = .ok (.if_icmp .ge 47, 3) := by decide +kernel
theorem dX12_covers_37 : decode cX12_covers 37 = .ok (.iload 5, 2) := by decide +kernel
theorem dX12_covers_39 : decode cX12_covers 39 = .ok (.ifCond .eq 42, 3) := by decide +kernel
theorem dX12_covers_42 : decode cX12_covers 42 = .ok (.aload_n 0, 1) := by decide +kernel
theorem dX12_covers_43 : decode cX12_covers 43 = .ok (.getfield 24, 3) := by decide +kernel
theorem dX12_covers_46 : decode cX12_covers 46 = .ok (.iconst 5, 1) := by decide +kernel
theorem dX12_covers_47 : decode cX12_covers 47 = .ok (.iload_n 1, 1) := by decide +kernel
theorem dX12_covers_48 : decode cX12_covers 48 = .ok (.imul, 1) := by decide +kernel
theorem dX12_covers_49 : decode cX12_covers 49 = .ok (.iload 6, 2) := by decide +kernel
theorem dX12_covers_51 : decode cX12_covers 51 = .ok (.iadd, 1) := by decide +kernel
theorem dX12_covers_52 : decode cX12_covers 52 = .ok (.laload, 1) := by decide +kernel
theorem dX12_covers_53 : decode cX12_covers 53 = .ok (.aload_n 0, 1) := by decide +kernel
theorem dX12_covers_54 : decode cX12_covers 54 = .ok (.getfield 24, 3) := by decide +kernel
theorem dX12_covers_57 : decode cX12_covers 57 = .ok (.iconst 5, 1) := by decide +kernel
theorem dX12_covers_58 : decode cX12_covers 58 = .ok (.iload_n 2, 1) := by decide +kernel
theorem dX12_covers_59 : decode cX12_covers 59 = .ok (.imul, 1) := by decide +kernel
theorem dX12_covers_60 : decode cX12_covers 60 = .ok (.iload 6, 2) := by decide +kernel
theorem dX12_covers_62 : decode cX12_covers 62 = .ok (.iadd, 1) := by decide +kernel
theorem dX12_covers_63 : decode cX12_covers 63 = .ok (.laload, 1) := by decide +kernel
theorem dX12_covers_64 : decode cX12_covers 64 = .ok (.lcmp, 1) := by decide +kernel
theorem dX12_covers_65 : decode cX12_covers 65 = .ok (.ifCond .ne 7, 3) := by decide +kernel
theorem dX12_covers_68 : decode cX12_covers 68 = .ok (.iconst 1, 1) := by decide +kernel
theorem dX12_covers_69 : decode cX12_covers 69 = .ok (.goto 4, 3) := by decide +kernel
theorem dX12_covers_72 : decode cX12_covers 72 = .ok (.iconst 0, 1) := by decide +kernel
theorem dX12_covers_73 : decode cX12_covers 73 = .ok (.istore 5, 2) := by decide +kernel
theorem dX12_covers_75 : decode cX12_covers 75 = .ok (.iinc 6 1, 3) := by decide +kernel
theorem dX12_covers_78 : decode cX12_covers 78 = .ok (.goto (-47), 3) := by decide +kernel
theorem dX12_covers_81 : decode cX12_covers 81 = .ok (.iload 5, 2) := by decide +kernel
theorem dX12_covers_83 : decode cX12_covers 83 = .ok (.ifCond .eq 52, 3) := by decide +kernel
theorem dX12_covers_86 : decode cX12_covers 86 = .ok (.aload_n 0, 1) := by decide +kernel
theorem dX12_covers_87 : decode cX12_covers 87 = .ok (.getfield 30, 3) := by decide +kernel
theorem dX12_covers_90 : decode cX12_covers 90 = .ok (.iload_n 1, 1) := by decide +kernel
theorem dX12_covers_91 : decode cX12_covers 91 = .ok (.iaload, 1) := by decide +kernel
theorem dX12_covers_92 : decode cX12_covers 92 = .ok (.ifCond .ne 12, 3) := by decide +kernel
theorem dX12_covers_95 : decode cX12_covers 95 = .ok (.iload 4, 2) := by decide +kernel
theorem dX12_covers_97 : decode cX12_covers 97 = .ok (.iload_n 3, 1) := by decide +kernel
theorem dX12_covers_98 : decode cX12_covers 98 = .ok (.if_icmp .ne 37, 3) := by decide +kernel
theorem dX12_covers_101 : decode cX12_covers 101 = .ok (.goto 30, 3) := by decide +kernel
theorem dX12_covers_104 : decode cX12_covers 104 = .ok (.aload_n 0, 1) := by decide +kernel
theorem dX12_covers_105 : decode cX12_covers 105 = .ok (.getfield 30, 3) := by decide +kernel
theorem dX12_covers_108 : decode cX12_covers 108 = .ok (.iload_n 1, 1) := by decide +kernel
theorem dX12_covers_109 : decode cX12_covers 109 = .ok (.iaload, 1) := by decide +kernel
theorem dX12_covers_110 : decode cX12_covers 110 = .ok (.iconst 1, 1) := by decide +kernel
theorem dX12_covers_111 : decode cX12_covers 111 = .ok (.if_icmp .ne 14, 3) := by decide +kernel
theorem dX12_covers_114 : decode cX12_covers 114 = .ok (.iload 4, 2) := by decide +kernel
theorem dX12_covers_116 : decode cX12_covers 116 = .ok (.iload_n 3, 1) := by decide +kernel
theorem dX12_covers_117 : decode cX12_covers 117 = .ok (.iconst 1, 1) := by decide +kernel
theorem dX12_covers_118 : decode cX12_covers 118 = .ok (.iadd, 1) := by decide +kernel
theorem dX12_covers_119 : decode cX12_covers 119 = .ok (.if_icmp .ne 16, 3) := by decide +kernel
theorem dX12_covers_122 : decode cX12_covers 122 = .ok (.goto 9, 3) := by decide +kernel
