abbrev cX0_init : ByteArray := prog_2_method_1_code
def yX0_init : MethodName := ⟨RX0, "<init>", "()V"⟩
abbrev cX0_made : ByteArray := prog_2_method_3_code
def yX0_made : MethodName := ⟨RX0, "made", "()I"⟩
abbrev cX1_init : ByteArray := prog_3_method_1_code
def yX1_init : MethodName := ⟨RX1, "<init>", "(LWardenHouse$Plan;LWardenHouse$Policy;)V"⟩
abbrev cX1_forget : ByteArray := prog_3_method_4_code
def yX1_forget : MethodName := ⟨RX1, "forget", "()V"⟩
abbrev cX2_init : ByteArray := prog_4_method_1_code
def yX2_init : MethodName := ⟨RX2, "<init>", "(LWardenHouse$Policy;)V"⟩
abbrev cX2_clear : ByteArray := prog_4_method_2_code
def yX2_clear : MethodName := ⟨RX2, "clear", "()V"⟩
abbrev cX2_unitAt : ByteArray := prog_4_method_3_code
def yX2_unitAt : MethodName := ⟨RX2, "unitAt", "(I)LWardenHouse$Unit;"⟩
abbrev cX3_init : ByteArray := prog_5_method_1_code
def yX3_init : MethodName := ⟨RX3, "<init>", "()V"⟩
abbrev cX3_rightsOf : ByteArray := prog_5_method_2_code
def yX3_rightsOf : MethodName := ⟨RX3, "rightsOf", "(I)[LWardenHouse$Right;"⟩
abbrev cX3_clear : ByteArray := prog_5_method_3_code
def yX3_clear : MethodName := ⟨RX3, "clear", "()V"⟩
abbrev cX4_init : ByteArray := prog_6_method_1_code
def yX4_init : MethodName := ⟨RX4, "<init>", "(LWardenHouse$Words;LWardenHouse$Plan;LWardenHouse$Policy;)V"⟩
abbrev cX5_init : ByteArray := prog_7_method_1_code
def yX5_init : MethodName := ⟨RX5, "<init>", "()V"⟩
abbrev cX6_init : ByteArray := prog_8_method_1_code
def yX6_init : MethodName := ⟨RX6, "<init>", "(I)V"⟩
abbrev cX6_add : ByteArray := prog_8_method_2_code
def yX6_add : MethodName := ⟨RX6, "add", "(J)V"⟩
abbrev cX6_get : ByteArray := prog_8_method_3_code
def yX6_get : MethodName := ⟨RX6, "get", "(I)J"⟩
abbrev cX6_at : ByteArray := prog_8_method_4_code
def yX6_at : MethodName := ⟨RX6, "at", "(I)I"⟩
abbrev cX6_set : ByteArray := prog_8_method_5_code
def yX6_set : MethodName := ⟨RX6, "set", "(IJ)V"⟩
abbrev cX6_pop : ByteArray := prog_8_method_6_code
def yX6_pop : MethodName := ⟨RX6, "pop", "()J"⟩
abbrev cX6_cut : ByteArray := prog_8_method_7_code
def yX6_cut : MethodName := ⟨RX6, "cut", "(I)V"⟩
abbrev cX6_addPair : ByteArray := prog_8_method_8_code
def yX6_addPair : MethodName := ⟨RX6, "addPair", "(I)V"⟩
abbrev cX6_pairAt : ByteArray := prog_8_method_9_code
def yX6_pairAt : MethodName := ⟨RX6, "pairAt", "(I)I"⟩
abbrev cX7_init : ByteArray := prog_9_method_1_code
def yX7_init : MethodName := ⟨RX7, "<init>", "()V"⟩
abbrev cX8_init : ByteArray := prog_10_method_1_code
def yX8_init : MethodName := ⟨RX8, "<init>", "(LWardenHouse$Plan;)V"⟩
abbrev cX8_forget : ByteArray := prog_10_method_2_code
def yX8_forget : MethodName := ⟨RX8, "forget", "()V"⟩
abbrev cX9_init : ByteArray := prog_11_method_1_code
def yX9_init : MethodName := ⟨RX9, "<init>", "()V"⟩
abbrev cX10_init : ByteArray := prog_12_method_1_code
def yX10_init : MethodName := ⟨RX10, "<init>", "()V"⟩
abbrev cX10_codeWith : ByteArray := prog_12_method_2_code
def yX10_codeWith : MethodName := ⟨RX10, "codeWith", "(JI)J"⟩
abbrev cX10_isLetter : ByteArray := prog_12_method_3_code
def yX10_isLetter : MethodName := ⟨RX10, "isLetter", "(I)Z"⟩
abbrev cX10_isDigit : ByteArray := prog_12_method_4_code
def yX10_isDigit : MethodName := ⟨RX10, "isDigit", "(I)Z"⟩
abbrev cX10_begin : ByteArray := prog_12_method_5_code
def yX10_begin : MethodName := ⟨RX10, "begin", "([BII)V"⟩
abbrev cX10_advance : ByteArray := prog_12_method_6_code
def yX10_advance : MethodName := ⟨RX10, "advance", "()V"⟩
abbrev cX10_byteAt : ByteArray := prog_12_method_11_code
def yX10_byteAt : MethodName := ⟨RX10, "byteAt", "(I)I"⟩
abbrev cX10_stepCharAt : ByteArray := prog_12_method_12_code
def yX10_stepCharAt : MethodName := ⟨RX10, "stepCharAt", "(I)Z"⟩
abbrev cX10_addWord : ByteArray := prog_12_method_13_code
def yX10_addWord : MethodName := ⟨RX10, "addWord", "(IIJ)V"⟩
abbrev cX10_findWord : ByteArray := prog_12_method_14_code
def yX10_findWord : MethodName := ⟨RX10, "findWord", "()Z"⟩
abbrev cX10_skipBlanks : ByteArray := prog_12_method_15_code
def yX10_skipBlanks : MethodName := ⟨RX10, "skipBlanks", "()V"⟩
abbrev cX10_findName : ByteArray := prog_12_method_16_code
def yX10_findName : MethodName := ⟨RX10, "findName", "()V"⟩
abbrev cX10_findNumber : ByteArray := prog_12_method_17_code
def yX10_findNumber : MethodName := ⟨RX10, "findNumber", "()V"⟩
abbrev cX10_findPattern : ByteArray := prog_12_method_18_code
def yX10_findPattern : MethodName := ⟨RX10, "findPattern", "()V"⟩
abbrev cX10_findStep : ByteArray := prog_12_method_19_code
def yX10_findStep : MethodName := ⟨RX10, "findStep", "()Z"⟩
abbrev cX10_findSign : ByteArray := prog_12_method_20_code
def yX10_findSign : MethodName := ⟨RX10, "findSign", "(I)V"⟩
def RJ11 : String := "java/lang/Character"
abbrev cJ11_isValidCodePoint_9a6ad : ByteArray := prog_15_method_11_code
def yJ11_isValidCodePoint_9a6ad : MethodName := ⟨RJ11, "isValidCodePoint", "(I)Z"⟩
abbrev cJ11_highSurrogate_5068e : ByteArray := prog_15_method_28_code
def yJ11_highSurrogate_5068e : MethodName := ⟨RJ11, "highSurrogate", "(I)C"⟩
abbrev cJ11_lowSurrogate_5068e : ByteArray := prog_15_method_29_code
def yJ11_lowSurrogate_5068e : MethodName := ⟨RJ11, "lowSurrogate", "(I)C"⟩
def RJ0 : String := "java/lang/String"
abbrev cJ0_length_8abf5 : ByteArray := prog_22_method_54_code
def yJ0_length_8abf5 : MethodName := ⟨RJ0, "length", "()I"⟩
abbrev cJ0_charAt_5068e : ByteArray := prog_22_method_56_code
def yJ0_charAt_5068e : MethodName := ⟨RJ0, "charAt", "(I)C"⟩
abbrev cJ0_indexOf_0f7a4 : ByteArray := prog_22_method_79_code
def yJ0_indexOf_0f7a4 : MethodName := ⟨RJ0, "indexOf", "(I)I"⟩
abbrev cJ0_indexOf_7cf53 : ByteArray := prog_22_method_80_code
def yJ0_indexOf_7cf53 : MethodName := ⟨RJ0, "indexOf", "(II)I"⟩
abbrev cJ0_coder_7d493 : ByteArray := prog_22_method_152_code
def yJ0_coder_7d493 : MethodName := ⟨RJ0, "coder", "()B"⟩
abbrev cJ0_isLatin1_aae02 : ByteArray := prog_22_method_154_code
def yJ0_isLatin1_aae02 : MethodName := ⟨RJ0, "isLatin1", "()Z"⟩
abbrev cJ0_checkIndex_df160 : ByteArray := prog_22_method_155_code
def yJ0_checkIndex_df160 : MethodName := ⟨RJ0, "checkIndex", "(II)V"⟩
abbrev cJ0_checkBoundsBeginEnd_23922 : ByteArray := prog_22_method_158_code
def yJ0_checkBoundsBeginEnd_23922 : MethodName := ⟨RJ0, "checkBoundsBeginEnd", "(III)V"⟩
def RJ1 : String := "java/lang/StringLatin1"
abbrev cJ1_charAt_3b067 : ByteArray := prog_23_method_2_code
def yJ1_charAt_3b067 : MethodName := ⟨RJ1, "charAt", "([BI)C"⟩
abbrev cJ1_canEncode_9a6ad : ByteArray := prog_23_method_4_code
def yJ1_canEncode_9a6ad : MethodName := ⟨RJ1, "canEncode", "(I)Z"⟩
abbrev cJ1_indexOf_4cfef : ByteArray := prog_23_method_22_code
def yJ1_indexOf_4cfef : MethodName := ⟨RJ1, "indexOf", "([BIII)I"⟩
abbrev cJ1_indexOfChar_4cfef : ByteArray := prog_23_method_23_code
def yJ1_indexOfChar_4cfef : MethodName := ⟨RJ1, "indexOfChar", "([BIII)I"⟩
def RJ2 : String := "java/lang/StringUTF16"
abbrev cJ2_getChar_3b067 : ByteArray := prog_24_method_5_code
def yJ2_getChar_3b067 : MethodName := ⟨RJ2, "getChar", "([BI)C"⟩
abbrev cJ2_length_9d52b : ByteArray := prog_24_method_6_code
def yJ2_length_9d52b : MethodName := ⟨RJ2, "length", "([B)I"⟩
abbrev cJ2_indexOf_4cfef : ByteArray := prog_24_method_40_code
def yJ2_indexOf_4cfef : MethodName := ⟨RJ2, "indexOf", "([BIII)I"⟩
abbrev cJ2_indexOfChar_4cfef : ByteArray := prog_24_method_47_code
def yJ2_indexOfChar_4cfef : MethodName := ⟨RJ2, "indexOfChar", "([BIII)I"⟩
abbrev cJ2_indexOfCharUnsafe_4cfef : ByteArray := prog_24_method_48_code
def yJ2_indexOfCharUnsafe_4cfef : MethodName := ⟨RJ2, "indexOfCharUnsafe", "([BIII)I"⟩
abbrev cJ2_indexOfSupplementary_4cfef : ByteArray := prog_24_method_49_code
def yJ2_indexOfSupplementary_4cfef : MethodName := ⟨RJ2, "indexOfSupplementary", "([BIII)I"⟩
abbrev cJ2_charAt_3b067 : ByteArray := prog_24_method_83_code
def yJ2_charAt_3b067 : MethodName := ⟨RJ2, "charAt", "([BI)C"⟩
abbrev cJ2_checkIndex_2214a : ByteArray := prog_24_method_91_code
def yJ2_checkIndex_2214a : MethodName := ⟨RJ2, "checkIndex", "(I[B)V"⟩
abbrev cJ2_checkBoundsBeginEnd_d044e : ByteArray := prog_24_method_93_code
def yJ2_checkBoundsBeginEnd_d044e : MethodName := ⟨RJ2, "checkBoundsBeginEnd", "(II[B)V"⟩
def RJ7 : String := "java/util/Arrays"
abbrev cJ7_copyOf_c38d5 : ByteArray := prog_27_method_124_code
def yJ7_copyOf_c38d5 : MethodName := ⟨RJ7, "copyOf", "([JI)[J"⟩
def RJ3 : String := "jdk/internal/util/Preconditions"
abbrev cJ3_checkIndex_8e157 : ByteArray := prog_28_method_11_code
def yJ3_checkIndex_8e157 : MethodName := ⟨RJ3, "checkIndex", "(IILjava/util/function/BiFunction;)I"⟩
abbrev cJ3_checkFromToIndex_8c36e : ByteArray := prog_28_method_12_code
def yJ3_checkFromToIndex_8c36e : MethodName := ⟨RJ3, "checkFromToIndex", "(IIILjava/util/function/BiFunction;)I"⟩
def wsX6_init : List Cond := .code yX6_init cX6_init 2 none :: ([.methodLink RX6 1 objectInit, .instanceMethod objectInit, .code objectInit ⟨#[0xb1]⟩ 1 none, .arrayClass .long, .fieldLink RX6 7 "WardenHouse$Row" "cells" "[J"] ++ wsX60)
def wsX0_init : List Cond := .code yX0_init cX0_init 1 none :: ([.methodLink RX0 3 objectInit, .instanceMethod objectInit, .code objectInit ⟨#[0xb1]⟩ 1 none, .classLink RX0 9 RX6, .instantiable RX6 2, .initialized RX6, .fieldLink RX0 14 "WardenHouse$Contexts" "starts" "LWardenHouse$Row;", .fieldLink RX0 20 "WardenHouse$Contexts" "products" "LWardenHouse$Row;", .fieldLink RX0 23 "WardenHouse$Contexts" "chain" "LWardenHouse$Row;", .arrayClass .int, .fieldLink RX0 26 "WardenHouse$Contexts" "heads" "[I", .fieldLink RX0 30 "WardenHouse$Contexts" "draft" "[I", .methodLink RX0 11 yX6_init, .instanceMethod yX6_init, .code yX6_init cX6_init 2 none, .methodLink RX6 1 objectInit, .arrayClass .long, .fieldLink RX6 7 "WardenHouse$Row" "cells" "[J"] ++ wsX60 ++ wsX00)
def wsX6_cut : List Cond := .code yX6_cut cX6_cut 2 none :: ([.fieldLink RX6 13 "WardenHouse$Row" "size" "I"] ++ wsX60)
def wsX0_made : List Cond := .code yX0_made cX0_made 1 (some .int) :: ([.fieldLink RX0 14 "WardenHouse$Contexts" "starts" "LWardenHouse$Row;", .fieldLink RX0 42 "WardenHouse$Row" "size" "I"] ++ wsX00 ++ wsX60)
def wsX6_at : List Cond := .code yX6_at cX6_at 2 (some .int) :: ([.fieldLink RX6 13 "WardenHouse$Row" "size" "I", .fieldLink RX6 7 "WardenHouse$Row" "cells" "[J"] ++ wsX60)
def wsJ7_copyOf_c38d5 : List Cond := .code yJ7_copyOf_c38d5 cJ7_copyOf_c38d5 3 (some (.array .long)) :: ([.methodLink RJ7 319 ⟨"[J", "clone", "()Ljava/lang/Object;"⟩, .sameMethod "[J" "java/lang/Object" "clone" "()Ljava/lang/Object;", .native ⟨"java/lang/Object", "clone", "()Ljava/lang/Object;"⟩, .instanceMethod ⟨"java/lang/Object", "clone", "()Ljava/lang/Object;"⟩, .selects "[J" ⟨"[J", "clone", "()Ljava/lang/Object;"⟩ ⟨"java/lang/Object", "clone", "()Ljava/lang/Object;"⟩, .classLink RJ7 320 "[J", .arrayClass .long, .methodLink RJ7 304 Lib.Math.min.name, .static Lib.Math.min.name, .initialized "java/lang/Math", .code Lib.Math.min.name Lib.Math.min.code 2 (some .int), .methodLink RJ7 150 arraycopyName, .native arraycopyName, .static arraycopyName, .initialized "java/lang/System"])
def wsX6_add : List Cond := .code yX6_add cX6_add 3 none :: ([.fieldLink RX6 13 "WardenHouse$Row" "size" "I", .constant RX6 17 (1048576), .fieldLink RX6 7 "WardenHouse$Row" "cells" "[J", .methodLink RX6 18 yJ7_copyOf_c38d5, .static yJ7_copyOf_c38d5, .initialized RJ7, .code yJ7_copyOf_c38d5 cJ7_copyOf_c38d5 3 (some (.array .long)), .methodLink RJ7 319 ⟨"[J", "clone", "()Ljava/lang/Object;"⟩, .sameMethod "[J" "java/lang/Object" "clone" "()Ljava/lang/Object;", .native ⟨"java/lang/Object", "clone", "()Ljava/lang/Object;"⟩, .instanceMethod ⟨"java/lang/Object", "clone", "()Ljava/lang/Object;"⟩, .selects "[J" ⟨"[J", "clone", "()Ljava/lang/Object;"⟩ ⟨"java/lang/Object", "clone", "()Ljava/lang/Object;"⟩, .classLink RJ7 320 "[J", .arrayClass .long, .methodLink RJ7 304 Lib.Math.min.name, .static Lib.Math.min.name, .initialized "java/lang/Math", .code Lib.Math.min.name Lib.Math.min.code 2 (some .int), .methodLink RJ7 150 arraycopyName, .native arraycopyName, .static arraycopyName, .initialized "java/lang/System"] ++ wsX60)
def wsX7_init : List Cond := .code yX7_init cX7_init 1 none :: ([.methodLink RX7 3 objectInit, .instanceMethod objectInit, .code objectInit ⟨#[0xb1]⟩ 1 none, .arrayClass .int, .fieldLink RX7 9 "WardenHouse$Strand" "units" "[I", .fieldLink RX7 15 "WardenHouse$Strand" "places" "[I", .fieldLink RX7 18 "WardenHouse$Strand" "bases" "[I", .fieldLink RX7 21 "WardenHouse$Strand" "bottoms" "[I", .fieldLink RX7 24 "WardenHouse$Strand" "nodes" "[I", .fieldLink RX7 27 "WardenHouse$Strand" "contexts" "[I", .classLink RX7 30 RX6, .instantiable RX6 2, .initialized RX6, .fieldLink RX7 35 "WardenHouse$Strand" "stack" "LWardenHouse$Row;", .methodLink RX7 32 yX6_init, .instanceMethod yX6_init, .code yX6_init cX6_init 2 none, .methodLink RX6 1 objectInit, .arrayClass .long, .fieldLink RX6 7 "WardenHouse$Row" "cells" "[J"] ++ wsX70 ++ wsX60)
def wsX1_init_r1 : List Cond := [Cond.methodLink RX1 5 objectInit, Cond.instanceMethod objectInit, Cond.code objectInit ⟨#[0xb1]⟩ 1 none, Cond.fieldLink RX1 11 "WardenHouse$Machine" "plan" "LWardenHouse$Plan;", Cond.fieldLink RX1 15 "WardenHouse$Machine" "policy" "LWardenHouse$Policy;", Cond.classLink RX1 19 RX0, Cond.instantiable RX0 6, Cond.initialized RX0, Cond.fieldLink RX1 22 "WardenHouse$Machine" "contexts" "LWardenHouse$Contexts;", Cond.classLink RX1 26 RX7, Cond.fieldLink RX1 28 "WardenHouse$Machine" "strands" "[LWardenHouse$Strand;", Cond.instantiable RX7 18, Cond.initialized RX7, Cond.fieldLink RX1 33 "WardenHouse$Machine" "target" "LWardenHouse$Strand;", Cond.classLink RX1 37 RX6, Cond.instantiable RX6 2, Cond.initialized RX6, Cond.fieldLink RX1 42 "WardenHouse$Machine" "nodes" "LWardenHouse$Row;", Cond.fieldLink RX1 46 "WardenHouse$Machine" "things" "LWardenHouse$Row;", Cond.fieldLink RX1 49 "WardenHouse$Machine" "slots" "LWardenHouse$Row;", Cond.fieldLink RX1 52 "WardenHouse$Machine" "events" "LWardenHouse$Row;", Cond.methodLink RX1 21 yX0_init, Cond.instanceMethod yX0_init, Cond.code yX0_init cX0_init 1 none]
def wsX1_init_r2 : List Cond := [Cond.methodLink RX0 3 objectInit, Cond.classLink RX0 9 RX6, Cond.fieldLink RX0 14 "WardenHouse$Contexts" "starts" "LWardenHouse$Row;", Cond.fieldLink RX0 20 "WardenHouse$Contexts" "products" "LWardenHouse$Row;", Cond.fieldLink RX0 23 "WardenHouse$Contexts" "chain" "LWardenHouse$Row;", Cond.arrayClass .int, Cond.fieldLink RX0 26 "WardenHouse$Contexts" "heads" "[I", Cond.fieldLink RX0 30 "WardenHouse$Contexts" "draft" "[I", Cond.methodLink RX0 11 yX6_init, Cond.instanceMethod yX6_init, Cond.code yX6_init cX6_init 2 none, Cond.methodLink RX6 1 objectInit, Cond.arrayClass .long, Cond.fieldLink RX6 7 "WardenHouse$Row" "cells" "[J", Cond.methodLink RX1 32 yX7_init, Cond.instanceMethod yX7_init, Cond.code yX7_init cX7_init 1 none, Cond.methodLink RX7 3 objectInit, Cond.fieldLink RX7 9 "WardenHouse$Strand" "units" "[I", Cond.fieldLink RX7 15 "WardenHouse$Strand" "places" "[I", Cond.fieldLink RX7 18 "WardenHouse$Strand" "bases" "[I", Cond.fieldLink RX7 21 "WardenHouse$Strand" "bottoms" "[I", Cond.fieldLink RX7 24 "WardenHouse$Strand" "nodes" "[I", Cond.fieldLink RX7 27 "WardenHouse$Strand" "contexts" "[I"]
def wsX1_init_r3 : List Cond := [Cond.classLink RX7 30 RX6, Cond.fieldLink RX7 35 "WardenHouse$Strand" "stack" "LWardenHouse$Row;", Cond.methodLink RX7 32 yX6_init, Cond.methodLink RX1 39 yX6_init]
def wsX1_init : List Cond := .code yX1_init cX1_init 4 none :: ((wsX1_init_r1 ++ (wsX1_init_r2 ++ wsX1_init_r3)) ++ wsX10 ++ wsX00 ++ wsX70 ++ wsX60)
def wsX1_forget : List Cond := .code yX1_forget cX1_forget 1 none :: ([.fieldLink RX1 57 "WardenHouse$Machine" "ran" "Z"] ++ wsX10)
def wsX6_get : List Cond := .code yX6_get cX6_get 2 (some .long) :: ([.fieldLink RX6 13 "WardenHouse$Row" "size" "I", .fieldLink RX6 7 "WardenHouse$Row" "cells" "[J"] ++ wsX60)
def wsX2_unitAt : List Cond := .code yX2_unitAt cX2_unitAt 2 (some (.object "WardenHouse$Unit")) :: ([.fieldLink RX2 17 "WardenHouse$Plan" "units" "[LWardenHouse$Unit;"] ++ wsX20)
def wsX6_pairAt : List Cond := .code yX6_pairAt cX6_pairAt 2 (some .int) :: ([.methodLink RX6 28 yX6_at, .instanceMethod yX6_at, .selects RX6 yX6_at yX6_at, .initialized RX6, .code yX6_at cX6_at 2 (some .int), .fieldLink RX6 13 "WardenHouse$Row" "size" "I", .fieldLink RX6 7 "WardenHouse$Row" "cells" "[J"] ++ wsX60)
def wsX6_pop : List Cond := .code yX6_pop cX6_pop 1 (some .long) :: ([.fieldLink RX6 13 "WardenHouse$Row" "size" "I", .fieldLink RX6 7 "WardenHouse$Row" "cells" "[J"] ++ wsX60)
def wsX6_set : List Cond := .code yX6_set cX6_set 4 none :: ([.fieldLink RX6 13 "WardenHouse$Row" "size" "I", .fieldLink RX6 7 "WardenHouse$Row" "cells" "[J"] ++ wsX60)
def wsX10_codeWith : List Cond := .code yX10_codeWith cX10_codeWith 3 (some .long) :: ([])
def wsX9_init : List Cond := .code yX9_init cX9_init 1 none :: ([.methodLink RX9 3 objectInit, .instanceMethod objectInit, .code objectInit ⟨#[0xb1]⟩ 1 none, .arrayClass .int, .fieldLink RX9 11 "WardenHouse$Unit" "captures" "[I", .classLink RX9 15 RX6, .instantiable RX6 2, .initialized RX6, .fieldLink RX9 20 "WardenHouse$Unit" "script" "LWardenHouse$Row;", .fieldLink RX9 24 "WardenHouse$Unit" "plain" "LWardenHouse$Row;", .fieldLink RX9 27 "WardenHouse$Unit" "rewritten" "LWardenHouse$Row;", .methodLink RX9 17 yX6_init, .instanceMethod yX6_init, .code yX6_init cX6_init 2 none, .methodLink RX6 1 objectInit, .arrayClass .long, .fieldLink RX6 7 "WardenHouse$Row" "cells" "[J"] ++ wsX90 ++ wsX60)
def wsX2_init_r1 : List Cond := [Cond.methodLink RX2 3 objectInit, Cond.instanceMethod objectInit, Cond.code objectInit ⟨#[0xb1]⟩ 1 none, Cond.fieldLink RX2 9 "WardenHouse$Plan" "policy" "LWardenHouse$Policy;", Cond.classLink RX2 15 RX9, Cond.fieldLink RX2 17 "WardenHouse$Plan" "units" "[LWardenHouse$Unit;", Cond.instantiable RX9 18, Cond.initialized RX9, Cond.arrayClass .long, Cond.fieldLink RX2 22 "WardenHouse$Plan" "moduleNames" "[J", Cond.arrayClass .int, Cond.fieldLink RX2 26 "WardenHouse$Plan" "supers" "[I", Cond.fieldLink RX2 30 "WardenHouse$Plan" "fieldNames" "[J", Cond.fieldLink RX2 33 "WardenHouse$Plan" "fieldCounts" "[I", Cond.fieldLink RX2 36 "WardenHouse$Plan" "fieldBases" "[I", Cond.fieldLink RX2 39 "WardenHouse$Plan" "methods" "[I", Cond.fieldLink RX2 42 "WardenHouse$Plan" "methodCounts" "[I", Cond.fieldLink RX2 45 "WardenHouse$Plan" "numbers" "[I", Cond.fieldLink RX2 48 "WardenHouse$Plan" "names" "[J", Cond.fieldLink RX2 51 "WardenHouse$Plan" "places" "[I", Cond.methodLink RX2 21 yX9_init, Cond.instanceMethod yX9_init, Cond.code yX9_init cX9_init 1 none, Cond.methodLink RX9 3 objectInit]
def wsX2_init_r2 : List Cond := [Cond.fieldLink RX9 11 "WardenHouse$Unit" "captures" "[I", Cond.classLink RX9 15 RX6, Cond.instantiable RX6 2, Cond.initialized RX6, Cond.fieldLink RX9 20 "WardenHouse$Unit" "script" "LWardenHouse$Row;", Cond.fieldLink RX9 24 "WardenHouse$Unit" "plain" "LWardenHouse$Row;", Cond.fieldLink RX9 27 "WardenHouse$Unit" "rewritten" "LWardenHouse$Row;", Cond.methodLink RX9 17 yX6_init, Cond.instanceMethod yX6_init, Cond.code yX6_init cX6_init 2 none, Cond.methodLink RX6 1 objectInit, Cond.fieldLink RX6 7 "WardenHouse$Row" "cells" "[J"]
def wsX2_init : List Cond := .code yX2_init cX2_init 3 none :: ((wsX2_init_r1 ++ wsX2_init_r2) ++ wsX20 ++ wsX90 ++ wsX60)
def wsX3_clear : List Cond := .code yX3_clear cX3_clear 1 none :: ([.fieldLink RX3 52 "WardenHouse$Policy" "grantCount" "I", .fieldLink RX3 56 "WardenHouse$Policy" "limitCount" "I", .fieldLink RX3 59 "WardenHouse$Policy" "domainCount" "I", .fieldLink RX3 62 "WardenHouse$Policy" "askingCount" "I"] ++ wsX30)
def wsX2_clear : List Cond := .code yX2_clear cX2_clear 1 none :: ([.fieldLink RX2 9 "WardenHouse$Plan" "policy" "LWardenHouse$Policy;", .fieldLink RX2 59 "WardenHouse$Plan" "unitCount" "I", .fieldLink RX2 63 "WardenHouse$Plan" "moduleCount" "I", .fieldLink RX2 66 "WardenHouse$Plan" "numberCount" "I", .fieldLink RX2 69 "WardenHouse$Plan" "nameCount" "I", .methodLink RX2 54 yX3_clear, .instanceMethod yX3_clear, .selects RX3 yX3_clear yX3_clear, .initialized RX3, .code yX3_clear cX3_clear 1 none, .fieldLink RX3 52 "WardenHouse$Policy" "grantCount" "I", .fieldLink RX3 56 "WardenHouse$Policy" "limitCount" "I", .fieldLink RX3 59 "WardenHouse$Policy" "domainCount" "I", .fieldLink RX3 62 "WardenHouse$Policy" "askingCount" "I"] ++ wsX20 ++ wsX30)
def wsX6_addPair_r1 : List Cond := [Cond.methodLink RX6 24 yX6_add, Cond.instanceMethod yX6_add, Cond.selects RX6 yX6_add yX6_add, Cond.initialized RX6, Cond.code yX6_add cX6_add 3 none, Cond.fieldLink RX6 13 "WardenHouse$Row" "size" "I", Cond.constant RX6 17 (1048576), Cond.fieldLink RX6 7 "WardenHouse$Row" "cells" "[J", Cond.methodLink RX6 18 yJ7_copyOf_c38d5, Cond.static yJ7_copyOf_c38d5, Cond.initialized RJ7, Cond.code yJ7_copyOf_c38d5 cJ7_copyOf_c38d5 3 (some (.array .long)), Cond.methodLink RJ7 319 ⟨"[J", "clone", "()Ljava/lang/Object;"⟩, Cond.sameMethod "[J" "java/lang/Object" "clone" "()Ljava/lang/Object;", Cond.native ⟨"java/lang/Object", "clone", "()Ljava/lang/Object;"⟩, Cond.instanceMethod ⟨"java/lang/Object", "clone", "()Ljava/lang/Object;"⟩, Cond.selects "[J" ⟨"[J", "clone", "()Ljava/lang/Object;"⟩ ⟨"java/lang/Object", "clone", "()Ljava/lang/Object;"⟩, Cond.classLink RJ7 320 "[J", Cond.arrayClass .long, Cond.methodLink RJ7 304 Lib.Math.min.name, Cond.static Lib.Math.min.name, Cond.initialized "java/lang/Math", Cond.code Lib.Math.min.name Lib.Math.min.code 2 (some .int), Cond.methodLink RJ7 150 arraycopyName]
def wsX6_addPair_r2 : List Cond := [Cond.native arraycopyName, Cond.static arraycopyName, Cond.initialized "java/lang/System"]
def wsX6_addPair : List Cond := .code yX6_addPair cX6_addPair 2 none :: ((wsX6_addPair_r1 ++ wsX6_addPair_r2) ++ wsX60)
def wsX5_init : List Cond := .code yX5_init cX5_init 1 none :: ([.methodLink RX5 3 objectInit, .instanceMethod objectInit, .code objectInit ⟨#[0xb1]⟩ 1 none, .arrayClass .long, .fieldLink RX5 9 "WardenHouse$Right" "steps" "[J"] ++ wsX50)
def wsX3_rightsOf : List Cond := .code yX3_rightsOf cX3_rightsOf 3 (some (.array (.object "WardenHouse$Right"))) :: ([.classLink RX3 45 RX5, .instantiable RX5 4, .initialized RX5, .methodLink RX3 47 yX5_init, .instanceMethod yX5_init, .code yX5_init cX5_init 1 none, .methodLink RX5 3 objectInit, .instanceMethod objectInit, .code objectInit ⟨#[0xb1]⟩ 1 none, .arrayClass .long, .fieldLink RX5 9 "WardenHouse$Right" "steps" "[J"] ++ wsX50)
def wsX3_init_r1 : List Cond := [Cond.methodLink RX3 5 objectInit, Cond.instanceMethod objectInit, Cond.code objectInit ⟨#[0xb1]⟩ 1 none, Cond.fieldLink RX3 15 "WardenHouse$Policy" "grants" "[LWardenHouse$Right;", Cond.fieldLink RX3 19 "WardenHouse$Policy" "rights" "[LWardenHouse$Right;", Cond.arrayClass .int, Cond.fieldLink RX3 22 "WardenHouse$Policy" "grantSizes" "[I", Cond.fieldLink RX3 26 "WardenHouse$Policy" "limitSizes" "[I", Cond.fieldLink RX3 29 "WardenHouse$Policy" "domainSets" "[I", Cond.fieldLink RX3 32 "WardenHouse$Policy" "moduleDomains" "[I", Cond.fieldLink RX3 35 "WardenHouse$Policy" "askings" "[LWardenHouse$Right;", Cond.arrayClass .boolean, Cond.fieldLink RX3 38 "WardenHouse$Policy" "askingIndexed" "[Z", Cond.fieldLink RX3 42 "WardenHouse$Policy" "askingHolders" "[I", Cond.classLink RX3 45 RX5, Cond.instantiable RX5 4, Cond.initialized RX5, Cond.fieldLink RX3 48 "WardenHouse$Policy" "goal" "LWardenHouse$Right;", Cond.methodLink RX3 11 yX3_rightsOf, Cond.static yX3_rightsOf, Cond.initialized RX3, Cond.code yX3_rightsOf cX3_rightsOf 3 (some (.array (.object "WardenHouse$Right"))), Cond.methodLink RX3 47 yX5_init, Cond.instanceMethod yX5_init]
def wsX3_init_r2 : List Cond := [Cond.code yX5_init cX5_init 1 none, Cond.methodLink RX5 3 objectInit, Cond.arrayClass .long, Cond.fieldLink RX5 9 "WardenHouse$Right" "steps" "[J"]
def wsX3_init : List Cond := .code yX3_init cX3_init 1 none :: ((wsX3_init_r1 ++ wsX3_init_r2) ++ wsX30 ++ wsX50)
def wsX4_init_r1 : List Cond := [Cond.methodLink RX4 3 objectInit, Cond.instanceMethod objectInit, Cond.code objectInit ⟨#[0xb1]⟩ 1 none, Cond.fieldLink RX4 9 "WardenHouse$Reader" "words" "LWardenHouse$Words;", Cond.fieldLink RX4 15 "WardenHouse$Reader" "plan" "LWardenHouse$Plan;", Cond.fieldLink RX4 19 "WardenHouse$Reader" "policy" "LWardenHouse$Policy;", Cond.classLink RX4 23 RX5, Cond.instantiable RX5 4, Cond.initialized RX5, Cond.fieldLink RX4 26 "WardenHouse$Reader" "pattern" "LWardenHouse$Right;", Cond.arrayClass .long, Cond.fieldLink RX4 30 "WardenHouse$Reader" "scopeNames" "[J", Cond.arrayClass .int, Cond.fieldLink RX4 34 "WardenHouse$Reader" "scopeKeys" "[I", Cond.fieldLink RX4 44 "WardenHouse$Reader" "method" "LWardenHouse$Unit;", Cond.fieldLink RX4 48 "WardenHouse$Reader" "now" "LWardenHouse$Unit;", Cond.fieldLink RX4 51 "WardenHouse$Reader" "faultPlace" "I", Cond.methodLink RX4 25 yX5_init, Cond.instanceMethod yX5_init, Cond.code yX5_init cX5_init 1 none, Cond.methodLink RX5 3 objectInit, Cond.fieldLink RX5 9 "WardenHouse$Right" "steps" "[J", Cond.methodLink RX4 38 yX2_unitAt, Cond.instanceMethod yX2_unitAt]
def wsX4_init_r2 : List Cond := [Cond.selects RX2 yX2_unitAt yX2_unitAt, Cond.initialized RX2, Cond.code yX2_unitAt cX2_unitAt 2 (some (.object "WardenHouse$Unit")), Cond.fieldLink RX2 17 "WardenHouse$Plan" "units" "[LWardenHouse$Unit;"]
def wsX4_init : List Cond := .code yX4_init cX4_init 4 none :: ((wsX4_init_r1 ++ wsX4_init_r2) ++ wsX40 ++ wsX50 ++ wsX20)
def wsX10_advance : List Cond := .code yX10_advance cX10_advance 1 none :: ([.fieldLink RX10 20 "WardenHouse$Words" "found" "LWardenHouse$Row;", .fieldLink RX10 56 "WardenHouse$Words" "next" "I", .fieldLink RX10 73 "WardenHouse$Words" "kind" "I", .fieldLink RX10 76 "WardenHouse$Words" "at" "I", .fieldLink RX10 82 "WardenHouse$Words" "value" "J", .methodLink RX10 69 yX6_at, .instanceMethod yX6_at, .selects RX6 yX6_at yX6_at, .initialized RX6, .code yX6_at cX6_at 2 (some .int), .fieldLink RX6 13 "WardenHouse$Row" "size" "I", .fieldLink RX6 7 "WardenHouse$Row" "cells" "[J", .methodLink RX10 78 yX6_get, .instanceMethod yX6_get, .selects RX6 yX6_get yX6_get, .code yX6_get cX6_get 2 (some .long)] ++ wsX100 ++ wsX60)
def wsX8_init : List Cond := .code yX8_init cX8_init 2 none :: ([.methodLink RX8 3 objectInit, .instanceMethod objectInit, .code objectInit ⟨#[0xb1]⟩ 1 none, .fieldLink RX8 9 "WardenHouse$Survey" "plan" "LWardenHouse$Plan;", .arrayClass .int, .fieldLink RX8 15 "WardenHouse$Survey" "may" "[I"] ++ wsX80)
def wsX8_forget : List Cond := .code yX8_forget cX8_forget 1 none :: ([.fieldLink RX8 19 "WardenHouse$Survey" "done" "Z"] ++ wsX80)
def wsJ0_length_8abf5 : List Cond := .code yJ0_length_8abf5 cJ0_length_8abf5 1 (some .int) :: ([.fieldLink RJ0 9 "java/lang/String" "value" "[B", .methodLink RJ0 335 yJ0_coder_7d493, .instanceMethod yJ0_coder_7d493, .selects RJ0 yJ0_coder_7d493 yJ0_coder_7d493, .initialized RJ0, .code yJ0_coder_7d493 cJ0_coder_7d493 1 (some .byte), .fieldLink RJ0 38 "java/lang/String" "COMPACT_STRINGS" "Z", .fieldLink RJ0 15 "java/lang/String" "coder" "B"])
def wsJ0_charAt_5068e_r1 : List Cond := [Cond.fieldLink RJ0 9 "java/lang/String" "value" "[B", Cond.methodLink RJ0 492 yJ0_isLatin1_aae02, Cond.instanceMethod yJ0_isLatin1_aae02, Cond.selects RJ0 yJ0_isLatin1_aae02 yJ0_isLatin1_aae02, Cond.initialized RJ0, Cond.code yJ0_isLatin1_aae02 cJ0_isLatin1_aae02 1 (some .boolean), Cond.fieldLink RJ0 38 "java/lang/String" "COMPACT_STRINGS" "Z", Cond.fieldLink RJ0 15 "java/lang/String" "coder" "B", Cond.methodLink RJ0 495 yJ1_charAt_3b067, Cond.static yJ1_charAt_3b067, Cond.initialized RJ1, Cond.code yJ1_charAt_3b067 cJ1_charAt_3b067 2 (some .char), Cond.methodLink RJ1 9 yJ0_checkIndex_df160, Cond.static yJ0_checkIndex_df160, Cond.code yJ0_checkIndex_df160 cJ0_checkIndex_df160 2 none, Cond.fieldLink RJ0 1053 "jdk/internal/util/Preconditions" "SIOOBE_FORMATTER" "Ljava/util/function/BiFunction;", Cond.methodLink RJ0 1059 yJ3_checkIndex_8e157, Cond.static yJ3_checkIndex_8e157, Cond.initialized RJ3, Cond.code yJ3_checkIndex_8e157 cJ3_checkIndex_8e157 3 (some .int), Cond.methodLink RJ0 498 yJ2_charAt_3b067, Cond.static yJ2_charAt_3b067, Cond.initialized RJ2, Cond.code yJ2_charAt_3b067 cJ2_charAt_3b067 2 (some .char)]
def wsJ0_charAt_5068e_r2 : List Cond := [Cond.methodLink RJ2 67 yJ2_checkIndex_2214a, Cond.static yJ2_checkIndex_2214a, Cond.code yJ2_checkIndex_2214a cJ2_checkIndex_2214a 2 none, Cond.methodLink RJ2 48 yJ2_length_9d52b, Cond.static yJ2_length_9d52b, Cond.code yJ2_length_9d52b cJ2_length_9d52b 1 (some .int), Cond.methodLink RJ2 414 yJ0_checkIndex_df160, Cond.methodLink RJ2 71 yJ2_getChar_3b067, Cond.static yJ2_getChar_3b067, Cond.code yJ2_getChar_3b067 cJ2_getChar_3b067 2 (some .char), Cond.fieldLink RJ2 44 "java/lang/StringUTF16" "$assertionsDisabled" "Z", Cond.fieldLink RJ2 59 "java/lang/StringUTF16" "HI_BYTE_SHIFT" "I", Cond.fieldLink RJ2 63 "java/lang/StringUTF16" "LO_BYTE_SHIFT" "I"]
def wsJ0_charAt_5068e : List Cond := .code yJ0_charAt_5068e cJ0_charAt_5068e 2 (some .char) :: ((wsJ0_charAt_5068e_r1 ++ wsJ0_charAt_5068e_r2))
def wsX10_init_r1 : List Cond := [Cond.methodLink RX10 3 objectInit, Cond.instanceMethod objectInit, Cond.code objectInit ⟨#[0xb1]⟩ 1 none, Cond.arrayClass .long, Cond.fieldLink RX10 11 "WardenHouse$Words" "keywords" "[J", Cond.classLink RX10 15 RX6, Cond.instantiable RX6 2, Cond.initialized RX6, Cond.fieldLink RX10 20 "WardenHouse$Words" "found" "LWardenHouse$Row;", Cond.fieldLink RX10 24 "WardenHouse$Words" "patterns" "LWardenHouse$Row;", Cond.arrayClass .byte, Cond.fieldLink RX10 27 "WardenHouse$Words" "text" "[B", Cond.methodLink RX10 17 yX6_init, Cond.instanceMethod yX6_init, Cond.code yX6_init cX6_init 2 none, Cond.methodLink RX6 1 objectInit, Cond.fieldLink RX6 7 "WardenHouse$Row" "cells" "[J", Cond.methodLink RX10 33 yJ0_length_8abf5, Cond.instanceMethod yJ0_length_8abf5, Cond.selects RJ0 yJ0_length_8abf5 yJ0_length_8abf5, Cond.initialized RJ0, Cond.code yJ0_length_8abf5 cJ0_length_8abf5 1 (some .int), Cond.fieldLink RJ0 9 "java/lang/String" "value" "[B", Cond.methodLink RJ0 335 yJ0_coder_7d493]
def wsX10_init_r2 : List Cond := [Cond.instanceMethod yJ0_coder_7d493, Cond.selects RJ0 yJ0_coder_7d493 yJ0_coder_7d493, Cond.code yJ0_coder_7d493 cJ0_coder_7d493 1 (some .byte), Cond.fieldLink RJ0 38 "java/lang/String" "COMPACT_STRINGS" "Z", Cond.fieldLink RJ0 15 "java/lang/String" "coder" "B", Cond.methodLink RX10 39 yJ0_charAt_5068e, Cond.instanceMethod yJ0_charAt_5068e, Cond.selects RJ0 yJ0_charAt_5068e yJ0_charAt_5068e, Cond.code yJ0_charAt_5068e cJ0_charAt_5068e 2 (some .char), Cond.methodLink RJ0 492 yJ0_isLatin1_aae02, Cond.instanceMethod yJ0_isLatin1_aae02, Cond.selects RJ0 yJ0_isLatin1_aae02 yJ0_isLatin1_aae02, Cond.code yJ0_isLatin1_aae02 cJ0_isLatin1_aae02 1 (some .boolean), Cond.methodLink RJ0 495 yJ1_charAt_3b067, Cond.static yJ1_charAt_3b067, Cond.initialized RJ1, Cond.code yJ1_charAt_3b067 cJ1_charAt_3b067 2 (some .char), Cond.methodLink RJ1 9 yJ0_checkIndex_df160, Cond.static yJ0_checkIndex_df160, Cond.code yJ0_checkIndex_df160 cJ0_checkIndex_df160 2 none, Cond.fieldLink RJ0 1053 "jdk/internal/util/Preconditions" "SIOOBE_FORMATTER" "Ljava/util/function/BiFunction;", Cond.methodLink RJ0 1059 yJ3_checkIndex_8e157, Cond.static yJ3_checkIndex_8e157, Cond.initialized RJ3]
def wsX10_init_r3 : List Cond := [Cond.code yJ3_checkIndex_8e157 cJ3_checkIndex_8e157 3 (some .int), Cond.methodLink RJ0 498 yJ2_charAt_3b067, Cond.static yJ2_charAt_3b067, Cond.initialized RJ2, Cond.code yJ2_charAt_3b067 cJ2_charAt_3b067 2 (some .char), Cond.methodLink RJ2 67 yJ2_checkIndex_2214a, Cond.static yJ2_checkIndex_2214a, Cond.code yJ2_checkIndex_2214a cJ2_checkIndex_2214a 2 none, Cond.methodLink RJ2 48 yJ2_length_9d52b, Cond.static yJ2_length_9d52b, Cond.code yJ2_length_9d52b cJ2_length_9d52b 1 (some .int), Cond.methodLink RJ2 414 yJ0_checkIndex_df160, Cond.methodLink RJ2 71 yJ2_getChar_3b067, Cond.static yJ2_getChar_3b067, Cond.code yJ2_getChar_3b067 cJ2_getChar_3b067 2 (some .char), Cond.fieldLink RJ2 44 "java/lang/StringUTF16" "$assertionsDisabled" "Z", Cond.fieldLink RJ2 59 "java/lang/StringUTF16" "HI_BYTE_SHIFT" "I", Cond.fieldLink RJ2 63 "java/lang/StringUTF16" "LO_BYTE_SHIFT" "I", Cond.methodLink RX10 43 yX10_codeWith, Cond.static yX10_codeWith, Cond.initialized RX10, Cond.code yX10_codeWith cX10_codeWith 3 (some .long)]
def wsX10_init : List Cond := .code yX10_init cX10_init 5 none :: ((wsX10_init_r1 ++ (wsX10_init_r2 ++ wsX10_init_r3)) ++ wsX100 ++ wsX60)
def wsX10_isLetter : List Cond := .code yX10_isLetter cX10_isLetter 1 (some .boolean) :: ([])
def wsX10_isDigit : List Cond := .code yX10_isDigit cX10_isDigit 1 (some .boolean) :: ([])
def wsX10_byteAt : List Cond := .code yX10_byteAt cX10_byteAt 2 (some .int) :: ([.fieldLink RX10 47 "WardenHouse$Words" "length" "I", .fieldLink RX10 27 "WardenHouse$Words" "text" "[B"] ++ wsX100)
def wsX10_skipBlanks : List Cond := .code yX10_skipBlanks cX10_skipBlanks 3 none :: ([.fieldLink RX10 53 "WardenHouse$Words" "place" "I", .fieldLink RX10 47 "WardenHouse$Words" "length" "I", .methodLink RX10 101 yX10_byteAt, .instanceMethod yX10_byteAt, .selects RX10 yX10_byteAt yX10_byteAt, .initialized RX10, .code yX10_byteAt cX10_byteAt 2 (some .int), .fieldLink RX10 27 "WardenHouse$Words" "text" "[B"] ++ wsX100)
def wsX10_addWord_r1 : List Cond := [Cond.fieldLink RX10 20 "WardenHouse$Words" "found" "LWardenHouse$Row;", Cond.methodLink RX10 111 yX6_add, Cond.instanceMethod yX6_add, Cond.selects RX6 yX6_add yX6_add, Cond.initialized RX6, Cond.code yX6_add cX6_add 3 none, Cond.fieldLink RX6 13 "WardenHouse$Row" "size" "I", Cond.constant RX6 17 (1048576), Cond.fieldLink RX6 7 "WardenHouse$Row" "cells" "[J", Cond.methodLink RX6 18 yJ7_copyOf_c38d5, Cond.static yJ7_copyOf_c38d5, Cond.initialized RJ7, Cond.code yJ7_copyOf_c38d5 cJ7_copyOf_c38d5 3 (some (.array .long)), Cond.methodLink RJ7 319 ⟨"[J", "clone", "()Ljava/lang/Object;"⟩, Cond.sameMethod "[J" "java/lang/Object" "clone" "()Ljava/lang/Object;", Cond.native ⟨"java/lang/Object", "clone", "()Ljava/lang/Object;"⟩, Cond.instanceMethod ⟨"java/lang/Object", "clone", "()Ljava/lang/Object;"⟩, Cond.selects "[J" ⟨"[J", "clone", "()Ljava/lang/Object;"⟩ ⟨"java/lang/Object", "clone", "()Ljava/lang/Object;"⟩, Cond.classLink RJ7 320 "[J", Cond.arrayClass .long, Cond.methodLink RJ7 304 Lib.Math.min.name, Cond.static Lib.Math.min.name, Cond.initialized "java/lang/Math", Cond.code Lib.Math.min.name Lib.Math.min.code 2 (some .int)]
def wsX10_addWord_r2 : List Cond := [Cond.methodLink RJ7 150 arraycopyName, Cond.native arraycopyName, Cond.static arraycopyName, Cond.initialized "java/lang/System"]
def wsX10_addWord : List Cond := .code yX10_addWord cX10_addWord 5 none :: ((wsX10_addWord_r1 ++ wsX10_addWord_r2) ++ wsX100 ++ wsX60)
def wsX10_findName_r1 : List Cond := [Cond.fieldLink RX10 53 "WardenHouse$Words" "place" "I", Cond.fieldLink RX10 47 "WardenHouse$Words" "length" "I", Cond.fieldLink RX10 11 "WardenHouse$Words" "keywords" "[J", Cond.methodLink RX10 136 yX10_stepCharAt, Cond.instanceMethod yX10_stepCharAt, Cond.selects RX10 yX10_stepCharAt yX10_stepCharAt, Cond.initialized RX10, Cond.code yX10_stepCharAt cX10_stepCharAt 3 (some .boolean), Cond.methodLink RX10 101 yX10_byteAt, Cond.instanceMethod yX10_byteAt, Cond.selects RX10 yX10_byteAt yX10_byteAt, Cond.code yX10_byteAt cX10_byteAt 2 (some .int), Cond.fieldLink RX10 27 "WardenHouse$Words" "text" "[B", Cond.methodLink RX10 104 yX10_isLetter, Cond.static yX10_isLetter, Cond.code yX10_isLetter cX10_isLetter 1 (some .boolean), Cond.methodLink RX10 108 yX10_isDigit, Cond.static yX10_isDigit, Cond.code yX10_isDigit cX10_isDigit 1 (some .boolean), Cond.methodLink RX10 43 yX10_codeWith, Cond.static yX10_codeWith, Cond.code yX10_codeWith cX10_codeWith 3 (some .long), Cond.methodLink RX10 117 yX10_addWord, Cond.instanceMethod yX10_addWord]
def wsX10_findName_r2 : List Cond := [Cond.selects RX10 yX10_addWord yX10_addWord, Cond.code yX10_addWord cX10_addWord 5 none, Cond.fieldLink RX10 20 "WardenHouse$Words" "found" "LWardenHouse$Row;", Cond.methodLink RX10 111 yX6_add, Cond.instanceMethod yX6_add, Cond.selects RX6 yX6_add yX6_add, Cond.initialized RX6, Cond.code yX6_add cX6_add 3 none, Cond.fieldLink RX6 13 "WardenHouse$Row" "size" "I", Cond.constant RX6 17 (1048576), Cond.fieldLink RX6 7 "WardenHouse$Row" "cells" "[J", Cond.methodLink RX6 18 yJ7_copyOf_c38d5, Cond.static yJ7_copyOf_c38d5, Cond.initialized RJ7, Cond.code yJ7_copyOf_c38d5 cJ7_copyOf_c38d5 3 (some (.array .long)), Cond.methodLink RJ7 319 ⟨"[J", "clone", "()Ljava/lang/Object;"⟩, Cond.sameMethod "[J" "java/lang/Object" "clone" "()Ljava/lang/Object;", Cond.native ⟨"java/lang/Object", "clone", "()Ljava/lang/Object;"⟩, Cond.instanceMethod ⟨"java/lang/Object", "clone", "()Ljava/lang/Object;"⟩, Cond.selects "[J" ⟨"[J", "clone", "()Ljava/lang/Object;"⟩ ⟨"java/lang/Object", "clone", "()Ljava/lang/Object;"⟩, Cond.classLink RJ7 320 "[J", Cond.arrayClass .long, Cond.methodLink RJ7 304 Lib.Math.min.name, Cond.static Lib.Math.min.name]
def wsX10_findName_r3 : List Cond := [Cond.initialized "java/lang/Math", Cond.code Lib.Math.min.name Lib.Math.min.code 2 (some .int), Cond.methodLink RJ7 150 arraycopyName, Cond.native arraycopyName, Cond.static arraycopyName, Cond.initialized "java/lang/System"]
def wsX10_findName : List Cond := .code yX10_findName cX10_findName 6 none :: ((wsX10_findName_r1 ++ (wsX10_findName_r2 ++ wsX10_findName_r3)) ++ wsX100 ++ wsX60)
def wsX10_findNumber_r1 : List Cond := [Cond.fieldLink RX10 53 "WardenHouse$Words" "place" "I", Cond.fieldLink RX10 47 "WardenHouse$Words" "length" "I", Cond.constantLong RX10 139 (2147483647), Cond.constantLong RX10 141 (10), Cond.methodLink RX10 101 yX10_byteAt, Cond.instanceMethod yX10_byteAt, Cond.selects RX10 yX10_byteAt yX10_byteAt, Cond.initialized RX10, Cond.code yX10_byteAt cX10_byteAt 2 (some .int), Cond.fieldLink RX10 27 "WardenHouse$Words" "text" "[B", Cond.methodLink RX10 108 yX10_isDigit, Cond.static yX10_isDigit, Cond.code yX10_isDigit cX10_isDigit 1 (some .boolean), Cond.methodLink RX10 117 yX10_addWord, Cond.instanceMethod yX10_addWord, Cond.selects RX10 yX10_addWord yX10_addWord, Cond.code yX10_addWord cX10_addWord 5 none, Cond.fieldLink RX10 20 "WardenHouse$Words" "found" "LWardenHouse$Row;", Cond.methodLink RX10 111 yX6_add, Cond.instanceMethod yX6_add, Cond.selects RX6 yX6_add yX6_add, Cond.initialized RX6, Cond.code yX6_add cX6_add 3 none, Cond.fieldLink RX6 13 "WardenHouse$Row" "size" "I"]
def wsX10_findNumber_r2 : List Cond := [Cond.constant RX6 17 (1048576), Cond.fieldLink RX6 7 "WardenHouse$Row" "cells" "[J", Cond.methodLink RX6 18 yJ7_copyOf_c38d5, Cond.static yJ7_copyOf_c38d5, Cond.initialized RJ7, Cond.code yJ7_copyOf_c38d5 cJ7_copyOf_c38d5 3 (some (.array .long)), Cond.methodLink RJ7 319 ⟨"[J", "clone", "()Ljava/lang/Object;"⟩, Cond.sameMethod "[J" "java/lang/Object" "clone" "()Ljava/lang/Object;", Cond.native ⟨"java/lang/Object", "clone", "()Ljava/lang/Object;"⟩, Cond.instanceMethod ⟨"java/lang/Object", "clone", "()Ljava/lang/Object;"⟩, Cond.selects "[J" ⟨"[J", "clone", "()Ljava/lang/Object;"⟩ ⟨"java/lang/Object", "clone", "()Ljava/lang/Object;"⟩, Cond.classLink RJ7 320 "[J", Cond.arrayClass .long, Cond.methodLink RJ7 304 Lib.Math.min.name, Cond.static Lib.Math.min.name, Cond.initialized "java/lang/Math", Cond.code Lib.Math.min.name Lib.Math.min.code 2 (some .int), Cond.methodLink RJ7 150 arraycopyName, Cond.native arraycopyName, Cond.static arraycopyName, Cond.initialized "java/lang/System"]
def wsX10_findNumber : List Cond := .code yX10_findNumber cX10_findNumber 4 none :: ((wsX10_findNumber_r1 ++ wsX10_findNumber_r2) ++ wsX100 ++ wsX60)
def wsX10_findPattern_r1 : List Cond := [Cond.fieldLink RX10 53 "WardenHouse$Words" "place" "I", Cond.fieldLink RX10 24 "WardenHouse$Words" "patterns" "LWardenHouse$Row;", Cond.fieldLink RX10 133 "WardenHouse$Row" "size" "I", Cond.constantLong RX10 150 (2), Cond.fieldLink RX10 50 "WardenHouse$Words" "mostSteps" "I", Cond.methodLink RX10 111 yX6_add, Cond.instanceMethod yX6_add, Cond.selects RX6 yX6_add yX6_add, Cond.initialized RX6, Cond.code yX6_add cX6_add 3 none, Cond.fieldLink RX6 13 "WardenHouse$Row" "size" "I", Cond.constant RX6 17 (1048576), Cond.fieldLink RX6 7 "WardenHouse$Row" "cells" "[J", Cond.methodLink RX6 18 yJ7_copyOf_c38d5, Cond.static yJ7_copyOf_c38d5, Cond.initialized RJ7, Cond.code yJ7_copyOf_c38d5 cJ7_copyOf_c38d5 3 (some (.array .long)), Cond.methodLink RJ7 319 ⟨"[J", "clone", "()Ljava/lang/Object;"⟩, Cond.sameMethod "[J" "java/lang/Object" "clone" "()Ljava/lang/Object;", Cond.native ⟨"java/lang/Object", "clone", "()Ljava/lang/Object;"⟩, Cond.instanceMethod ⟨"java/lang/Object", "clone", "()Ljava/lang/Object;"⟩, Cond.selects "[J" ⟨"[J", "clone", "()Ljava/lang/Object;"⟩ ⟨"java/lang/Object", "clone", "()Ljava/lang/Object;"⟩, Cond.classLink RJ7 320 "[J", Cond.arrayClass .long]
def wsX10_findPattern_r2 : List Cond := [Cond.methodLink RJ7 304 Lib.Math.min.name, Cond.static Lib.Math.min.name, Cond.initialized "java/lang/Math", Cond.code Lib.Math.min.name Lib.Math.min.code 2 (some .int), Cond.methodLink RJ7 150 arraycopyName, Cond.native arraycopyName, Cond.static arraycopyName, Cond.initialized "java/lang/System", Cond.methodLink RX10 101 yX10_byteAt, Cond.instanceMethod yX10_byteAt, Cond.selects RX10 yX10_byteAt yX10_byteAt, Cond.initialized RX10, Cond.code yX10_byteAt cX10_byteAt 2 (some .int), Cond.fieldLink RX10 47 "WardenHouse$Words" "length" "I", Cond.fieldLink RX10 27 "WardenHouse$Words" "text" "[B", Cond.methodLink RX10 136 yX10_stepCharAt, Cond.instanceMethod yX10_stepCharAt, Cond.selects RX10 yX10_stepCharAt yX10_stepCharAt, Cond.code yX10_stepCharAt cX10_stepCharAt 3 (some .boolean), Cond.methodLink RX10 104 yX10_isLetter, Cond.static yX10_isLetter, Cond.code yX10_isLetter cX10_isLetter 1 (some .boolean), Cond.methodLink RX10 108 yX10_isDigit, Cond.static yX10_isDigit]
def wsX10_findPattern_r3 : List Cond := [Cond.code yX10_isDigit cX10_isDigit 1 (some .boolean), Cond.methodLink RX10 143 yX10_findStep, Cond.instanceMethod yX10_findStep, Cond.selects RX10 yX10_findStep yX10_findStep, Cond.code yX10_findStep cX10_findStep 4 (some .boolean), Cond.methodLink RX10 43 yX10_codeWith, Cond.static yX10_codeWith, Cond.code yX10_codeWith cX10_codeWith 3 (some .long), Cond.methodLink RX10 146 yX6_set, Cond.instanceMethod yX6_set, Cond.selects RX6 yX6_set yX6_set, Cond.code yX6_set cX6_set 4 none, Cond.methodLink RX10 117 yX10_addWord, Cond.instanceMethod yX10_addWord, Cond.selects RX10 yX10_addWord yX10_addWord, Cond.code yX10_addWord cX10_addWord 5 none, Cond.fieldLink RX10 20 "WardenHouse$Words" "found" "LWardenHouse$Row;"]
def wsX10_findPattern : List Cond := .code yX10_findPattern cX10_findPattern 6 none :: ((wsX10_findPattern_r1 ++ (wsX10_findPattern_r2 ++ wsX10_findPattern_r3)) ++ wsX100 ++ wsX60)
def wsX10_findSign_r1 : List Cond := [Cond.fieldLink RX10 53 "WardenHouse$Words" "place" "I", Cond.methodLink RX10 154 yJ0_indexOf_0f7a4, Cond.instanceMethod yJ0_indexOf_0f7a4, Cond.selects RJ0 yJ0_indexOf_0f7a4 yJ0_indexOf_0f7a4, Cond.initialized RJ0, Cond.code yJ0_indexOf_0f7a4 cJ0_indexOf_0f7a4 2 (some .int), Cond.methodLink RJ0 633 yJ0_indexOf_7cf53, Cond.instanceMethod yJ0_indexOf_7cf53, Cond.selects RJ0 yJ0_indexOf_7cf53 yJ0_indexOf_7cf53, Cond.code yJ0_indexOf_7cf53 cJ0_indexOf_7cf53 3 (some .int), Cond.fieldLink RJ0 9 "java/lang/String" "value" "[B", Cond.methodLink RJ0 492 yJ0_isLatin1_aae02, Cond.instanceMethod yJ0_isLatin1_aae02, Cond.selects RJ0 yJ0_isLatin1_aae02 yJ0_isLatin1_aae02, Cond.code yJ0_isLatin1_aae02 cJ0_isLatin1_aae02 1 (some .boolean), Cond.fieldLink RJ0 38 "java/lang/String" "COMPACT_STRINGS" "Z", Cond.fieldLink RJ0 15 "java/lang/String" "coder" "B", Cond.methodLink RJ0 505 yJ0_length_8abf5, Cond.instanceMethod yJ0_length_8abf5, Cond.selects RJ0 yJ0_length_8abf5 yJ0_length_8abf5, Cond.code yJ0_length_8abf5 cJ0_length_8abf5 1 (some .int), Cond.methodLink RJ0 335 yJ0_coder_7d493, Cond.instanceMethod yJ0_coder_7d493, Cond.selects RJ0 yJ0_coder_7d493 yJ0_coder_7d493]
def wsX10_findSign_r2 : List Cond := [Cond.code yJ0_coder_7d493 cJ0_coder_7d493 1 (some .byte), Cond.methodLink RJ0 637 yJ1_indexOf_4cfef, Cond.static yJ1_indexOf_4cfef, Cond.initialized RJ1, Cond.code yJ1_indexOf_4cfef cJ1_indexOf_4cfef 4 (some .int), Cond.methodLink RJ1 92 Lib.Math.max.name, Cond.static Lib.Math.max.name, Cond.initialized "java/lang/Math", Cond.code Lib.Math.max.name Lib.Math.max.code 2 (some .int), Cond.methodLink RJ1 38 Lib.Math.min.name, Cond.static Lib.Math.min.name, Cond.code Lib.Math.min.name Lib.Math.min.code 2 (some .int), Cond.methodLink RJ1 88 yJ1_canEncode_9a6ad, Cond.static yJ1_canEncode_9a6ad, Cond.code yJ1_canEncode_9a6ad cJ1_canEncode_9a6ad 1 (some .boolean), Cond.methodLink RJ1 95 yJ1_indexOfChar_4cfef, Cond.static yJ1_indexOfChar_4cfef, Cond.code yJ1_indexOfChar_4cfef cJ1_indexOfChar_4cfef 6 (some .int), Cond.methodLink RJ0 640 yJ2_indexOf_4cfef, Cond.static yJ2_indexOf_4cfef, Cond.initialized RJ2, Cond.code yJ2_indexOf_4cfef cJ2_indexOf_4cfef 4 (some .int), Cond.methodLink RJ2 224 Lib.Math.max.name, Cond.methodLink RJ2 183 Lib.Math.min.name]
def wsX10_findSign_r3 : List Cond := [Cond.constant RJ2 227 (65536), Cond.methodLink RJ2 228 yJ2_indexOfChar_4cfef, Cond.static yJ2_indexOfChar_4cfef, Cond.code yJ2_indexOfChar_4cfef cJ2_indexOfChar_4cfef 4 (some .int), Cond.methodLink RJ2 96 yJ2_checkBoundsBeginEnd_d044e, Cond.static yJ2_checkBoundsBeginEnd_d044e, Cond.code yJ2_checkBoundsBeginEnd_d044e cJ2_checkBoundsBeginEnd_d044e 3 none, Cond.methodLink RJ2 48 yJ2_length_9d52b, Cond.static yJ2_length_9d52b, Cond.code yJ2_length_9d52b cJ2_length_9d52b 1 (some .int), Cond.methodLink RJ2 241 yJ0_checkBoundsBeginEnd_23922, Cond.static yJ0_checkBoundsBeginEnd_23922, Cond.code yJ0_checkBoundsBeginEnd_23922 cJ0_checkBoundsBeginEnd_23922 3 none, Cond.fieldLink RJ0 1053 "jdk/internal/util/Preconditions" "SIOOBE_FORMATTER" "Ljava/util/function/BiFunction;", Cond.methodLink RJ0 1062 yJ3_checkFromToIndex_8c36e, Cond.static yJ3_checkFromToIndex_8c36e, Cond.initialized RJ3, Cond.code yJ3_checkFromToIndex_8c36e cJ3_checkFromToIndex_8c36e 4 (some .int), Cond.methodLink RJ2 244 yJ2_indexOfCharUnsafe_4cfef, Cond.static yJ2_indexOfCharUnsafe_4cfef, Cond.code yJ2_indexOfCharUnsafe_4cfef cJ2_indexOfCharUnsafe_4cfef 5 (some .int), Cond.methodLink RJ2 71 yJ2_getChar_3b067, Cond.static yJ2_getChar_3b067, Cond.code yJ2_getChar_3b067 cJ2_getChar_3b067 2 (some .char)]
def wsX10_findSign_r4 : List Cond := [Cond.fieldLink RJ2 44 "java/lang/StringUTF16" "$assertionsDisabled" "Z", Cond.fieldLink RJ2 59 "java/lang/StringUTF16" "HI_BYTE_SHIFT" "I", Cond.fieldLink RJ2 63 "java/lang/StringUTF16" "LO_BYTE_SHIFT" "I", Cond.methodLink RJ2 232 yJ2_indexOfSupplementary_4cfef, Cond.static yJ2_indexOfSupplementary_4cfef, Cond.code yJ2_indexOfSupplementary_4cfef cJ2_indexOfSupplementary_4cfef 7 (some .int), Cond.methodLink RJ2 164 yJ11_isValidCodePoint_9a6ad, Cond.static yJ11_isValidCodePoint_9a6ad, Cond.initialized RJ11, Cond.code yJ11_isValidCodePoint_9a6ad cJ11_isValidCodePoint_9a6ad 2 (some .boolean), Cond.methodLink RJ2 157 yJ11_highSurrogate_5068e, Cond.static yJ11_highSurrogate_5068e, Cond.code yJ11_highSurrogate_5068e cJ11_highSurrogate_5068e 1 (some .char), Cond.constant RJ11 110 (55232), Cond.methodLink RJ2 161 yJ11_lowSurrogate_5068e, Cond.static yJ11_lowSurrogate_5068e, Cond.code yJ11_lowSurrogate_5068e cJ11_lowSurrogate_5068e 1 (some .char), Cond.constant RJ11 76 (56320), Cond.methodLink RX10 101 yX10_byteAt, Cond.instanceMethod yX10_byteAt, Cond.selects RX10 yX10_byteAt yX10_byteAt, Cond.initialized RX10, Cond.code yX10_byteAt cX10_byteAt 2 (some .int), Cond.fieldLink RX10 47 "WardenHouse$Words" "length" "I"]
def wsX10_findSign_r5 : List Cond := [Cond.fieldLink RX10 27 "WardenHouse$Words" "text" "[B", Cond.methodLink RX10 117 yX10_addWord, Cond.instanceMethod yX10_addWord, Cond.selects RX10 yX10_addWord yX10_addWord, Cond.code yX10_addWord cX10_addWord 5 none, Cond.fieldLink RX10 20 "WardenHouse$Words" "found" "LWardenHouse$Row;", Cond.methodLink RX10 111 yX6_add, Cond.instanceMethod yX6_add, Cond.selects RX6 yX6_add yX6_add, Cond.initialized RX6, Cond.code yX6_add cX6_add 3 none, Cond.fieldLink RX6 13 "WardenHouse$Row" "size" "I", Cond.constant RX6 17 (1048576), Cond.fieldLink RX6 7 "WardenHouse$Row" "cells" "[J", Cond.methodLink RX6 18 yJ7_copyOf_c38d5, Cond.static yJ7_copyOf_c38d5, Cond.initialized RJ7, Cond.code yJ7_copyOf_c38d5 cJ7_copyOf_c38d5 3 (some (.array .long)), Cond.methodLink RJ7 319 ⟨"[J", "clone", "()Ljava/lang/Object;"⟩, Cond.sameMethod "[J" "java/lang/Object" "clone" "()Ljava/lang/Object;", Cond.native ⟨"java/lang/Object", "clone", "()Ljava/lang/Object;"⟩, Cond.instanceMethod ⟨"java/lang/Object", "clone", "()Ljava/lang/Object;"⟩, Cond.selects "[J" ⟨"[J", "clone", "()Ljava/lang/Object;"⟩ ⟨"java/lang/Object", "clone", "()Ljava/lang/Object;"⟩, Cond.classLink RJ7 320 "[J"]
def wsX10_findSign_r6 : List Cond := [Cond.arrayClass .long, Cond.methodLink RJ7 304 Lib.Math.min.name, Cond.methodLink RJ7 150 arraycopyName, Cond.native arraycopyName, Cond.static arraycopyName, Cond.initialized "java/lang/System"]
def wsX10_findSign : List Cond := .code yX10_findSign cX10_findSign 4 none :: ((wsX10_findSign_r1 ++ (wsX10_findSign_r2 ++ (wsX10_findSign_r3 ++ (wsX10_findSign_r4 ++ (wsX10_findSign_r5 ++ wsX10_findSign_r6))))) ++ wsX100 ++ wsX60)
def wsX10_findWord_r1 : List Cond := [Cond.fieldLink RX10 53 "WardenHouse$Words" "place" "I", Cond.fieldLink RX10 20 "WardenHouse$Words" "found" "LWardenHouse$Row;", Cond.fieldLink RX10 133 "WardenHouse$Row" "size" "I", Cond.methodLink RX10 114 yX10_skipBlanks, Cond.instanceMethod yX10_skipBlanks, Cond.selects RX10 yX10_skipBlanks yX10_skipBlanks, Cond.initialized RX10, Cond.code yX10_skipBlanks cX10_skipBlanks 3 none, Cond.fieldLink RX10 47 "WardenHouse$Words" "length" "I", Cond.methodLink RX10 101 yX10_byteAt, Cond.instanceMethod yX10_byteAt, Cond.selects RX10 yX10_byteAt yX10_byteAt, Cond.code yX10_byteAt cX10_byteAt 2 (some .int), Cond.fieldLink RX10 27 "WardenHouse$Words" "text" "[B", Cond.methodLink RX10 117 yX10_addWord, Cond.instanceMethod yX10_addWord, Cond.selects RX10 yX10_addWord yX10_addWord, Cond.code yX10_addWord cX10_addWord 5 none, Cond.methodLink RX10 111 yX6_add, Cond.instanceMethod yX6_add, Cond.selects RX6 yX6_add yX6_add, Cond.initialized RX6, Cond.code yX6_add cX6_add 3 none, Cond.fieldLink RX6 13 "WardenHouse$Row" "size" "I"]
def wsX10_findWord_r2 : List Cond := [Cond.constant RX6 17 (1048576), Cond.fieldLink RX6 7 "WardenHouse$Row" "cells" "[J", Cond.methodLink RX6 18 yJ7_copyOf_c38d5, Cond.static yJ7_copyOf_c38d5, Cond.initialized RJ7, Cond.code yJ7_copyOf_c38d5 cJ7_copyOf_c38d5 3 (some (.array .long)), Cond.methodLink RJ7 319 ⟨"[J", "clone", "()Ljava/lang/Object;"⟩, Cond.sameMethod "[J" "java/lang/Object" "clone" "()Ljava/lang/Object;", Cond.native ⟨"java/lang/Object", "clone", "()Ljava/lang/Object;"⟩, Cond.instanceMethod ⟨"java/lang/Object", "clone", "()Ljava/lang/Object;"⟩, Cond.selects "[J" ⟨"[J", "clone", "()Ljava/lang/Object;"⟩ ⟨"java/lang/Object", "clone", "()Ljava/lang/Object;"⟩, Cond.classLink RJ7 320 "[J", Cond.arrayClass .long, Cond.methodLink RJ7 304 Lib.Math.min.name, Cond.static Lib.Math.min.name, Cond.initialized "java/lang/Math", Cond.code Lib.Math.min.name Lib.Math.min.code 2 (some .int), Cond.methodLink RJ7 150 arraycopyName, Cond.native arraycopyName, Cond.static arraycopyName, Cond.initialized "java/lang/System", Cond.methodLink RX10 104 yX10_isLetter, Cond.static yX10_isLetter, Cond.code yX10_isLetter cX10_isLetter 1 (some .boolean)]
def wsX10_findWord_r3 : List Cond := [Cond.methodLink RX10 121 yX10_findName, Cond.instanceMethod yX10_findName, Cond.selects RX10 yX10_findName yX10_findName, Cond.code yX10_findName cX10_findName 6 none, Cond.fieldLink RX10 11 "WardenHouse$Words" "keywords" "[J", Cond.methodLink RX10 136 yX10_stepCharAt, Cond.instanceMethod yX10_stepCharAt, Cond.selects RX10 yX10_stepCharAt yX10_stepCharAt, Cond.code yX10_stepCharAt cX10_stepCharAt 3 (some .boolean), Cond.methodLink RX10 108 yX10_isDigit, Cond.static yX10_isDigit, Cond.code yX10_isDigit cX10_isDigit 1 (some .boolean), Cond.methodLink RX10 43 yX10_codeWith, Cond.static yX10_codeWith, Cond.code yX10_codeWith cX10_codeWith 3 (some .long), Cond.methodLink RX10 124 yX10_findNumber, Cond.instanceMethod yX10_findNumber, Cond.selects RX10 yX10_findNumber yX10_findNumber, Cond.code yX10_findNumber cX10_findNumber 4 none, Cond.constantLong RX10 139 (2147483647), Cond.constantLong RX10 141 (10), Cond.methodLink RX10 127 yX10_findPattern, Cond.instanceMethod yX10_findPattern, Cond.selects RX10 yX10_findPattern yX10_findPattern]
def wsX10_findWord_r4 : List Cond := [Cond.code yX10_findPattern cX10_findPattern 6 none, Cond.fieldLink RX10 24 "WardenHouse$Words" "patterns" "LWardenHouse$Row;", Cond.constantLong RX10 150 (2), Cond.fieldLink RX10 50 "WardenHouse$Words" "mostSteps" "I", Cond.methodLink RX10 143 yX10_findStep, Cond.instanceMethod yX10_findStep, Cond.selects RX10 yX10_findStep yX10_findStep, Cond.code yX10_findStep cX10_findStep 4 (some .boolean), Cond.methodLink RX10 146 yX6_set, Cond.instanceMethod yX6_set, Cond.selects RX6 yX6_set yX6_set, Cond.code yX6_set cX6_set 4 none, Cond.methodLink RX10 130 yX10_findSign, Cond.instanceMethod yX10_findSign, Cond.selects RX10 yX10_findSign yX10_findSign, Cond.code yX10_findSign cX10_findSign 4 none, Cond.methodLink RX10 154 yJ0_indexOf_0f7a4, Cond.instanceMethod yJ0_indexOf_0f7a4, Cond.selects RJ0 yJ0_indexOf_0f7a4 yJ0_indexOf_0f7a4, Cond.initialized RJ0, Cond.code yJ0_indexOf_0f7a4 cJ0_indexOf_0f7a4 2 (some .int), Cond.methodLink RJ0 633 yJ0_indexOf_7cf53, Cond.instanceMethod yJ0_indexOf_7cf53, Cond.selects RJ0 yJ0_indexOf_7cf53 yJ0_indexOf_7cf53]
def wsX10_findWord_r5 : List Cond := [Cond.code yJ0_indexOf_7cf53 cJ0_indexOf_7cf53 3 (some .int), Cond.fieldLink RJ0 9 "java/lang/String" "value" "[B", Cond.methodLink RJ0 492 yJ0_isLatin1_aae02, Cond.instanceMethod yJ0_isLatin1_aae02, Cond.selects RJ0 yJ0_isLatin1_aae02 yJ0_isLatin1_aae02, Cond.code yJ0_isLatin1_aae02 cJ0_isLatin1_aae02 1 (some .boolean), Cond.fieldLink RJ0 38 "java/lang/String" "COMPACT_STRINGS" "Z", Cond.fieldLink RJ0 15 "java/lang/String" "coder" "B", Cond.methodLink RJ0 505 yJ0_length_8abf5, Cond.instanceMethod yJ0_length_8abf5, Cond.selects RJ0 yJ0_length_8abf5 yJ0_length_8abf5, Cond.code yJ0_length_8abf5 cJ0_length_8abf5 1 (some .int), Cond.methodLink RJ0 335 yJ0_coder_7d493, Cond.instanceMethod yJ0_coder_7d493, Cond.selects RJ0 yJ0_coder_7d493 yJ0_coder_7d493, Cond.code yJ0_coder_7d493 cJ0_coder_7d493 1 (some .byte), Cond.methodLink RJ0 637 yJ1_indexOf_4cfef, Cond.static yJ1_indexOf_4cfef, Cond.initialized RJ1, Cond.code yJ1_indexOf_4cfef cJ1_indexOf_4cfef 4 (some .int), Cond.methodLink RJ1 92 Lib.Math.max.name, Cond.static Lib.Math.max.name, Cond.code Lib.Math.max.name Lib.Math.max.code 2 (some .int), Cond.methodLink RJ1 38 Lib.Math.min.name]
def wsX10_findWord_r6 : List Cond := [Cond.methodLink RJ1 88 yJ1_canEncode_9a6ad, Cond.static yJ1_canEncode_9a6ad, Cond.code yJ1_canEncode_9a6ad cJ1_canEncode_9a6ad 1 (some .boolean), Cond.methodLink RJ1 95 yJ1_indexOfChar_4cfef, Cond.static yJ1_indexOfChar_4cfef, Cond.code yJ1_indexOfChar_4cfef cJ1_indexOfChar_4cfef 6 (some .int), Cond.methodLink RJ0 640 yJ2_indexOf_4cfef, Cond.static yJ2_indexOf_4cfef, Cond.initialized RJ2, Cond.code yJ2_indexOf_4cfef cJ2_indexOf_4cfef 4 (some .int), Cond.methodLink RJ2 224 Lib.Math.max.name, Cond.methodLink RJ2 183 Lib.Math.min.name, Cond.constant RJ2 227 (65536), Cond.methodLink RJ2 228 yJ2_indexOfChar_4cfef, Cond.static yJ2_indexOfChar_4cfef, Cond.code yJ2_indexOfChar_4cfef cJ2_indexOfChar_4cfef 4 (some .int), Cond.methodLink RJ2 96 yJ2_checkBoundsBeginEnd_d044e, Cond.static yJ2_checkBoundsBeginEnd_d044e, Cond.code yJ2_checkBoundsBeginEnd_d044e cJ2_checkBoundsBeginEnd_d044e 3 none, Cond.methodLink RJ2 48 yJ2_length_9d52b, Cond.static yJ2_length_9d52b, Cond.code yJ2_length_9d52b cJ2_length_9d52b 1 (some .int), Cond.methodLink RJ2 241 yJ0_checkBoundsBeginEnd_23922, Cond.static yJ0_checkBoundsBeginEnd_23922]
def wsX10_findWord_r7 : List Cond := [Cond.code yJ0_checkBoundsBeginEnd_23922 cJ0_checkBoundsBeginEnd_23922 3 none, Cond.fieldLink RJ0 1053 "jdk/internal/util/Preconditions" "SIOOBE_FORMATTER" "Ljava/util/function/BiFunction;", Cond.methodLink RJ0 1062 yJ3_checkFromToIndex_8c36e, Cond.static yJ3_checkFromToIndex_8c36e, Cond.initialized RJ3, Cond.code yJ3_checkFromToIndex_8c36e cJ3_checkFromToIndex_8c36e 4 (some .int), Cond.methodLink RJ2 244 yJ2_indexOfCharUnsafe_4cfef, Cond.static yJ2_indexOfCharUnsafe_4cfef, Cond.code yJ2_indexOfCharUnsafe_4cfef cJ2_indexOfCharUnsafe_4cfef 5 (some .int), Cond.methodLink RJ2 71 yJ2_getChar_3b067, Cond.static yJ2_getChar_3b067, Cond.code yJ2_getChar_3b067 cJ2_getChar_3b067 2 (some .char), Cond.fieldLink RJ2 44 "java/lang/StringUTF16" "$assertionsDisabled" "Z", Cond.fieldLink RJ2 59 "java/lang/StringUTF16" "HI_BYTE_SHIFT" "I", Cond.fieldLink RJ2 63 "java/lang/StringUTF16" "LO_BYTE_SHIFT" "I", Cond.methodLink RJ2 232 yJ2_indexOfSupplementary_4cfef, Cond.static yJ2_indexOfSupplementary_4cfef, Cond.code yJ2_indexOfSupplementary_4cfef cJ2_indexOfSupplementary_4cfef 7 (some .int), Cond.methodLink RJ2 164 yJ11_isValidCodePoint_9a6ad, Cond.static yJ11_isValidCodePoint_9a6ad, Cond.initialized RJ11, Cond.code yJ11_isValidCodePoint_9a6ad cJ11_isValidCodePoint_9a6ad 2 (some .boolean), Cond.methodLink RJ2 157 yJ11_highSurrogate_5068e, Cond.static yJ11_highSurrogate_5068e]
def wsX10_findWord_r8 : List Cond := [Cond.code yJ11_highSurrogate_5068e cJ11_highSurrogate_5068e 1 (some .char), Cond.constant RJ11 110 (55232), Cond.methodLink RJ2 161 yJ11_lowSurrogate_5068e, Cond.static yJ11_lowSurrogate_5068e, Cond.code yJ11_lowSurrogate_5068e cJ11_lowSurrogate_5068e 1 (some .char), Cond.constant RJ11 76 (56320), Cond.methodLink RX10 69 yX6_at, Cond.instanceMethod yX6_at, Cond.selects RX6 yX6_at yX6_at, Cond.code yX6_at cX6_at 2 (some .int)]
def wsX10_findWord : List Cond := .code yX10_findWord cX10_findWord 4 (some .boolean) :: ((wsX10_findWord_r1 ++ (wsX10_findWord_r2 ++ (wsX10_findWord_r3 ++ (wsX10_findWord_r4 ++ (wsX10_findWord_r5 ++ (wsX10_findWord_r6 ++ (wsX10_findWord_r7 ++ wsX10_findWord_r8))))))) ++ wsX100 ++ wsX60)
def wsX10_begin_r1 : List Cond := [Cond.fieldLink RX10 27 "WardenHouse$Words" "text" "[B", Cond.fieldLink RX10 47 "WardenHouse$Words" "length" "I", Cond.fieldLink RX10 50 "WardenHouse$Words" "mostSteps" "I", Cond.fieldLink RX10 53 "WardenHouse$Words" "place" "I", Cond.fieldLink RX10 56 "WardenHouse$Words" "next" "I", Cond.fieldLink RX10 20 "WardenHouse$Words" "found" "LWardenHouse$Row;", Cond.fieldLink RX10 24 "WardenHouse$Words" "patterns" "LWardenHouse$Row;", Cond.methodLink RX10 59 yX6_cut, Cond.instanceMethod yX6_cut, Cond.selects RX6 yX6_cut yX6_cut, Cond.initialized RX6, Cond.code yX6_cut cX6_cut 2 none, Cond.fieldLink RX6 13 "WardenHouse$Row" "size" "I", Cond.methodLink RX10 62 yX10_findWord, Cond.instanceMethod yX10_findWord, Cond.selects RX10 yX10_findWord yX10_findWord, Cond.initialized RX10, Cond.code yX10_findWord cX10_findWord 4 (some .boolean), Cond.fieldLink RX10 133 "WardenHouse$Row" "size" "I", Cond.methodLink RX10 114 yX10_skipBlanks, Cond.instanceMethod yX10_skipBlanks, Cond.selects RX10 yX10_skipBlanks yX10_skipBlanks, Cond.code yX10_skipBlanks cX10_skipBlanks 3 none, Cond.methodLink RX10 101 yX10_byteAt]
def wsX10_begin_r2 : List Cond := [Cond.instanceMethod yX10_byteAt, Cond.selects RX10 yX10_byteAt yX10_byteAt, Cond.code yX10_byteAt cX10_byteAt 2 (some .int), Cond.methodLink RX10 117 yX10_addWord, Cond.instanceMethod yX10_addWord, Cond.selects RX10 yX10_addWord yX10_addWord, Cond.code yX10_addWord cX10_addWord 5 none, Cond.methodLink RX10 111 yX6_add, Cond.instanceMethod yX6_add, Cond.selects RX6 yX6_add yX6_add, Cond.code yX6_add cX6_add 3 none, Cond.constant RX6 17 (1048576), Cond.fieldLink RX6 7 "WardenHouse$Row" "cells" "[J", Cond.methodLink RX6 18 yJ7_copyOf_c38d5, Cond.static yJ7_copyOf_c38d5, Cond.initialized RJ7, Cond.code yJ7_copyOf_c38d5 cJ7_copyOf_c38d5 3 (some (.array .long)), Cond.methodLink RJ7 319 ⟨"[J", "clone", "()Ljava/lang/Object;"⟩, Cond.sameMethod "[J" "java/lang/Object" "clone" "()Ljava/lang/Object;", Cond.native ⟨"java/lang/Object", "clone", "()Ljava/lang/Object;"⟩, Cond.instanceMethod ⟨"java/lang/Object", "clone", "()Ljava/lang/Object;"⟩, Cond.selects "[J" ⟨"[J", "clone", "()Ljava/lang/Object;"⟩ ⟨"java/lang/Object", "clone", "()Ljava/lang/Object;"⟩, Cond.classLink RJ7 320 "[J", Cond.arrayClass .long]
def wsX10_begin_r3 : List Cond := [Cond.methodLink RJ7 304 Lib.Math.min.name, Cond.static Lib.Math.min.name, Cond.initialized "java/lang/Math", Cond.code Lib.Math.min.name Lib.Math.min.code 2 (some .int), Cond.methodLink RJ7 150 arraycopyName, Cond.native arraycopyName, Cond.static arraycopyName, Cond.initialized "java/lang/System", Cond.methodLink RX10 104 yX10_isLetter, Cond.static yX10_isLetter, Cond.code yX10_isLetter cX10_isLetter 1 (some .boolean), Cond.methodLink RX10 121 yX10_findName, Cond.instanceMethod yX10_findName, Cond.selects RX10 yX10_findName yX10_findName, Cond.code yX10_findName cX10_findName 6 none, Cond.fieldLink RX10 11 "WardenHouse$Words" "keywords" "[J", Cond.methodLink RX10 136 yX10_stepCharAt, Cond.instanceMethod yX10_stepCharAt, Cond.selects RX10 yX10_stepCharAt yX10_stepCharAt, Cond.code yX10_stepCharAt cX10_stepCharAt 3 (some .boolean), Cond.methodLink RX10 108 yX10_isDigit, Cond.static yX10_isDigit, Cond.code yX10_isDigit cX10_isDigit 1 (some .boolean), Cond.methodLink RX10 43 yX10_codeWith]
def wsX10_begin_r4 : List Cond := [Cond.static yX10_codeWith, Cond.code yX10_codeWith cX10_codeWith 3 (some .long), Cond.methodLink RX10 124 yX10_findNumber, Cond.instanceMethod yX10_findNumber, Cond.selects RX10 yX10_findNumber yX10_findNumber, Cond.code yX10_findNumber cX10_findNumber 4 none, Cond.constantLong RX10 139 (2147483647), Cond.constantLong RX10 141 (10), Cond.methodLink RX10 127 yX10_findPattern, Cond.instanceMethod yX10_findPattern, Cond.selects RX10 yX10_findPattern yX10_findPattern, Cond.code yX10_findPattern cX10_findPattern 6 none, Cond.constantLong RX10 150 (2), Cond.methodLink RX10 143 yX10_findStep, Cond.instanceMethod yX10_findStep, Cond.selects RX10 yX10_findStep yX10_findStep, Cond.code yX10_findStep cX10_findStep 4 (some .boolean), Cond.methodLink RX10 146 yX6_set, Cond.instanceMethod yX6_set, Cond.selects RX6 yX6_set yX6_set, Cond.code yX6_set cX6_set 4 none, Cond.methodLink RX10 130 yX10_findSign, Cond.instanceMethod yX10_findSign, Cond.selects RX10 yX10_findSign yX10_findSign]
def wsX10_begin_r5 : List Cond := [Cond.code yX10_findSign cX10_findSign 4 none, Cond.methodLink RX10 154 yJ0_indexOf_0f7a4, Cond.instanceMethod yJ0_indexOf_0f7a4, Cond.selects RJ0 yJ0_indexOf_0f7a4 yJ0_indexOf_0f7a4, Cond.initialized RJ0, Cond.code yJ0_indexOf_0f7a4 cJ0_indexOf_0f7a4 2 (some .int), Cond.methodLink RJ0 633 yJ0_indexOf_7cf53, Cond.instanceMethod yJ0_indexOf_7cf53, Cond.selects RJ0 yJ0_indexOf_7cf53 yJ0_indexOf_7cf53, Cond.code yJ0_indexOf_7cf53 cJ0_indexOf_7cf53 3 (some .int), Cond.fieldLink RJ0 9 "java/lang/String" "value" "[B", Cond.methodLink RJ0 492 yJ0_isLatin1_aae02, Cond.instanceMethod yJ0_isLatin1_aae02, Cond.selects RJ0 yJ0_isLatin1_aae02 yJ0_isLatin1_aae02, Cond.code yJ0_isLatin1_aae02 cJ0_isLatin1_aae02 1 (some .boolean), Cond.fieldLink RJ0 38 "java/lang/String" "COMPACT_STRINGS" "Z", Cond.fieldLink RJ0 15 "java/lang/String" "coder" "B", Cond.methodLink RJ0 505 yJ0_length_8abf5, Cond.instanceMethod yJ0_length_8abf5, Cond.selects RJ0 yJ0_length_8abf5 yJ0_length_8abf5, Cond.code yJ0_length_8abf5 cJ0_length_8abf5 1 (some .int), Cond.methodLink RJ0 335 yJ0_coder_7d493, Cond.instanceMethod yJ0_coder_7d493, Cond.selects RJ0 yJ0_coder_7d493 yJ0_coder_7d493]
def wsX10_begin_r6 : List Cond := [Cond.code yJ0_coder_7d493 cJ0_coder_7d493 1 (some .byte), Cond.methodLink RJ0 637 yJ1_indexOf_4cfef, Cond.static yJ1_indexOf_4cfef, Cond.initialized RJ1, Cond.code yJ1_indexOf_4cfef cJ1_indexOf_4cfef 4 (some .int), Cond.methodLink RJ1 92 Lib.Math.max.name, Cond.static Lib.Math.max.name, Cond.code Lib.Math.max.name Lib.Math.max.code 2 (some .int), Cond.methodLink RJ1 38 Lib.Math.min.name, Cond.methodLink RJ1 88 yJ1_canEncode_9a6ad, Cond.static yJ1_canEncode_9a6ad, Cond.code yJ1_canEncode_9a6ad cJ1_canEncode_9a6ad 1 (some .boolean), Cond.methodLink RJ1 95 yJ1_indexOfChar_4cfef, Cond.static yJ1_indexOfChar_4cfef, Cond.code yJ1_indexOfChar_4cfef cJ1_indexOfChar_4cfef 6 (some .int), Cond.methodLink RJ0 640 yJ2_indexOf_4cfef, Cond.static yJ2_indexOf_4cfef, Cond.initialized RJ2, Cond.code yJ2_indexOf_4cfef cJ2_indexOf_4cfef 4 (some .int), Cond.methodLink RJ2 224 Lib.Math.max.name, Cond.methodLink RJ2 183 Lib.Math.min.name, Cond.constant RJ2 227 (65536), Cond.methodLink RJ2 228 yJ2_indexOfChar_4cfef, Cond.static yJ2_indexOfChar_4cfef]
def wsX10_begin_r7 : List Cond := [Cond.code yJ2_indexOfChar_4cfef cJ2_indexOfChar_4cfef 4 (some .int), Cond.methodLink RJ2 96 yJ2_checkBoundsBeginEnd_d044e, Cond.static yJ2_checkBoundsBeginEnd_d044e, Cond.code yJ2_checkBoundsBeginEnd_d044e cJ2_checkBoundsBeginEnd_d044e 3 none, Cond.methodLink RJ2 48 yJ2_length_9d52b, Cond.static yJ2_length_9d52b, Cond.code yJ2_length_9d52b cJ2_length_9d52b 1 (some .int), Cond.methodLink RJ2 241 yJ0_checkBoundsBeginEnd_23922, Cond.static yJ0_checkBoundsBeginEnd_23922, Cond.code yJ0_checkBoundsBeginEnd_23922 cJ0_checkBoundsBeginEnd_23922 3 none, Cond.fieldLink RJ0 1053 "jdk/internal/util/Preconditions" "SIOOBE_FORMATTER" "Ljava/util/function/BiFunction;", Cond.methodLink RJ0 1062 yJ3_checkFromToIndex_8c36e, Cond.static yJ3_checkFromToIndex_8c36e, Cond.initialized RJ3, Cond.code yJ3_checkFromToIndex_8c36e cJ3_checkFromToIndex_8c36e 4 (some .int), Cond.methodLink RJ2 244 yJ2_indexOfCharUnsafe_4cfef, Cond.static yJ2_indexOfCharUnsafe_4cfef, Cond.code yJ2_indexOfCharUnsafe_4cfef cJ2_indexOfCharUnsafe_4cfef 5 (some .int), Cond.methodLink RJ2 71 yJ2_getChar_3b067, Cond.static yJ2_getChar_3b067, Cond.code yJ2_getChar_3b067 cJ2_getChar_3b067 2 (some .char), Cond.fieldLink RJ2 44 "java/lang/StringUTF16" "$assertionsDisabled" "Z", Cond.fieldLink RJ2 59 "java/lang/StringUTF16" "HI_BYTE_SHIFT" "I", Cond.fieldLink RJ2 63 "java/lang/StringUTF16" "LO_BYTE_SHIFT" "I"]
def wsX10_begin_r8 : List Cond := [Cond.methodLink RJ2 232 yJ2_indexOfSupplementary_4cfef, Cond.static yJ2_indexOfSupplementary_4cfef, Cond.code yJ2_indexOfSupplementary_4cfef cJ2_indexOfSupplementary_4cfef 7 (some .int), Cond.methodLink RJ2 164 yJ11_isValidCodePoint_9a6ad, Cond.static yJ11_isValidCodePoint_9a6ad, Cond.initialized RJ11, Cond.code yJ11_isValidCodePoint_9a6ad cJ11_isValidCodePoint_9a6ad 2 (some .boolean), Cond.methodLink RJ2 157 yJ11_highSurrogate_5068e, Cond.static yJ11_highSurrogate_5068e, Cond.code yJ11_highSurrogate_5068e cJ11_highSurrogate_5068e 1 (some .char), Cond.constant RJ11 110 (55232), Cond.methodLink RJ2 161 yJ11_lowSurrogate_5068e, Cond.static yJ11_lowSurrogate_5068e, Cond.code yJ11_lowSurrogate_5068e cJ11_lowSurrogate_5068e 1 (some .char), Cond.constant RJ11 76 (56320), Cond.methodLink RX10 69 yX6_at, Cond.instanceMethod yX6_at, Cond.selects RX6 yX6_at yX6_at, Cond.code yX6_at cX6_at 2 (some .int), Cond.methodLink RX10 66 yX10_advance, Cond.instanceMethod yX10_advance, Cond.selects RX10 yX10_advance yX10_advance, Cond.code yX10_advance cX10_advance 1 none, Cond.fieldLink RX10 73 "WardenHouse$Words" "kind" "I"]
def wsX10_begin_r9 : List Cond := [Cond.fieldLink RX10 76 "WardenHouse$Words" "at" "I", Cond.fieldLink RX10 82 "WardenHouse$Words" "value" "J", Cond.methodLink RX10 78 yX6_get, Cond.instanceMethod yX6_get, Cond.selects RX6 yX6_get yX6_get, Cond.code yX6_get cX6_get 2 (some .long)]
def wsX10_begin : List Cond := .code yX10_begin cX10_begin 6 none :: ((wsX10_begin_r1 ++ (wsX10_begin_r2 ++ (wsX10_begin_r3 ++ (wsX10_begin_r4 ++ (wsX10_begin_r5 ++ (wsX10_begin_r6 ++ (wsX10_begin_r7 ++ (wsX10_begin_r8 ++ wsX10_begin_r9)))))))) ++ wsX100 ++ wsX60)
set_option maxRecDepth 20000 in
theorem ggX0_init_X6_init : GoodIn wsX0_init wsX6_init := goodIn_r _ [15, 16, 2, 3, 17, 18, 19, 20] (by decide +kernel) (by decide +kernel)
set_option maxRecDepth 20000 in
theorem gX0_init_X6_init : GoodIn wsX0_init (wsX6_init) := ggX0_init_X6_init
theorem dX0_init_0 : decode cX0_init 0 = .ok (.aload_n 0, 1) := by decide +kernel
theorem dX0_init_1 : decode cX0_init 1 = .ok (.invokespecial 3, 3) := by decide +kernel
theorem dX0_init_4 : decode cX0_init 4 = .ok (.aload_n 0, 1) := by decide +kernel
theorem dX0_init_5 : decode cX0_init 5 = .ok (.new 9, 3) := by decide +kernel
theorem dX0_init_8 : decode cX0_init 8 = .ok (.dup, 1) := by decide +kernel
theorem dX0_init_9 : decode cX0_init 9 = .ok (.bipush 16, 2) := by decide +kernel
theorem dX0_init_11 : decode cX0_init 11 = .ok (.invokespecial 11, 3) := by decide +kernel
theorem dX0_init_14 : decode cX0_init 14 = .ok (.putfield 14, 3) := by decide +kernel
theorem dX0_init_17 : decode cX0_init 17 = .ok (.aload_n 0, 1) := by decide +kernel
theorem dX0_init_18 : decode cX0_init 18 = .ok (.new 9, 3) := by decide +kernel
theorem dX0_init_21 : decode cX0_init 21 = .ok (.dup, 1) := by decide +kernel
theorem dX0_init_22 : decode cX0_init 22 = .ok (.bipush 32, 2) := by decide +kernel
theorem dX0_init_24 : decode cX0_init 24 = .ok (.invokespecial 11, 3) := by decide +kernel
theorem dX0_init_27 : decode cX0_init 27 = .ok (.putfield 20, 3) := by decide +kernel
theorem dX0_init_30 : decode cX0_init 30 = .ok (.aload_n 0, 1) := by decide +kernel
theorem dX0_init_31 : decode cX0_init 31 = .ok (.new 9, 3) := by decide +kernel
theorem dX0_init_34 : decode cX0_init 34 = .ok (.dup, 1) := by decide +kernel
theorem dX0_init_35 : decode cX0_init 35 = .ok (.bipush 16, 2) := by decide +kernel
theorem dX0_init_37 : decode cX0_init 37 = .ok (.invokespecial 11, 3) := by decide +kernel
theorem dX0_init_40 : decode cX0_init 40 = .ok (.putfield 23, 3) := by decide +kernel
theorem dX0_init_43 : decode cX0_init 43 = .ok (.aload_n 0, 1) := by decide +kernel
theorem dX0_init_44 : decode cX0_init 44 = .ok (.sipush 256, 3) := by decide +kernel
theorem dX0_init_47 : decode cX0_init 47 = .ok (.newarray .int, 2) := by decide +kernel
theorem dX0_init_49 : decode cX0_init 49 = .ok (.putfield 26, 3) := by decide +kernel
theorem dX0_init_52 : decode cX0_init 52 = .ok (.aload_n 0, 1) := by decide +kernel
theorem dX0_init_53 : decode cX0_init 53 = .ok (.bipush 14, 2) := by decide +kernel
theorem dX0_init_55 : decode cX0_init 55 = .ok (.newarray .int, 2) := by decide +kernel
theorem dX0_init_57 : decode cX0_init 57 = .ok (.putfield 30, 3) := by decide +kernel
theorem dX0_init_60 : decode cX0_init 60 = .ok (.return_, 1) := by decide +kernel
theorem dX0_made_0 : decode cX0_made 0 = .ok (.aload_n 0, 1) := by decide +kernel
theorem dX0_made_1 : decode cX0_made 1 = .ok (.getfield 14, 3) := by decide +kernel
theorem dX0_made_4 : decode cX0_made 4 = .ok (.getfield 42, 3) := by decide +kernel
theorem dX0_made_7 : decode cX0_made 7 = .ok (.ireturn, 1) := by decide +kernel
set_option maxRecDepth 20000 in
theorem ggX1_init_X0_init : GoodIn wsX1_init wsX0_init := goodIn_r _ [24, 25, 2, 3, 26, 16, 17, 27, 28, 29, 30, 31, 32, 33, 34, 35, 36, 37, 38, 97, 98, 73, 74, 75, 76, 77, 78] (by decide +kernel) (by decide +kernel)
set_option maxRecDepth 20000 in
theorem gX1_init_X0_init : GoodIn wsX1_init (wsX0_init) := ggX1_init_X0_init
set_option maxRecDepth 20000 in
theorem ggX1_init_X7_init : GoodIn wsX1_init wsX7_init := goodIn_r _ [41, 42, 2, 3, 30, 43, 44, 45, 46, 47, 48, 49, 16, 17, 50, 51, 34, 35, 36, 37, 38, 79, 80, 81, 82, 83, 84, 85, 86, 87, 88, 89, 90, 91, 92, 93, 94, 95, 96, 97, 98] (by decide +kernel) (by decide +kernel)
set_option maxRecDepth 20000 in
theorem gX1_init_X7_init : GoodIn wsX1_init (wsX7_init) := ggX1_init_X7_init
set_option maxRecDepth 20000 in
theorem ggX1_init_X6_init : GoodIn wsX1_init wsX6_init := goodIn_r _ [35, 36, 2, 3, 37, 38, 97, 98] (by decide +kernel) (by decide +kernel)
set_option maxRecDepth 20000 in
theorem gX1_init_X6_init : GoodIn wsX1_init (wsX6_init) := ggX1_init_X6_init
theorem dX1_init_0 : decode cX1_init 0 = .ok (.aload_n 0, 1) := by decide +kernel
theorem dX1_init_1 : decode cX1_init 1 = .ok (.invokespecial 5, 3) := by decide +kernel
theorem dX1_init_4 : decode cX1_init 4 = .ok (.aload_n 0, 1) := by decide +kernel
theorem dX1_init_5 : decode cX1_init 5 = .ok (.aload_n 1, 1) := by decide +kernel
theorem dX1_init_6 : decode cX1_init 6 = .ok (.putfield 11, 3) := by decide +kernel
theorem dX1_init_9 : decode cX1_init 9 = .ok (.aload_n 0, 1) := by decide +kernel
theorem dX1_init_10 : decode cX1_init 10 = .ok (.aload_n 2, 1) := by decide +kernel
theorem dX1_init_11 : decode cX1_init 11 = .ok (.putfield 15, 3) := by decide +kernel
theorem dX1_init_14 : decode cX1_init 14 = .ok (.aload_n 0, 1) := by decide +kernel
theorem dX1_init_15 : decode cX1_init 15 = .ok (.new 19, 3) := by decide +kernel
theorem dX1_init_18 : decode cX1_init 18 = .ok (.dup, 1) := by decide +kernel
theorem dX1_init_19 : decode cX1_init 19 = .ok (.invokespecial 21, 3) := by decide +kernel
theorem dX1_init_22 : decode cX1_init 22 = .ok (.putfield 22, 3) := by decide +kernel
theorem dX1_init_25 : decode cX1_init 25 = .ok (.aload_n 0, 1) := by decide +kernel
theorem dX1_init_26 : decode cX1_init 26 = .ok (.bipush 8, 2) := by decide +kernel
theorem dX1_init_28 : decode cX1_init 28 = .ok (.anewarray 26, 3) := by decide +kernel
theorem dX1_init_31 : decode cX1_init 31 = .ok (.putfield 28, 3) := by decide +kernel
theorem dX1_init_34 : decode cX1_init 34 = .ok (.iconst 0, 1) := by decide +kernel
theorem dX1_init_35 : decode cX1_init 35 = .ok (.istore_n 3, 1) := by decide +kernel
theorem dX1_init_36 : decode cX1_init 36 = .ok (.iload_n 3, 1) := by decide +kernel
theorem dX1_init_37 : decode cX1_init 37 = .ok (.bipush 8, 2) := by decide +kernel
theorem dX1_init_39 : decode cX1_init 39 = .ok (.if_icmp .ge 22, 3) := by decide +kernel
theorem dX1_init_42 : decode cX1_init 42 = .ok (.aload_n 0, 1) := by decide +kernel
theorem dX1_init_43 : decode cX1_init 43 = .ok (.getfield 28, 3) := by decide +kernel
theorem dX1_init_46 : decode cX1_init 46 = .ok (.iload_n 3, 1) := by decide +kernel
theorem dX1_init_47 : decode cX1_init 47 = .ok (.new 26, 3) := by decide +kernel
theorem dX1_init_50 : decode cX1_init 50 = .ok (.dup, 1) := by decide +kernel
theorem dX1_init_51 : decode cX1_init 51 = .ok (.invokespecial 32, 3) := by decide +kernel
theorem dX1_init_54 : decode cX1_init 54 = .ok (.aastore, 1) := by decide +kernel
theorem dX1_init_55 : decode cX1_init 55 = .ok (.iinc 3 1, 3) := by decide +kernel
theorem dX1_init_58 : decode cX1_init 58 = .ok (.goto (-22), 3) := by decide +kernel
theorem dX1_init_61 : decode cX1_init 61 = .ok (.aload_n 0, 1) := by decide +kernel
theorem dX1_init_62 : decode cX1_init 62 = .ok (.aload_n 0, 1) := by decide +kernel
theorem dX1_init_63 : decode cX1_init 63 = .ok (.getfield 28, 3) := by decide +kernel
theorem dX1_init_66 : decode cX1_init 66 = .ok (.iconst 0, 1) := by decide +kernel
theorem dX1_init_67 : decode cX1_init 67 = .ok (.aaload, 1) := by decide +kernel
theorem dX1_init_68 : decode cX1_init 68 = .ok (.putfield 33, 3) := by decide +kernel
theorem dX1_init_71 : decode cX1_init 71 = .ok (.aload_n 0, 1) := by decide +kernel
theorem dX1_init_72 : decode cX1_init 72 = .ok (.new 37, 3) := by decide +kernel
theorem dX1_init_75 : decode cX1_init 75 = .ok (.dup, 1) := by decide +kernel
theorem dX1_init_76 : decode cX1_init 76 = .ok (.bipush 48, 2) := by decide +kernel
theorem dX1_init_78 : decode cX1_init 78 = .ok (.invokespecial 39, 3) := by decide +kernel
theorem dX1_init_81 : decode cX1_init 81 = .ok (.putfield 42, 3) := by decide +kernel
theorem dX1_init_84 : decode cX1_init 84 = .ok (.aload_n 0, 1) := by decide +kernel
theorem dX1_init_85 : decode cX1_init 85 = .ok (.new 37, 3) := by decide +kernel
theorem dX1_init_88 : decode cX1_init 88 = .ok (.dup, 1) := by decide +kernel
theorem dX1_init_89 : decode cX1_init 89 = .ok (.bipush 32, 2) := by decide +kernel
theorem dX1_init_91 : decode cX1_init 91 = .ok (.invokespecial 39, 3) := by decide +kernel
theorem dX1_init_94 : decode cX1_init 94 = .ok (.putfield 46, 3) := by decide +kernel
theorem dX1_init_97 : decode cX1_init 97 = .ok (.aload_n 0, 1) := by decide +kernel
theorem dX1_init_98 : decode cX1_init 98 = .ok (.new 37, 3) := by decide +kernel
theorem dX1_init_101 : decode cX1_init 101 = .ok (.dup, 1) := by decide +kernel
theorem dX1_init_102 : decode cX1_init 102 = .ok (.bipush 64, 2) := by decide +kernel
theorem dX1_init_104 : decode cX1_init 104 = .ok (.invokespecial 39, 3) := by decide +kernel
theorem dX1_init_107 : decode cX1_init 107 = .ok (.putfield 49, 3) := by decide +kernel
theorem dX1_init_110 : decode cX1_init 110 = .ok (.aload_n 0, 1) := by decide +kernel
theorem dX1_init_111 : decode cX1_init 111 = .ok (.new 37, 3) := by decide +kernel
theorem dX1_init_114 : decode cX1_init 114 = .ok (.dup, 1) := by decide +kernel
theorem dX1_init_115 : decode cX1_init 115 = .ok (.bipush 80, 2) := by decide +kernel
theorem dX1_init_117 : decode cX1_init 117 = .ok (.invokespecial 39, 3) := by decide +kernel
theorem dX1_init_120 : decode cX1_init 120 = .ok (.putfield 52, 3) := by decide +kernel
theorem dX1_init_123 : decode cX1_init 123 = .ok (.return_, 1) := by decide +kernel
theorem dX1_forget_0 : decode cX1_forget 0 = .ok (.aload_n 0, 1) := by decide +kernel
theorem dX1_forget_1 : decode cX1_forget 1 = .ok (.iconst 0, 1) := by decide +kernel
theorem dX1_forget_2 : decode cX1_forget 2 = .ok (.putfield 57, 3) := by decide +kernel
theorem dX1_forget_5 : decode cX1_forget 5 = .ok (.return_, 1) := by decide +kernel
set_option maxRecDepth 20000 in
theorem ggX2_init_X9_init : GoodIn wsX2_init wsX9_init := goodIn_r _ [23, 24, 2, 3, 11, 25, 26, 27, 28, 29, 30, 31, 32, 33, 34, 35, 9, 36, 53, 54, 55, 56, 57, 58, 59, 60, 61, 62, 63, 64, 65, 66, 67, 68, 69, 70, 71, 72] (by decide +kernel) (by decide +kernel)
set_option maxRecDepth 20000 in
theorem gX2_init_X9_init : GoodIn wsX2_init (wsX9_init) := ggX2_init_X9_init
theorem dX2_init_0 : decode cX2_init 0 = .ok (.aload_n 0, 1) := by decide +kernel
theorem dX2_init_1 : decode cX2_init 1 = .ok (.invokespecial 3, 3) := by decide +kernel
theorem dX2_init_4 : decode cX2_init 4 = .ok (.aload_n 0, 1) := by decide +kernel
theorem dX2_init_5 : decode cX2_init 5 = .ok (.aload_n 1, 1) := by decide +kernel
theorem dX2_init_6 : decode cX2_init 6 = .ok (.putfield 9, 3) := by decide +kernel
theorem dX2_init_9 : decode cX2_init 9 = .ok (.aload_n 0, 1) := by decide +kernel
theorem dX2_init_10 : decode cX2_init 10 = .ok (.bipush 60, 2) := by decide +kernel
theorem dX2_init_12 : decode cX2_init 12 = .ok (.anewarray 15, 3) := by decide +kernel
theorem dX2_init_15 : decode cX2_init 15 = .ok (.putfield 17, 3) := by decide +kernel
theorem dX2_init_18 : decode cX2_init 18 = .ok (.iconst 0, 1) := by decide +kernel
theorem dX2_init_19 : decode cX2_init 19 = .ok (.istore_n 2, 1) := by decide +kernel
theorem dX2_init_20 : decode cX2_init 20 = .ok (.iload_n 2, 1) := by decide +kernel
theorem dX2_init_21 : decode cX2_init 21 = .ok (.bipush 60, 2) := by decide +kernel
theorem dX2_init_23 : decode cX2_init 23 = .ok (.if_icmp .ge 22, 3) := by decide +kernel
theorem dX2_init_26 : decode cX2_init 26 = .ok (.aload_n 0, 1) := by decide +kernel
theorem dX2_init_27 : decode cX2_init 27 = .ok (.getfield 17, 3) := by decide +kernel
theorem dX2_init_30 : decode cX2_init 30 = .ok (.iload_n 2, 1) := by decide +kernel
theorem dX2_init_31 : decode cX2_init 31 = .ok (.new 15, 3) := by decide +kernel
theorem dX2_init_34 : decode cX2_init 34 = .ok (.dup, 1) := by decide +kernel
theorem dX2_init_35 : decode cX2_init 35 = .ok (.invokespecial 21, 3) := by decide +kernel
theorem dX2_init_38 : decode cX2_init 38 = .ok (.aastore, 1) := by decide +kernel
theorem dX2_init_39 : decode cX2_init 39 = .ok (.iinc 2 1, 3) := by decide +kernel
theorem dX2_init_42 : decode cX2_init 42 = .ok (.goto (-22), 3) := by decide +kernel
theorem dX2_init_45 : decode cX2_init 45 = .ok (.aload_n 0, 1) := by decide +kernel
theorem dX2_init_46 : decode cX2_init 46 = .ok (.bipush 8, 2) := by decide +kernel
theorem dX2_init_48 : decode cX2_init 48 = .ok (.newarray .long, 2) := by decide +kernel
theorem dX2_init_50 : decode cX2_init 50 = .ok (.putfield 22, 3) := by decide +kernel
theorem dX2_init_53 : decode cX2_init 53 = .ok (.aload_n 0, 1) := by decide +kernel
theorem dX2_init_54 : decode cX2_init 54 = .ok (.bipush 8, 2) := by decide +kernel
theorem dX2_init_56 : decode cX2_init 56 = .ok (.newarray .int, 2) := by decide +kernel
theorem dX2_init_58 : decode cX2_init 58 = .ok (.putfield 26, 3) := by decide +kernel
theorem dX2_init_61 : decode cX2_init 61 = .ok (.aload_n 0, 1) := by decide +kernel
theorem dX2_init_62 : decode cX2_init 62 = .ok (.bipush 32, 2) := by decide +kernel
theorem dX2_init_64 : decode cX2_init 64 = .ok (.newarray .long, 2) := by decide +kernel
theorem dX2_init_66 : decode cX2_init 66 = .ok (.putfield 30, 3) := by decide +kernel
theorem dX2_init_69 : decode cX2_init 69 = .ok (.aload_n 0, 1) := by decide +kernel
theorem dX2_init_70 : decode cX2_init 70 = .ok (.bipush 8, 2) := by decide +kernel
theorem dX2_init_72 : decode cX2_init 72 = .ok (.newarray .int, 2) := by decide +kernel
theorem dX2_init_74 : decode cX2_init 74 = .ok (.putfield 33, 3) := by decide +kernel
theorem dX2_init_77 : decode cX2_init 77 = .ok (.aload_n 0, 1) := by decide +kernel
theorem dX2_init_78 : decode cX2_init 78 = .ok (.bipush 8, 2) := by decide +kernel
theorem dX2_init_80 : decode cX2_init 80 = .ok (.newarray .int, 2) := by decide +kernel
theorem dX2_init_82 : decode cX2_init 82 = .ok (.putfield 36, 3) := by decide +kernel
theorem dX2_init_85 : decode cX2_init 85 = .ok (.aload_n 0, 1) := by decide +kernel
theorem dX2_init_86 : decode cX2_init 86 = .ok (.bipush 96, 2) := by decide +kernel
theorem dX2_init_88 : decode cX2_init 88 = .ok (.newarray .int, 2) := by decide +kernel
theorem dX2_init_90 : decode cX2_init 90 = .ok (.putfield 39, 3) := by decide +kernel
theorem dX2_init_93 : decode cX2_init 93 = .ok (.aload_n 0, 1) := by decide +kernel
theorem dX2_init_94 : decode cX2_init 94 = .ok (.bipush 8, 2) := by decide +kernel
theorem dX2_init_96 : decode cX2_init 96 = .ok (.newarray .int, 2) := by decide +kernel
theorem dX2_init_98 : decode cX2_init 98 = .ok (.putfield 42, 3) := by decide +kernel
theorem dX2_init_101 : decode cX2_init 101 = .ok (.aload_n 0, 1) := by decide +kernel
theorem dX2_init_102 : decode cX2_init 102 = .ok (.sipush 400, 3) := by decide +kernel
theorem dX2_init_105 : decode cX2_init 105 = .ok (.newarray .int, 2) := by decide +kernel
theorem dX2_init_107 : decode cX2_init 107 = .ok (.putfield 45, 3) := by decide +kernel
theorem dX2_init_110 : decode cX2_init 110 = .ok (.aload_n 0, 1) := by decide +kernel
theorem dX2_init_111 : decode cX2_init 111 = .ok (.sipush 400, 3) := by decide +kernel
theorem dX2_init_114 : decode cX2_init 114 = .ok (.newarray .long, 2) := by decide +kernel
theorem dX2_init_116 : decode cX2_init 116 = .ok (.putfield 48, 3) := by decide +kernel
theorem dX2_init_119 : decode cX2_init 119 = .ok (.aload_n 0, 1) := by decide +kernel
theorem dX2_init_120 : decode cX2_init 120 = .ok (.sipush 400, 3) := by decide +kernel
theorem dX2_init_123 : decode cX2_init 123 = .ok (.newarray .int, 2) := by decide +kernel
theorem dX2_init_125 : decode cX2_init 125 = .ok (.putfield 51, 3) := by decide +kernel
theorem dX2_init_128 : decode cX2_init 128 = .ok (.return_, 1) := by decide +kernel
set_option maxRecDepth 20000 in
theorem ggX2_clear_X3_clear : GoodIn wsX2_clear wsX3_clear := goodIn_r _ [10, 11, 12, 13, 14, 31, 32, 33, 34, 35, 36, 37, 38, 39, 40, 41, 42, 43, 44] (by decide +kernel) (by decide +kernel)
set_option maxRecDepth 20000 in
theorem gX2_clear_X3_clear : GoodIn wsX2_clear (wsV RX2 54 RX3 yX3_clear wsX3_clear) := goodIn_app (goodIn_of _ (by decide +kernel)) ggX2_clear_X3_clear
theorem dX2_clear_0 : decode cX2_clear 0 = .ok (.aload_n 0, 1) := by decide +kernel
theorem dX2_clear_1 : decode cX2_clear 1 = .ok (.getfield 9, 3) := by decide +kernel
theorem dX2_clear_4 : decode cX2_clear 4 = .ok (.invokevirtual 54, 3) := by decide +kernel
theorem dX2_clear_7 : decode cX2_clear 7 = .ok (.aload_n 0, 1) := by decide +kernel
theorem dX2_clear_8 : decode cX2_clear 8 = .ok (.iconst 0, 1) := by decide +kernel
theorem dX2_clear_9 : decode cX2_clear 9 = .ok (.putfield 59, 3) := by decide +kernel
theorem dX2_clear_12 : decode cX2_clear 12 = .ok (.aload_n 0, 1) := by decide +kernel
theorem dX2_clear_13 : decode cX2_clear 13 = .ok (.iconst 0, 1) := by decide +kernel
theorem dX2_clear_14 : decode cX2_clear 14 = .ok (.putfield 63, 3) := by decide +kernel
theorem dX2_clear_17 : decode cX2_clear 17 = .ok (.aload_n 0, 1) := by decide +kernel
theorem dX2_clear_18 : decode cX2_clear 18 = .ok (.iconst 0, 1) := by decide +kernel
theorem dX2_clear_19 : decode cX2_clear 19 = .ok (.putfield 66, 3) := by decide +kernel
theorem dX2_clear_22 : decode cX2_clear 22 = .ok (.aload_n 0, 1) := by decide +kernel
theorem dX2_clear_23 : decode cX2_clear 23 = .ok (.iconst 0, 1) := by decide +kernel
theorem dX2_clear_24 : decode cX2_clear 24 = .ok (.putfield 69, 3) := by decide +kernel
theorem dX2_clear_27 : decode cX2_clear 27 = .ok (.return_, 1) := by decide +kernel
theorem dX2_unitAt_0 : decode cX2_unitAt 0 = .ok (.aload_n 0, 1) := by decide +kernel
theorem dX2_unitAt_1 : decode cX2_unitAt 1 = .ok (.getfield 17, 3) := by decide +kernel
theorem dX2_unitAt_4 : decode cX2_unitAt 4 = .ok (.iload_n 1, 1) := by decide +kernel
theorem dX2_unitAt_5 : decode cX2_unitAt 5 = .ok (.ifCond .lt 13, 3) := by decide +kernel
theorem dX2_unitAt_8 : decode cX2_unitAt 8 = .ok (.iload_n 1, 1) := by decide +kernel
theorem dX2_unitAt_9 : decode cX2_unitAt 9 = .ok (.bipush 60, 2) := by decide +kernel
theorem dX2_unitAt_11 : decode cX2_unitAt 11 = .ok (.if_icmp .ge 7, 3) := by decide +kernel
theorem dX2_unitAt_14 : decode cX2_unitAt 14 = .ok (.iload_n 1, 1) := by decide +kernel
theorem dX2_unitAt_15 : decode cX2_unitAt 15 = .ok (.goto 4, 3) := by decide +kernel
theorem dX2_unitAt_18 : decode cX2_unitAt 18 = .ok (.iconst 0, 1) := by decide +kernel
theorem dX2_unitAt_19 : decode cX2_unitAt 19 = .ok (.aaload, 1) := by decide +kernel
theorem dX2_unitAt_20 : decode cX2_unitAt 20 = .ok (.areturn, 1) := by decide +kernel
set_option maxRecDepth 20000 in
theorem ggX3_init_X3_rightsOf : GoodIn wsX3_init wsX3_rightsOf := goodIn_r _ [22, 15, 16, 17, 23, 24, 25, 26, 2, 3, 27, 28, 43, 44, 45, 46] (by decide +kernel) (by decide +kernel)
set_option maxRecDepth 20000 in
theorem gX3_init_X3_rightsOf : GoodIn wsX3_init (va_wsS RX3 11 yX3_rightsOf wsX3_rightsOf) := goodIn_app (goodIn_of _ (by decide +kernel)) ggX3_init_X3_rightsOf
set_option maxRecDepth 20000 in
theorem ggX3_init_X5_init : GoodIn wsX3_init wsX5_init := goodIn_r _ [25, 26, 2, 3, 27, 28, 43, 44, 45, 46] (by decide +kernel) (by decide +kernel)
set_option maxRecDepth 20000 in
theorem gX3_init_X5_init : GoodIn wsX3_init (wsX5_init) := ggX3_init_X5_init
theorem dX3_init_0 : decode cX3_init 0 = .ok (.aload_n 0, 1) := by decide +kernel
theorem dX3_init_1 : decode cX3_init 1 = .ok (.invokespecial 5, 3) := by decide +kernel
theorem dX3_init_4 : decode cX3_init 4 = .ok (.aload_n 0, 1) := by decide +kernel
theorem dX3_init_5 : decode cX3_init 5 = .ok (.bipush 8, 2) := by decide +kernel
theorem dX3_init_7 : decode cX3_init 7 = .ok (.invokestatic 11, 3) := by decide +kernel
theorem dX3_init_10 : decode cX3_init 10 = .ok (.putfield 15, 3) := by decide +kernel
theorem dX3_init_13 : decode cX3_init 13 = .ok (.aload_n 0, 1) := by decide +kernel
theorem dX3_init_14 : decode cX3_init 14 = .ok (.sipush 160, 3) := by decide +kernel
theorem dX3_init_17 : decode cX3_init 17 = .ok (.invokestatic 11, 3) := by decide +kernel
theorem dX3_init_20 : decode cX3_init 20 = .ok (.putfield 19, 3) := by decide +kernel
theorem dX3_init_23 : decode cX3_init 23 = .ok (.aload_n 0, 1) := by decide +kernel
theorem dX3_init_24 : decode cX3_init 24 = .ok (.bipush 8, 2) := by decide +kernel
theorem dX3_init_26 : decode cX3_init 26 = .ok (.newarray .int, 2) := by decide +kernel
theorem dX3_init_28 : decode cX3_init 28 = .ok (.putfield 22, 3) := by decide +kernel
theorem dX3_init_31 : decode cX3_init 31 = .ok (.aload_n 0, 1) := by decide +kernel
theorem dX3_init_32 : decode cX3_init 32 = .ok (.bipush 12, 2) := by decide +kernel
theorem dX3_init_34 : decode cX3_init 34 = .ok (.newarray .int, 2) := by decide +kernel
theorem dX3_init_36 : decode cX3_init 36 = .ok (.putfield 26, 3) := by decide +kernel
theorem dX3_init_39 : decode cX3_init 39 = .ok (.aload_n 0, 1) := by decide +kernel
theorem dX3_init_40 : decode cX3_init 40 = .ok (.bipush 8, 2) := by decide +kernel
theorem dX3_init_42 : decode cX3_init 42 = .ok (.newarray .int, 2) := by decide +kernel
theorem dX3_init_44 : decode cX3_init 44 = .ok (.putfield 29, 3) := by decide +kernel
theorem dX3_init_47 : decode cX3_init 47 = .ok (.aload_n 0, 1) := by decide +kernel
theorem dX3_init_48 : decode cX3_init 48 = .ok (.bipush 8, 2) := by decide +kernel
theorem dX3_init_50 : decode cX3_init 50 = .ok (.newarray .int, 2) := by decide +kernel
theorem dX3_init_52 : decode cX3_init 52 = .ok (.putfield 32, 3) := by decide +kernel
theorem dX3_init_55 : decode cX3_init 55 = .ok (.aload_n 0, 1) := by decide +kernel
theorem dX3_init_56 : decode cX3_init 56 = .ok (.bipush 24, 2) := by decide +kernel
theorem dX3_init_58 : decode cX3_init 58 = .ok (.invokestatic 11, 3) := by decide +kernel
theorem dX3_init_61 : decode cX3_init 61 = .ok (.putfield 35, 3) := by decide +kernel
theorem dX3_init_64 : decode cX3_init 64 = .ok (.aload_n 0, 1) := by decide +kernel
theorem dX3_init_65 : decode cX3_init 65 = .ok (.bipush 24, 2) := by decide +kernel
theorem dX3_init_67 : decode cX3_init 67 = .ok (.newarray .boolean, 2) := by decide +kernel
theorem dX3_init_69 : decode cX3_init 69 = .ok (.putfield 38, 3) := by decide +kernel
theorem dX3_init_72 : decode cX3_init 72 = .ok (.aload_n 0, 1) := by decide +kernel
theorem dX3_init_73 : decode cX3_init 73 = .ok (.bipush 24, 2) := by decide +kernel
theorem dX3_init_75 : decode cX3_init 75 = .ok (.newarray .int, 2) := by decide +kernel
theorem dX3_init_77 : decode cX3_init 77 = .ok (.putfield 42, 3) := by decide +kernel
theorem dX3_init_80 : decode cX3_init 80 = .ok (.aload_n 0, 1) := by decide +kernel
theorem dX3_init_81 : decode cX3_init 81 = .ok (.new 45, 3) := by decide +kernel
theorem dX3_init_84 : decode cX3_init 84 = .ok (.dup, 1) := by decide +kernel
theorem dX3_init_85 : decode cX3_init 85 = .ok (.invokespecial 47, 3) := by decide +kernel
theorem dX3_init_88 : decode cX3_init 88 = .ok (.putfield 48, 3) := by decide +kernel
theorem dX3_init_91 : decode cX3_init 91 = .ok (.return_, 1) := by decide +kernel
set_option maxRecDepth 20000 in
theorem ggX3_rightsOf_X5_init : GoodIn wsX3_rightsOf wsX5_init := goodIn_r _ [6, 7, 8, 9, 10, 11, 12, 13, 14, 15] (by decide +kernel) (by decide +kernel)
set_option maxRecDepth 20000 in
theorem gX3_rightsOf_X5_init : GoodIn wsX3_rightsOf (wsX5_init) := ggX3_rightsOf_X5_init
theorem dX3_rightsOf_0 : decode cX3_rightsOf 0 = .ok (.iload_n 0, 1) := by decide +kernel
theorem dX3_rightsOf_1 : decode cX3_rightsOf 1 = .ok (.ifCond .le 7, 3) := by decide +kernel
theorem dX3_rightsOf_4 : decode cX3_rightsOf 4 = .ok (.iload_n 0, 1) := by decide +kernel
theorem dX3_rightsOf_5 : decode cX3_rightsOf 5 = .ok (.goto 4, 3) := by decide +kernel
theorem dX3_rightsOf_8 : decode cX3_rightsOf 8 = .ok (.iconst 1, 1) := by decide +kernel
theorem dX3_rightsOf_9 : decode cX3_rightsOf 9 = .ok (.anewarray 45, 3) := by decide +kernel
theorem dX3_rightsOf_12 : decode cX3_rightsOf 12 = .ok (.astore_n 1, 1) := by decide +kernel
theorem dX3_rightsOf_13 : decode cX3_rightsOf 13 = .ok (.iconst 0, 1) := by decide +kernel
theorem dX3_rightsOf_14 : decode cX3_rightsOf 14 = .ok (.istore_n 2, 1) := by decide +kernel
theorem dX3_rightsOf_15 : decode cX3_rightsOf 15 = .ok (.iload_n 2, 1) := by decide +kernel
theorem dX3_rightsOf_16 : decode cX3_rightsOf 16 = .ok (.aload_n 1, 1) := by decide +kernel
theorem dX3_rightsOf_17 : decode cX3_rightsOf 17 = .ok (.arraylength, 1) := by decide +kernel
theorem dX3_rightsOf_18 : decode cX3_rightsOf 18 = .ok (.if_icmp .ge 19, 3) := by decide +kernel
theorem dX3_rightsOf_21 : decode cX3_rightsOf 21 = .ok (.aload_n 1, 1) := by decide +kernel
theorem dX3_rightsOf_22 : decode cX3_rightsOf 22 = .ok (.iload_n 2, 1) := by decide +kernel
theorem dX3_rightsOf_23 : decode cX3_rightsOf 23 = .ok (.new 45, 3) := by decide +kernel
theorem dX3_rightsOf_26 : decode cX3_rightsOf 26 = .ok (.dup, 1) := by decide +kernel
theorem dX3_rightsOf_27 : decode cX3_rightsOf 27 = .ok (.invokespecial 47, 3) := by decide +kernel
theorem dX3_rightsOf_30 : decode cX3_rightsOf 30 = .ok (.aastore, 1) := by decide +kernel
theorem dX3_rightsOf_31 : decode cX3_rightsOf 31 = .ok (.iinc 2 1, 3) := by decide +kernel
theorem dX3_rightsOf_34 : decode cX3_rightsOf 34 = .ok (.goto (-19), 3) := by decide +kernel
theorem dX3_rightsOf_37 : decode cX3_rightsOf 37 = .ok (.aload_n 1, 1) := by decide +kernel
theorem dX3_rightsOf_38 : decode cX3_rightsOf 38 = .ok (.areturn, 1) := by decide +kernel
theorem dX3_clear_0 : decode cX3_clear 0 = .ok (.aload_n 0, 1) := by decide +kernel
theorem dX3_clear_1 : decode cX3_clear 1 = .ok (.iconst 0, 1) := by decide +kernel
theorem dX3_clear_2 : decode cX3_clear 2 = .ok (.putfield 52, 3) := by decide +kernel
theorem dX3_clear_5 : decode cX3_clear 5 = .ok (.aload_n 0, 1) := by decide +kernel
theorem dX3_clear_6 : decode cX3_clear 6 = .ok (.iconst 0, 1) := by decide +kernel
theorem dX3_clear_7 : decode cX3_clear 7 = .ok (.putfield 56, 3) := by decide +kernel
theorem dX3_clear_10 : decode cX3_clear 10 = .ok (.aload_n 0, 1) := by decide +kernel
theorem dX3_clear_11 : decode cX3_clear 11 = .ok (.iconst 0, 1) := by decide +kernel
theorem dX3_clear_12 : decode cX3_clear 12 = .ok (.putfield 59, 3) := by decide +kernel
theorem dX3_clear_15 : decode cX3_clear 15 = .ok (.aload_n 0, 1) := by decide +kernel
theorem dX3_clear_16 : decode cX3_clear 16 = .ok (.iconst 0, 1) := by decide +kernel
theorem dX3_clear_17 : decode cX3_clear 17 = .ok (.putfield 62, 3) := by decide +kernel
theorem dX3_clear_20 : decode cX3_clear 20 = .ok (.return_, 1) := by decide +kernel
set_option maxRecDepth 20000 in
theorem ggX4_init_X5_init : GoodIn wsX4_init wsX5_init := goodIn_r _ [20, 21, 2, 3, 11, 22, 42, 43, 44, 45] (by decide +kernel) (by decide +kernel)
set_option maxRecDepth 20000 in
theorem gX4_init_X5_init : GoodIn wsX4_init (wsX5_init) := ggX4_init_X5_init
set_option maxRecDepth 20000 in
theorem ggX4_init_X2_unitAt : GoodIn wsX4_init wsX2_unitAt := goodIn_r _ [27, 28, 46, 47, 48, 49, 50, 51, 52, 53, 54, 55, 56, 57, 58, 59, 60, 61] (by decide +kernel) (by decide +kernel)
set_option maxRecDepth 20000 in
theorem gX4_init_X2_unitAt : GoodIn wsX4_init (wsV RX4 38 RX2 yX2_unitAt wsX2_unitAt) := goodIn_app (goodIn_of _ (by decide +kernel)) ggX4_init_X2_unitAt
theorem dX4_init_0 : decode cX4_init 0 = .ok (.aload_n 0, 1) := by decide +kernel
theorem dX4_init_1 : decode cX4_init 1 = .ok (.invokespecial 3, 3) := by decide +kernel
theorem dX4_init_4 : decode cX4_init 4 = .ok (.aload_n 0, 1) := by decide +kernel
theorem dX4_init_5 : decode cX4_init 5 = .ok (.aload_n 1, 1) := by decide +kernel
theorem dX4_init_6 : decode cX4_init 6 = .ok (.putfield 9, 3) := by decide +kernel
theorem dX4_init_9 : decode cX4_init 9 = .ok (.aload_n 0, 1) := by decide +kernel
theorem dX4_init_10 : decode cX4_init 10 = .ok (.aload_n 2, 1) := by decide +kernel
theorem dX4_init_11 : decode cX4_init 11 = .ok (.putfield 15, 3) := by decide +kernel
theorem dX4_init_14 : decode cX4_init 14 = .ok (.aload_n 0, 1) := by decide +kernel
theorem dX4_init_15 : decode cX4_init 15 = .ok (.aload_n 3, 1) := by decide +kernel
theorem dX4_init_16 : decode cX4_init 16 = .ok (.putfield 19, 3) := by decide +kernel
theorem dX4_init_19 : decode cX4_init 19 = .ok (.aload_n 0, 1) := by decide +kernel
theorem dX4_init_20 : decode cX4_init 20 = .ok (.new 23, 3) := by decide +kernel
theorem dX4_init_23 : decode cX4_init 23 = .ok (.dup, 1) := by decide +kernel
theorem dX4_init_24 : decode cX4_init 24 = .ok (.invokespecial 25, 3) := by decide +kernel
theorem dX4_init_27 : decode cX4_init 27 = .ok (.putfield 26, 3) := by decide +kernel
theorem dX4_init_30 : decode cX4_init 30 = .ok (.aload_n 0, 1) := by decide +kernel
theorem dX4_init_31 : decode cX4_init 31 = .ok (.bipush 12, 2) := by decide +kernel
theorem dX4_init_33 : decode cX4_init 33 = .ok (.newarray .long, 2) := by decide +kernel
theorem dX4_init_35 : decode cX4_init 35 = .ok (.putfield 30, 3) := by decide +kernel
theorem dX4_init_38 : decode cX4_init 38 = .ok (.aload_n 0, 1) := by decide +kernel
theorem dX4_init_39 : decode cX4_init 39 = .ok (.bipush 12, 2) := by decide +kernel
theorem dX4_init_41 : decode cX4_init 41 = .ok (.newarray .int, 2) := by decide +kernel
theorem dX4_init_43 : decode cX4_init 43 = .ok (.putfield 34, 3) := by decide +kernel
theorem dX4_init_46 : decode cX4_init 46 = .ok (.aload_n 0, 1) := by decide +kernel
theorem dX4_init_47 : decode cX4_init 47 = .ok (.aload_n 2, 1) := by decide +kernel
theorem dX4_init_48 : decode cX4_init 48 = .ok (.iconst 0, 1) := by decide +kernel
theorem dX4_init_49 : decode cX4_init 49 = .ok (.invokevirtual 38, 3) := by decide +kernel
theorem dX4_init_52 : decode cX4_init 52 = .ok (.putfield 44, 3) := by decide +kernel
theorem dX4_init_55 : decode cX4_init 55 = .ok (.aload_n 0, 1) := by decide +kernel
theorem dX4_init_56 : decode cX4_init 56 = .ok (.aload_n 0, 1) := by decide +kernel
theorem dX4_init_57 : decode cX4_init 57 = .ok (.getfield 44, 3) := by decide +kernel
theorem dX4_init_60 : decode cX4_init 60 = .ok (.putfield 48, 3) := by decide +kernel
theorem dX4_init_63 : decode cX4_init 63 = .ok (.aload_n 0, 1) := by decide +kernel
theorem dX4_init_64 : decode cX4_init 64 = .ok (.iconst (-1), 1) := by decide +kernel
theorem dX4_init_65 : decode cX4_init 65 = .ok (.putfield 51, 3) := by decide +kernel
theorem dX4_init_68 : decode cX4_init 68 = .ok (.return_, 1) := by decide +kernel
theorem dX5_init_0 : decode cX5_init 0 = .ok (.aload_n 0, 1) := by decide +kernel
theorem dX5_init_1 : decode cX5_init 1 = .ok (.invokespecial 3, 3) := by decide +kernel
theorem dX5_init_4 : decode cX5_init 4 = .ok (.aload_n 0, 1) := by decide +kernel
theorem dX5_init_5 : decode cX5_init 5 = .ok (.iconst 5, 1) := by decide +kernel
theorem dX5_init_6 : decode cX5_init 6 = .ok (.newarray .long, 2) := by decide +kernel
theorem dX5_init_8 : decode cX5_init 8 = .ok (.putfield 9, 3) := by decide +kernel
theorem dX5_init_11 : decode cX5_init 11 = .ok (.return_, 1) := by decide +kernel
theorem dX6_init_0 : decode cX6_init 0 = .ok (.aload_n 0, 1) := by decide +kernel
theorem dX6_init_1 : decode cX6_init 1 = .ok (.invokespecial 1, 3) := by decide +kernel
theorem dX6_init_4 : decode cX6_init 4 = .ok (.aload_n 0, 1) := by decide +kernel
theorem dX6_init_5 : decode cX6_init 5 = .ok (.iload_n 1, 1) := by decide +kernel
theorem dX6_init_6 : decode cX6_init 6 = .ok (.ifCond .le 7, 3) := by decide +kernel
theorem dX6_init_9 : decode cX6_init 9 = .ok (.iload_n 1, 1) := by decide +kernel
theorem dX6_init_10 : decode cX6_init 10 = .ok (.goto 4, 3) := by decide +kernel
theorem dX6_init_13 : decode cX6_init 13 = .ok (.iconst 1, 1) := by decide +kernel
theorem dX6_init_14 : decode cX6_init 14 = .ok (.newarray .long, 2) := by decide +kernel
theorem dX6_init_16 : decode cX6_init 16 = .ok (.putfield 7, 3) := by decide +kernel
theorem dX6_init_19 : decode cX6_init 19 = .ok (.return_, 1) := by decide +kernel
set_option maxRecDepth 20000 in
theorem ggX6_add_J7_copyOf_c38d5 : GoodIn wsX6_add wsJ7_copyOf_c38d5 := goodIn_r _ [7, 8, 9, 10, 11, 12, 13, 14, 15, 16, 17, 18, 19, 20, 21, 22] (by decide +kernel) (by decide +kernel)
set_option maxRecDepth 20000 in
theorem gX6_add_J7_copyOf_c38d5 : GoodIn wsX6_add (va_wsS RX6 18 yJ7_copyOf_c38d5 wsJ7_copyOf_c38d5) := goodIn_app (goodIn_of _ (by decide +kernel)) ggX6_add_J7_copyOf_c38d5
theorem dX6_add_0 : decode cX6_add 0 = .ok (.aload_n 0, 1) := by decide +kernel
theorem dX6_add_1 : decode cX6_add 1 = .ok (.getfield 13, 3) := by decide +kernel
theorem dX6_add_4 : decode cX6_add 4 = .ok (.ldc 17, 2) := by decide +kernel
theorem dX6_add_6 : decode cX6_add 6 = .ok (.if_icmp .lt 4, 3) := by decide +kernel
theorem dX6_add_9 : decode cX6_add 9 = .ok (.return_, 1) := by decide +kernel
theorem dX6_add_10 : decode cX6_add 10 = .ok (.aload_n 0, 1) := by decide +kernel
theorem dX6_add_11 : decode cX6_add 11 = .ok (.getfield 13, 3) := by decide +kernel
theorem dX6_add_14 : decode cX6_add 14 = .ok (.aload_n 0, 1) := by decide +kernel
theorem dX6_add_15 : decode cX6_add 15 = .ok (.getfield 7, 3) := by decide +kernel
theorem dX6_add_18 : decode cX6_add 18 = .ok (.arraylength, 1) := by decide +kernel
theorem dX6_add_19 : decode cX6_add 19 = .ok (.if_icmp .lt 20, 3) := by decide +kernel
theorem dX6_add_22 : decode cX6_add 22 = .ok (.aload_n 0, 1) := by decide +kernel
theorem dX6_add_23 : decode cX6_add 23 = .ok (.aload_n 0, 1) := by decide +kernel
theorem dX6_add_24 : decode cX6_add 24 = .ok (.getfield 7, 3) := by decide +kernel
theorem dX6_add_27 : decode cX6_add 27 = .ok (.aload_n 0, 1) := by decide +kernel
theorem dX6_add_28 : decode cX6_add 28 = .ok (.getfield 13, 3) := by decide +kernel
theorem dX6_add_31 : decode cX6_add 31 = .ok (.iconst 2, 1) := by decide +kernel
theorem dX6_add_32 : decode cX6_add 32 = .ok (.imul, 1) := by decide +kernel
theorem dX6_add_33 : decode cX6_add 33 = .ok (.invokestatic 18, 3) := by decide +kernel
theorem dX6_add_36 : decode cX6_add 36 = .ok (.putfield 7, 3) := by decide +kernel
theorem dX6_add_39 : decode cX6_add 39 = .ok (.aload_n 0, 1) := by decide +kernel
theorem dX6_add_40 : decode cX6_add 40 = .ok (.getfield 7, 3) := by decide +kernel
theorem dX6_add_43 : decode cX6_add 43 = .ok (.aload_n 0, 1) := by decide +kernel
theorem dX6_add_44 : decode cX6_add 44 = .ok (.getfield 13, 3) := by decide +kernel
theorem dX6_add_47 : decode cX6_add 47 = .ok (.lload_n 1, 1) := by decide +kernel
theorem dX6_add_48 : decode cX6_add 48 = .ok (.lastore, 1) := by decide +kernel
theorem dX6_add_49 : decode cX6_add 49 = .ok (.aload_n 0, 1) := by decide +kernel
theorem dX6_add_50 : decode cX6_add 50 = .ok (.dup, 1) := by decide +kernel
theorem dX6_add_51 : decode cX6_add 51 = .ok (.getfield 13, 3) := by decide +kernel
theorem dX6_add_54 : decode cX6_add 54 = .ok (.iconst 1, 1) := by decide +kernel
theorem dX6_add_55 : decode cX6_add 55 = .ok (.iadd, 1) := by decide +kernel
theorem dX6_add_56 : decode cX6_add 56 = .ok (.putfield 13, 3) := by decide +kernel
theorem dX6_add_59 : decode cX6_add 59 = .ok (.return_, 1) := by decide +kernel
theorem dX6_get_0 : decode cX6_get 0 = .ok (.iload_n 1, 1) := by decide +kernel
theorem dX6_get_1 : decode cX6_get 1 = .ok (.ifCond .lt 20, 3) := by decide +kernel
theorem dX6_get_4 : decode cX6_get 4 = .ok (.iload_n 1, 1) := by decide +kernel
theorem dX6_get_5 : decode cX6_get 5 = .ok (.aload_n 0, 1) := by decide +kernel
theorem dX6_get_6 : decode cX6_get 6 = .ok (.getfield 13, 3) := by decide +kernel
theorem dX6_get_9 : decode cX6_get 9 = .ok (.if_icmp .ge 12, 3) := by decide +kernel
theorem dX6_get_12 : decode cX6_get 12 = .ok (.aload_n 0, 1) := by decide +kernel
theorem dX6_get_13 : decode cX6_get 13 = .ok (.getfield 7, 3) := by decide +kernel
theorem dX6_get_16 : decode cX6_get 16 = .ok (.iload_n 1, 1) := by decide +kernel
theorem dX6_get_17 : decode cX6_get 17 = .ok (.laload, 1) := by decide +kernel
theorem dX6_get_18 : decode cX6_get 18 = .ok (.goto 4, 3) := by decide +kernel
theorem dX6_get_21 : decode cX6_get 21 = .ok (.lconst 0, 1) := by decide +kernel
theorem dX6_get_22 : decode cX6_get 22 = .ok (.lreturn, 1) := by decide +kernel
theorem dX6_at_0 : decode cX6_at 0 = .ok (.iload_n 1, 1) := by decide +kernel
theorem dX6_at_1 : decode cX6_at 1 = .ok (.ifCond .lt 21, 3) := by decide +kernel
theorem dX6_at_4 : decode cX6_at 4 = .ok (.iload_n 1, 1) := by decide +kernel
theorem dX6_at_5 : decode cX6_at 5 = .ok (.aload_n 0, 1) := by decide +kernel
theorem dX6_at_6 : decode cX6_at 6 = .ok (.getfield 13, 3) := by decide +kernel
theorem dX6_at_9 : decode cX6_at 9 = .ok (.if_icmp .ge 13, 3) := by decide +kernel
theorem dX6_at_12 : decode cX6_at 12 = .ok (.aload_n 0, 1) := by decide +kernel
theorem dX6_at_13 : decode cX6_at 13 = .ok (.getfield 7, 3) := by decide +kernel
theorem dX6_at_16 : decode cX6_at 16 = .ok (.iload_n 1, 1) := by decide +kernel
theorem dX6_at_17 : decode cX6_at 17 = .ok (.laload, 1) := by decide +kernel
theorem dX6_at_18 : decode cX6_at 18 = .ok (.l2i, 1) := by decide +kernel
theorem dX6_at_19 : decode cX6_at 19 = .ok (.goto 4, 3) := by decide +kernel
theorem dX6_at_22 : decode cX6_at 22 = .ok (.iconst 0, 1) := by decide +kernel
theorem dX6_at_23 : decode cX6_at 23 = .ok (.ireturn, 1) := by decide +kernel
theorem dX6_set_0 : decode cX6_set 0 = .ok (.iload_n 1, 1) := by decide +kernel
theorem dX6_set_1 : decode cX6_set 1 = .ok (.ifCond .lt 18, 3) := by decide +kernel
theorem dX6_set_4 : decode cX6_set 4 = .ok (.iload_n 1, 1) := by decide +kernel
theorem dX6_set_5 : decode cX6_set 5 = .ok (.aload_n 0, 1) := by decide +kernel
theorem dX6_set_6 : decode cX6_set 6 = .ok (.getfield 13, 3) := by decide +kernel
theorem dX6_set_9 : decode cX6_set 9 = .ok (.if_icmp .ge 10, 3) := by decide +kernel
theorem dX6_set_12 : decode cX6_set 12 = .ok (.aload_n 0, 1) := by decide +kernel
theorem dX6_set_13 : decode cX6_set 13 = .ok (.getfield 7, 3) := by decide +kernel
theorem dX6_set_16 : decode cX6_set 16 = .ok (.iload_n 1, 1) := by decide +kernel
theorem dX6_set_17 : decode cX6_set 17 = .ok (.lload_n 2, 1) := by decide +kernel
theorem dX6_set_18 : decode cX6_set 18 = .ok (.lastore, 1) := by decide +kernel
theorem dX6_set_19 : decode cX6_set 19 = .ok (.return_, 1) := by decide +kernel
theorem dX6_pop_0 : decode cX6_pop 0 = .ok (.aload_n 0, 1) := by decide +kernel
theorem dX6_pop_1 : decode cX6_pop 1 = .ok (.getfield 13, 3) := by decide +kernel
theorem dX6_pop_4 : decode cX6_pop 4 = .ok (.ifCond .gt 5, 3) := by decide +kernel
theorem dX6_pop_7 : decode cX6_pop 7 = .ok (.lconst 0, 1) := by decide +kernel
theorem dX6_pop_8 : decode cX6_pop 8 = .ok (.lreturn, 1) := by decide +kernel
theorem dX6_pop_9 : decode cX6_pop 9 = .ok (.aload_n 0, 1) := by decide +kernel
theorem dX6_pop_10 : decode cX6_pop 10 = .ok (.dup, 1) := by decide +kernel
theorem dX6_pop_11 : decode cX6_pop 11 = .ok (.getfield 13, 3) := by decide +kernel
theorem dX6_pop_14 : decode cX6_pop 14 = .ok (.iconst 1, 1) := by decide +kernel
theorem dX6_pop_15 : decode cX6_pop 15 = .ok (.isub, 1) := by decide +kernel
theorem dX6_pop_16 : decode cX6_pop 16 = .ok (.putfield 13, 3) := by decide +kernel
theorem dX6_pop_19 : decode cX6_pop 19 = .ok (.aload_n 0, 1) := by decide +kernel
theorem dX6_pop_20 : decode cX6_pop 20 = .ok (.getfield 7, 3) := by decide +kernel
theorem dX6_pop_23 : decode cX6_pop 23 = .ok (.aload_n 0, 1) := by decide +kernel
theorem dX6_pop_24 : decode cX6_pop 24 = .ok (.getfield 13, 3) := by decide +kernel
theorem dX6_pop_27 : decode cX6_pop 27 = .ok (.laload, 1) := by decide +kernel
theorem dX6_pop_28 : decode cX6_pop 28 = .ok (.lreturn, 1) := by decide +kernel
theorem dX6_cut_0 : decode cX6_cut 0 = .ok (.iload_n 1, 1) := by decide +kernel
theorem dX6_cut_1 : decode cX6_cut 1 = .ok (.ifCond .lt 16, 3) := by decide +kernel
theorem dX6_cut_4 : decode cX6_cut 4 = .ok (.iload_n 1, 1) := by decide +kernel
theorem dX6_cut_5 : decode cX6_cut 5 = .ok (.aload_n 0, 1) := by decide +kernel
theorem dX6_cut_6 : decode cX6_cut 6 = .ok (.getfield 13, 3) := by decide +kernel
theorem dX6_cut_9 : decode cX6_cut 9 = .ok (.if_icmp .ge 8, 3) := by decide +kernel
theorem dX6_cut_12 : decode cX6_cut 12 = .ok (.aload_n 0, 1) := by decide +kernel
theorem dX6_cut_13 : decode cX6_cut 13 = .ok (.iload_n 1, 1) := by decide +kernel
theorem dX6_cut_14 : decode cX6_cut 14 = .ok (.putfield 13, 3) := by decide +kernel
theorem dX6_cut_17 : decode cX6_cut 17 = .ok (.return_, 1) := by decide +kernel
set_option maxRecDepth 20000 in
theorem ggX6_addPair_X6_add : GoodIn wsX6_addPair wsX6_add := goodIn_r _ [5, 6, 7, 8, 9, 10, 11, 12, 13, 14, 15, 16, 17, 18, 19, 20, 21, 22, 23, 24, 25, 26, 27, 28, 29] (by decide +kernel) (by decide +kernel)
set_option maxRecDepth 20000 in
theorem gX6_addPair_X6_add : GoodIn wsX6_addPair (wsV RX6 24 RX6 yX6_add wsX6_add) := goodIn_app (goodIn_of _ (by decide +kernel)) ggX6_addPair_X6_add
theorem dX6_addPair_0 : decode cX6_addPair 0 = .ok (.aload_n 0, 1) := by decide +kernel
theorem dX6_addPair_1 : decode cX6_addPair 1 = .ok (.iload_n 1, 1) := by decide +kernel
theorem dX6_addPair_2 : decode cX6_addPair 2 = .ok (.bipush 8, 2) := by decide +kernel
theorem dX6_addPair_4 : decode cX6_addPair 4 = .ok (.iushr, 1) := by decide +kernel
theorem dX6_addPair_5 : decode cX6_addPair 5 = .ok (.sipush 255, 3) := by decide +kernel
theorem dX6_addPair_8 : decode cX6_addPair 8 = .ok (.iand, 1) := by decide +kernel
theorem dX6_addPair_9 : decode cX6_addPair 9 = .ok (.i2l, 1) := by decide +kernel
theorem dX6_addPair_10 : decode cX6_addPair 10 = .ok (.invokevirtual 24, 3) := by decide +kernel
theorem dX6_addPair_13 : decode cX6_addPair 13 = .ok (.aload_n 0, 1) := by decide +kernel
theorem dX6_addPair_14 : decode cX6_addPair 14 = .ok (.iload_n 1, 1) := by decide +kernel
theorem dX6_addPair_15 : decode cX6_addPair 15 = .ok (.sipush 255, 3) := by decide +kernel
theorem dX6_addPair_18 : decode cX6_addPair 18 = .ok (.iand, 1) := by decide +kernel
theorem dX6_addPair_19 : decode cX6_addPair 19 = .ok (.i2l, 1) := by decide +kernel
theorem dX6_addPair_20 : decode cX6_addPair 20 = .ok (.invokevirtual 24, 3) := by decide +kernel
theorem dX6_addPair_23 : decode cX6_addPair 23 = .ok (.return_, 1) := by decide +kernel
set_option maxRecDepth 20000 in
theorem ggX6_pairAt_X6_at : GoodIn wsX6_pairAt wsX6_at := goodIn_r _ [5, 6, 7, 8, 9] (by decide +kernel) (by decide +kernel)
set_option maxRecDepth 20000 in
theorem gX6_pairAt_X6_at : GoodIn wsX6_pairAt (wsV RX6 28 RX6 yX6_at wsX6_at) := goodIn_app (goodIn_of _ (by decide +kernel)) ggX6_pairAt_X6_at
theorem dX6_pairAt_0 : decode cX6_pairAt 0 = .ok (.aload_n 0, 1) := by decide +kernel
theorem dX6_pairAt_1 : decode cX6_pairAt 1 = .ok (.iload_n 1, 1) := by decide +kernel
theorem dX6_pairAt_2 : decode cX6_pairAt 2 = .ok (.invokevirtual 28, 3) := by decide +kernel
theorem dX6_pairAt_5 : decode cX6_pairAt 5 = .ok (.bipush 8, 2) := by decide +kernel
theorem dX6_pairAt_7 : decode cX6_pairAt 7 = .ok (.ishl, 1) := by decide +kernel
theorem dX6_pairAt_8 : decode cX6_pairAt 8 = .ok (.aload_n 0, 1) := by decide +kernel
theorem dX6_pairAt_9 : decode cX6_pairAt 9 = .ok (.iload_n 1, 1) := by decide +kernel
theorem dX6_pairAt_10 : decode cX6_pairAt 10 = .ok (.iconst 1, 1) := by decide +kernel
theorem dX6_pairAt_11 : decode cX6_pairAt 11 = .ok (.iadd, 1) := by decide +kernel
theorem dX6_pairAt_12 : decode cX6_pairAt 12 = .ok (.invokevirtual 28, 3) := by decide +kernel
theorem dX6_pairAt_15 : decode cX6_pairAt 15 = .ok (.ior, 1) := by decide +kernel
theorem dX6_pairAt_16 : decode cX6_pairAt 16 = .ok (.ireturn, 1) := by decide +kernel
set_option maxRecDepth 20000 in
theorem ggX7_init_X6_init : GoodIn wsX7_init wsX6_init := goodIn_r _ [17, 18, 2, 3, 19, 20, 39, 40] (by decide +kernel) (by decide +kernel)
set_option maxRecDepth 20000 in
theorem gX7_init_X6_init : GoodIn wsX7_init (wsX6_init) := ggX7_init_X6_init
theorem dX7_init_0 : decode cX7_init 0 = .ok (.aload_n 0, 1) := by decide +kernel
theorem dX7_init_1 : decode cX7_init 1 = .ok (.invokespecial 3, 3) := by decide +kernel
theorem dX7_init_4 : decode cX7_init 4 = .ok (.aload_n 0, 1) := by decide +kernel
theorem dX7_init_5 : decode cX7_init 5 = .ok (.bipush 60, 2) := by decide +kernel
theorem dX7_init_7 : decode cX7_init 7 = .ok (.newarray .int, 2) := by decide +kernel
theorem dX7_init_9 : decode cX7_init 9 = .ok (.putfield 9, 3) := by decide +kernel
theorem dX7_init_12 : decode cX7_init 12 = .ok (.aload_n 0, 1) := by decide +kernel
theorem dX7_init_13 : decode cX7_init 13 = .ok (.bipush 60, 2) := by decide +kernel
theorem dX7_init_15 : decode cX7_init 15 = .ok (.newarray .int, 2) := by decide +kernel
theorem dX7_init_17 : decode cX7_init 17 = .ok (.putfield 15, 3) := by decide +kernel
theorem dX7_init_20 : decode cX7_init 20 = .ok (.aload_n 0, 1) := by decide +kernel
theorem dX7_init_21 : decode cX7_init 21 = .ok (.bipush 60, 2) := by decide +kernel
theorem dX7_init_23 : decode cX7_init 23 = .ok (.newarray .int, 2) := by decide +kernel
theorem dX7_init_25 : decode cX7_init 25 = .ok (.putfield 18, 3) := by decide +kernel
theorem dX7_init_28 : decode cX7_init 28 = .ok (.aload_n 0, 1) := by decide +kernel
theorem dX7_init_29 : decode cX7_init 29 = .ok (.bipush 60, 2) := by decide +kernel
theorem dX7_init_31 : decode cX7_init 31 = .ok (.newarray .int, 2) := by decide +kernel
theorem dX7_init_33 : decode cX7_init 33 = .ok (.putfield 21, 3) := by decide +kernel
theorem dX7_init_36 : decode cX7_init 36 = .ok (.aload_n 0, 1) := by decide +kernel
theorem dX7_init_37 : decode cX7_init 37 = .ok (.bipush 60, 2) := by decide +kernel
theorem dX7_init_39 : decode cX7_init 39 = .ok (.newarray .int, 2) := by decide +kernel
theorem dX7_init_41 : decode cX7_init 41 = .ok (.putfield 24, 3) := by decide +kernel
theorem dX7_init_44 : decode cX7_init 44 = .ok (.aload_n 0, 1) := by decide +kernel
theorem dX7_init_45 : decode cX7_init 45 = .ok (.bipush 60, 2) := by decide +kernel
theorem dX7_init_47 : decode cX7_init 47 = .ok (.newarray .int, 2) := by decide +kernel
theorem dX7_init_49 : decode cX7_init 49 = .ok (.putfield 27, 3) := by decide +kernel
theorem dX7_init_52 : decode cX7_init 52 = .ok (.aload_n 0, 1) := by decide +kernel
theorem dX7_init_53 : decode cX7_init 53 = .ok (.new 30, 3) := by decide +kernel
theorem dX7_init_56 : decode cX7_init 56 = .ok (.dup, 1) := by decide +kernel
theorem dX7_init_57 : decode cX7_init 57 = .ok (.bipush 32, 2) := by decide +kernel
theorem dX7_init_59 : decode cX7_init 59 = .ok (.invokespecial 32, 3) := by decide +kernel
theorem dX7_init_62 : decode cX7_init 62 = .ok (.putfield 35, 3) := by decide +kernel
theorem dX7_init_65 : decode cX7_init 65 = .ok (.return_, 1) := by decide +kernel
theorem dX8_init_0 : decode cX8_init 0 = .ok (.aload_n 0, 1) := by decide +kernel
theorem dX8_init_1 : decode cX8_init 1 = .ok (.invokespecial 3, 3) := by decide +kernel
theorem dX8_init_4 : decode cX8_init 4 = .ok (.aload_n 0, 1) := by decide +kernel
theorem dX8_init_5 : decode cX8_init 5 = .ok (.aload_n 1, 1) := by decide +kernel
theorem dX8_init_6 : decode cX8_init 6 = .ok (.putfield 9, 3) := by decide +kernel
theorem dX8_init_9 : decode cX8_init 9 = .ok (.aload_n 0, 1) := by decide +kernel
theorem dX8_init_10 : decode cX8_init 10 = .ok (.bipush 60, 2) := by decide +kernel
theorem dX8_init_12 : decode cX8_init 12 = .ok (.newarray .int, 2) := by decide +kernel
theorem dX8_init_14 : decode cX8_init 14 = .ok (.putfield 15, 3) := by decide +kernel
theorem dX8_init_17 : decode cX8_init 17 = .ok (.return_, 1) := by decide +kernel
theorem dX8_forget_0 : decode cX8_forget 0 = .ok (.aload_n 0, 1) := by decide +kernel
theorem dX8_forget_1 : decode cX8_forget 1 = .ok (.iconst 0, 1) := by decide +kernel
theorem dX8_forget_2 : decode cX8_forget 2 = .ok (.putfield 19, 3) := by decide +kernel
theorem dX8_forget_5 : decode cX8_forget 5 = .ok (.return_, 1) := by decide +kernel
set_option maxRecDepth 20000 in
theorem ggX9_init_X6_init : GoodIn wsX9_init wsX6_init := goodIn_r _ [14, 15, 2, 3, 16, 17, 36, 37] (by decide +kernel) (by decide +kernel)
set_option maxRecDepth 20000 in
theorem gX9_init_X6_init : GoodIn wsX9_init (wsX6_init) := ggX9_init_X6_init
theorem dX9_init_0 : decode cX9_init 0 = .ok (.aload_n 0, 1) := by decide +kernel
theorem dX9_init_1 : decode cX9_init 1 = .ok (.invokespecial 3, 3) := by decide +kernel
theorem dX9_init_4 : decode cX9_init 4 = .ok (.aload_n 0, 1) := by decide +kernel
theorem dX9_init_5 : decode cX9_init 5 = .ok (.bipush 13, 2) := by decide +kernel
theorem dX9_init_7 : decode cX9_init 7 = .ok (.newarray .int, 2) := by decide +kernel
theorem dX9_init_9 : decode cX9_init 9 = .ok (.putfield 11, 3) := by decide +kernel
theorem dX9_init_12 : decode cX9_init 12 = .ok (.aload_n 0, 1) := by decide +kernel
theorem dX9_init_13 : decode cX9_init 13 = .ok (.new 15, 3) := by decide +kernel
theorem dX9_init_16 : decode cX9_init 16 = .ok (.dup, 1) := by decide +kernel
theorem dX9_init_17 : decode cX9_init 17 = .ok (.bipush 24, 2) := by decide +kernel
theorem dX9_init_19 : decode cX9_init 19 = .ok (.invokespecial 17, 3) := by decide +kernel
theorem dX9_init_22 : decode cX9_init 22 = .ok (.putfield 20, 3) := by decide +kernel
theorem dX9_init_25 : decode cX9_init 25 = .ok (.aload_n 0, 1) := by decide +kernel
theorem dX9_init_26 : decode cX9_init 26 = .ok (.new 15, 3) := by decide +kernel
theorem dX9_init_29 : decode cX9_init 29 = .ok (.dup, 1) := by decide +kernel
theorem dX9_init_30 : decode cX9_init 30 = .ok (.bipush 16, 2) := by decide +kernel
theorem dX9_init_32 : decode cX9_init 32 = .ok (.invokespecial 17, 3) := by decide +kernel
theorem dX9_init_35 : decode cX9_init 35 = .ok (.putfield 24, 3) := by decide +kernel
theorem dX9_init_38 : decode cX9_init 38 = .ok (.aload_n 0, 1) := by decide +kernel
theorem dX9_init_39 : decode cX9_init 39 = .ok (.new 15, 3) := by decide +kernel
theorem dX9_init_42 : decode cX9_init 42 = .ok (.dup, 1) := by decide +kernel
theorem dX9_init_43 : decode cX9_init 43 = .ok (.bipush 16, 2) := by decide +kernel
theorem dX9_init_45 : decode cX9_init 45 = .ok (.invokespecial 17, 3) := by decide +kernel
theorem dX9_init_48 : decode cX9_init 48 = .ok (.putfield 27, 3) := by decide +kernel
theorem dX9_init_51 : decode cX9_init 51 = .ok (.return_, 1) := by decide +kernel
set_option maxRecDepth 20000 in
theorem ggX10_init_X6_init : GoodIn wsX10_init wsX6_init := goodIn_r _ [15, 16, 2, 3, 4, 17, 82, 83] (by decide +kernel) (by decide +kernel)
set_option maxRecDepth 20000 in
theorem gX10_init_X6_init : GoodIn wsX10_init (wsX6_init) := ggX10_init_X6_init
set_option maxRecDepth 20000 in
theorem ggX10_init_J0_length_8abf5 : GoodIn wsX10_init wsJ0_length_8abf5 := goodIn_r _ [22, 23, 24, 25, 26, 21, 27, 28, 29] (by decide +kernel) (by decide +kernel)
set_option maxRecDepth 20000 in
theorem gX10_init_J0_length_8abf5 : GoodIn wsX10_init (wsV RX10 33 RJ0 yJ0_length_8abf5 wsJ0_length_8abf5) := goodIn_app (goodIn_of _ (by decide +kernel)) ggX10_init_J0_length_8abf5
set_option maxRecDepth 20000 in
theorem ggX10_init_J0_charAt_5068e : GoodIn wsX10_init wsJ0_charAt_5068e := goodIn_r _ [33, 23, 34, 35, 36, 21, 37, 28, 29, 38, 39, 40, 41, 42, 43, 44, 45, 46, 47, 48, 49, 50, 51, 52, 53, 54, 55, 56, 57, 58, 59, 60, 61, 62, 63, 64, 65, 66] (by decide +kernel) (by decide +kernel)
set_option maxRecDepth 20000 in
theorem gX10_init_J0_charAt_5068e : GoodIn wsX10_init (wsV RX10 39 RJ0 yJ0_charAt_5068e wsJ0_charAt_5068e) := goodIn_app (goodIn_of _ (by decide +kernel)) ggX10_init_J0_charAt_5068e
set_option maxRecDepth 20000 in
theorem ggX10_init_X10_codeWith : GoodIn wsX10_init wsX10_codeWith := goodIn_r _ [70] (by decide +kernel) (by decide +kernel)
set_option maxRecDepth 20000 in
theorem gX10_init_X10_codeWith : GoodIn wsX10_init (va_wsS RX10 43 yX10_codeWith wsX10_codeWith) := goodIn_app (goodIn_of _ (by decide +kernel)) ggX10_init_X10_codeWith
theorem dX10_init_0 : decode cX10_init 0 = .ok (.aload_n 0, 1) := by decide +kernel
theorem dX10_init_1 : decode cX10_init 1 = .ok (.invokespecial 3, 3) := by decide +kernel
theorem dX10_init_4 : decode cX10_init 4 = .ok (.aload_n 0, 1) := by decide +kernel
theorem dX10_init_5 : decode cX10_init 5 = .ok (.bipush 23, 2) := by decide +kernel
theorem dX10_init_7 : decode cX10_init 7 = .ok (.newarray .long, 2) := by decide +kernel
theorem dX10_init_9 : decode cX10_init 9 = .ok (.putfield 11, 3) := by decide +kernel
theorem dX10_init_12 : decode cX10_init 12 = .ok (.aload_n 0, 1) := by decide +kernel
theorem dX10_init_13 : decode cX10_init 13 = .ok (.new 15, 3) := by decide +kernel
theorem dX10_init_16 : decode cX10_init 16 = .ok (.dup, 1) := by decide +kernel
theorem dX10_init_17 : decode cX10_init 17 = .ok (.sipush 192, 3) := by decide +kernel
theorem dX10_init_20 : decode cX10_init 20 = .ok (.invokespecial 17, 3) := by decide +kernel
theorem dX10_init_23 : decode cX10_init 23 = .ok (.putfield 20, 3) := by decide +kernel
theorem dX10_init_26 : decode cX10_init 26 = .ok (.aload_n 0, 1) := by decide +kernel
theorem dX10_init_27 : decode cX10_init 27 = .ok (.new 15, 3) := by decide +kernel
theorem dX10_init_30 : decode cX10_init 30 = .ok (.dup, 1) := by decide +kernel
theorem dX10_init_31 : decode cX10_init 31 = .ok (.bipush 64, 2) := by decide +kernel
theorem dX10_init_33 : decode cX10_init 33 = .ok (.invokespecial 17, 3) := by decide +kernel
theorem dX10_init_36 : decode cX10_init 36 = .ok (.putfield 24, 3) := by decide +kernel
theorem dX10_init_39 : decode cX10_init 39 = .ok (.aload_n 0, 1) := by decide +kernel
theorem dX10_init_40 : decode cX10_init 40 = .ok (.iconst 1, 1) := by decide +kernel
theorem dX10_init_41 : decode cX10_init 41 = .ok (.newarray .byte, 2) := by decide +kernel
theorem dX10_init_43 : decode cX10_init 43 = .ok (.putfield 27, 3) := by decide +kernel
theorem dX10_init_46 : decode cX10_init 46 = .ok (.iconst 0, 1) := by decide +kernel
theorem dX10_init_47 : decode cX10_init 47 = .ok (.istore_n 1, 1) := by decide +kernel
theorem dX10_init_48 : decode cX10_init 48 = .ok (.lconst 0, 1) := by decide +kernel
theorem dX10_init_49 : decode cX10_init 49 = .ok (.lstore_n 2, 1) := by decide +kernel
theorem dX10_init_50 : decode cX10_init 50 = .ok (.iconst 0, 1) := by decide +kernel
theorem dX10_init_51 : decode cX10_init 51 = .ok (.istore 4, 2) := by decide +kernel
theorem dX10_init_53 : decode cX10_init 53 = .ok (.iload 4, 2) := by decide +kernel
theorem dX10_init_55 : decode cX10_init 55 = .ok (.ldc 31, 2) := by decide +kernel
theorem dX10_init_57 : decode cX10_init 57 = .ok (.invokevirtual 33, 3) := by decide +kernel
theorem dX10_init_60 : decode cX10_init 60 = .ok (.if_icmp .ge 54, 3) := by decide +kernel
theorem dX10_init_63 : decode cX10_init 63 = .ok (.iload_n 1, 1) := by decide +kernel
theorem dX10_init_64 : decode cX10_init 64 = .ok (.bipush 23, 2) := by decide +kernel
theorem dX10_init_66 : decode cX10_init 66 = .ok (.if_icmp .ge 48, 3) := by decide +kernel
theorem dX10_init_69 : decode cX10_init 69 = .ok (.ldc 31, 2) := by decide +kernel
theorem dX10_init_71 : decode cX10_init 71 = .ok (.iload 4, 2) := by decide +kernel
theorem dX10_init_73 : decode cX10_init 73 = .ok (.invokevirtual 39, 3) := by decide +kernel
theorem dX10_init_76 : decode cX10_init 76 = .ok (.bipush 32, 2) := by decide +kernel
theorem dX10_init_78 : decode cX10_init 78 = .ok (.if_icmp .ne 18, 3) := by decide +kernel
theorem dX10_init_81 : decode cX10_init 81 = .ok (.aload_n 0, 1) := by decide +kernel
theorem dX10_init_82 : decode cX10_init 82 = .ok (.getfield 11, 3) := by decide +kernel
theorem dX10_init_85 : decode cX10_init 85 = .ok (.iload_n 1, 1) := by decide +kernel
theorem dX10_init_86 : decode cX10_init 86 = .ok (.lload_n 2, 1) := by decide +kernel
theorem dX10_init_87 : decode cX10_init 87 = .ok (.lastore, 1) := by decide +kernel
theorem dX10_init_88 : decode cX10_init 88 = .ok (.iinc 1 1, 3) := by decide +kernel
theorem dX10_init_91 : decode cX10_init 91 = .ok (.lconst 0, 1) := by decide +kernel
theorem dX10_init_92 : decode cX10_init 92 = .ok (.lstore_n 2, 1) := by decide +kernel
theorem dX10_init_93 : decode cX10_init 93 = .ok (.goto 15, 3) := by decide +kernel
theorem dX10_init_96 : decode cX10_init 96 = .ok (.lload_n 2, 1) := by decide +kernel
theorem dX10_init_97 : decode cX10_init 97 = .ok (.ldc 31, 2) := by decide +kernel
theorem dX10_init_99 : decode cX10_init 99 = .ok (.iload 4, 2) := by decide +kernel
theorem dX10_init_101 : decode cX10_init 101 = .ok (.invokevirtual 39, 3) := by decide +kernel
theorem dX10_init_104 : decode cX10_init 104 = .ok (.invokestatic 43, 3) := by decide +kernel
theorem dX10_init_107 : decode cX10_init 107 = .ok (.lstore_n 2, 1) := by decide +kernel
theorem dX10_init_108 : decode cX10_init 108 = .ok (.iinc 4 1, 3) := by decide +kernel
theorem dX10_init_111 : decode cX10_init 111 = .ok (.goto (-58), 3) := by decide +kernel
theorem dX10_init_114 : decode cX10_init 114 = .ok (.return_, 1) := by decide +kernel
theorem dX10_codeWith_0 : decode cX10_codeWith 0 = .ok (.lload_n 0, 1) := by decide +kernel
theorem dX10_codeWith_1 : decode cX10_codeWith 1 = .ok (.bipush 6, 2) := by decide +kernel
theorem dX10_codeWith_3 : decode cX10_codeWith 3 = .ok (.lshl, 1) := by decide +kernel
theorem dX10_codeWith_4 : decode cX10_codeWith 4 = .ok (.iload_n 2, 1) := by decide +kernel
theorem dX10_codeWith_5 : decode cX10_codeWith 5 = .ok (.bipush 97, 2) := by decide +kernel
theorem dX10_codeWith_7 : decode cX10_codeWith 7 = .ok (.if_icmp .lt 12, 3) := by decide +kernel
theorem dX10_codeWith_10 : decode cX10_codeWith 10 = .ok (.iload_n 2, 1) := by decide +kernel
theorem dX10_codeWith_11 : decode cX10_codeWith 11 = .ok (.bipush 97, 2) := by decide +kernel
theorem dX10_codeWith_13 : decode cX10_codeWith 13 = .ok (.isub, 1) := by decide +kernel
theorem dX10_codeWith_14 : decode cX10_codeWith 14 = .ok (.iconst 1, 1) := by decide +kernel
theorem dX10_codeWith_15 : decode cX10_codeWith 15 = .ok (.iadd, 1) := by decide +kernel
theorem dX10_codeWith_16 : decode cX10_codeWith 16 = .ok (.goto 10, 3) := by decide +kernel
theorem dX10_codeWith_19 : decode cX10_codeWith 19 = .ok (.iload_n 2, 1) := by decide +kernel
theorem dX10_codeWith_20 : decode cX10_codeWith 20 = .ok (.bipush 48, 2) := by decide +kernel
theorem dX10_codeWith_22 : decode cX10_codeWith 22 = .ok (.isub, 1) := by decide +kernel
theorem dX10_codeWith_23 : decode cX10_codeWith 23 = .ok (.bipush 27, 2) := by decide +kernel
theorem dX10_codeWith_25 : decode cX10_codeWith 25 = .ok (.iadd, 1) := by decide +kernel
theorem dX10_codeWith_26 : decode cX10_codeWith 26 = .ok (.i2l, 1) := by decide +kernel
theorem dX10_codeWith_27 : decode cX10_codeWith 27 = .ok (.lor, 1) := by decide +kernel
theorem dX10_codeWith_28 : decode cX10_codeWith 28 = .ok (.lreturn, 1) := by decide +kernel
set_option maxRecDepth 20000 in
theorem ggX10_begin_X6_cut : GoodIn wsX10_begin wsX6_cut := goodIn_r _ [12, 13, 210, 211] (by decide +kernel) (by decide +kernel)
set_option maxRecDepth 20000 in
theorem gX10_begin_X6_cut : GoodIn wsX10_begin (wsV RX10 59 RX6 yX6_cut wsX6_cut) := goodIn_app (goodIn_of _ (by decide +kernel)) ggX10_begin_X6_cut
set_option maxRecDepth 20000 in
theorem ggX10_begin_X10_findWord : GoodIn wsX10_begin wsX10_findWord := goodIn_r _ [18, 4, 6, 19, 20, 21, 22, 17, 23, 2, 24, 25, 26, 27, 1, 28, 29, 30, 31, 32, 33, 34, 11, 35, 13, 36, 37, 38, 39, 40, 41, 42, 43, 44, 45, 46, 47, 48, 49, 50, 51, 52, 53, 54, 55, 56, 57, 58, 59, 60, 61, 62, 63, 64, 65, 66, 67, 68, 69, 70, 71, 72, 73, 74, 75, 76, 77, 78, 79, 80, 81, 82, 83, 84, 7, 85, 3, 86, 87, 88, 89, 90, 91, 92, 93, 94, 95, 96, 97, 98, 99, 100, 101, 102, 103, 104, 105, 106, 107, 108, 109, 110, 111, 112, 113, 114, 115, 116, 117, 118, 119, 120, 121, 122, 123, 124, 125, 126, 127, 128, 129, 130, 131, 132, 133, 134, 135, 136, 137, 138, 139, 140, 141, 142, 143, 144, 145, 146, 147, 148, 149, 150, 151, 152, 153, 154, 155, 156, 157, 158, 159, 160, 161, 162, 163, 164, 165, 166, 167, 168, 169, 170, 171, 172, 173, 174, 175, 176, 177, 178, 179, 180, 181, 182, 183, 184, 185, 186, 187, 199, 200, 201, 202, 203, 204, 205, 206, 207, 208, 209, 210, 211] (by decide +kernel) (by decide +kernel)
set_option maxRecDepth 20000 in
theorem gX10_begin_X10_findWord : GoodIn wsX10_begin (wsV RX10 62 RX10 yX10_findWord wsX10_findWord) := goodIn_app (goodIn_of _ (by decide +kernel)) ggX10_begin_X10_findWord
set_option maxRecDepth 20000 in
theorem ggX10_begin_X10_advance : GoodIn wsX10_begin wsX10_advance := goodIn_r _ [191, 6, 5, 192, 193, 194, 184, 185, 186, 11, 187, 13, 37, 195, 196, 197, 198, 199, 200, 201, 202, 203, 204, 205, 206, 207, 208, 209, 210, 211] (by decide +kernel) (by decide +kernel)
set_option maxRecDepth 20000 in
theorem gX10_begin_X10_advance : GoodIn wsX10_begin (wsV RX10 66 RX10 yX10_advance wsX10_advance) := goodIn_app (goodIn_of _ (by decide +kernel)) ggX10_begin_X10_advance
theorem dX10_begin_0 : decode cX10_begin 0 = .ok (.aload_n 0, 1) := by decide +kernel
theorem dX10_begin_1 : decode cX10_begin 1 = .ok (.aload_n 1, 1) := by decide +kernel
theorem dX10_begin_2 : decode cX10_begin 2 = .ok (.putfield 27, 3) := by decide +kernel
theorem dX10_begin_5 : decode cX10_begin 5 = .ok (.aload_n 0, 1) := by decide +kernel
theorem dX10_begin_6 : decode cX10_begin 6 = .ok (.iload_n 2, 1) := by decide +kernel
theorem dX10_begin_7 : decode cX10_begin 7 = .ok (.putfield 47, 3) := by decide +kernel
theorem dX10_begin_10 : decode cX10_begin 10 = .ok (.aload_n 0, 1) := by decide +kernel
theorem dX10_begin_11 : decode cX10_begin 11 = .ok (.iload_n 3, 1) := by decide +kernel
theorem dX10_begin_12 : decode cX10_begin 12 = .ok (.putfield 50, 3) := by decide +kernel
theorem dX10_begin_15 : decode cX10_begin 15 = .ok (.aload_n 0, 1) := by decide +kernel
theorem dX10_begin_16 : decode cX10_begin 16 = .ok (.iconst 0, 1) := by decide +kernel
theorem dX10_begin_17 : decode cX10_begin 17 = .ok (.putfield 53, 3) := by decide +kernel
theorem dX10_begin_20 : decode cX10_begin 20 = .ok (.aload_n 0, 1) := by decide +kernel
theorem dX10_begin_21 : decode cX10_begin 21 = .ok (.iconst 0, 1) := by decide +kernel
theorem dX10_begin_22 : decode cX10_begin 22 = .ok (.putfield 56, 3) := by decide +kernel
theorem dX10_begin_25 : decode cX10_begin 25 = .ok (.aload_n 0, 1) := by decide +kernel
theorem dX10_begin_26 : decode cX10_begin 26 = .ok (.getfield 20, 3) := by decide +kernel
theorem dX10_begin_29 : decode cX10_begin 29 = .ok (.iconst 0, 1) := by decide +kernel
theorem dX10_begin_30 : decode cX10_begin 30 = .ok (.invokevirtual 59, 3) := by decide +kernel
theorem dX10_begin_33 : decode cX10_begin 33 = .ok (.aload_n 0, 1) := by decide +kernel
theorem dX10_begin_34 : decode cX10_begin 34 = .ok (.getfield 24, 3) := by decide +kernel
theorem dX10_begin_37 : decode cX10_begin 37 = .ok (.iconst 0, 1) := by decide +kernel
theorem dX10_begin_38 : decode cX10_begin 38 = .ok (.invokevirtual 59, 3) := by decide +kernel
theorem dX10_begin_41 : decode cX10_begin 41 = .ok (.iconst 1, 1) := by decide +kernel
theorem dX10_begin_42 : decode cX10_begin 42 = .ok (.istore 4, 2) := by decide +kernel
theorem dX10_begin_44 : decode cX10_begin 44 = .ok (.iconst 0, 1) := by decide +kernel
theorem dX10_begin_45 : decode cX10_begin 45 = .ok (.istore 5, 2) := by decide +kernel
theorem dX10_begin_47 : decode cX10_begin 47 = .ok (.iload 4, 2) := by decide +kernel
theorem dX10_begin_49 : decode cX10_begin 49 = .ok (.ifCond .eq 21, 3) := by decide +kernel
theorem dX10_begin_52 : decode cX10_begin 52 = .ok (.iload 5, 2) := by decide +kernel
theorem dX10_begin_54 : decode cX10_begin 54 = .ok (.iload_n 2, 1) := by decide +kernel
theorem dX10_begin_55 : decode cX10_begin 55 = .ok (.if_icmp .gt 15, 3) := by decide +kernel
theorem dX10_begin_58 : decode cX10_begin 58 = .ok (.aload_n 0, 1) := by decide +kernel
theorem dX10_begin_59 : decode cX10_begin 59 = .ok (.invokevirtual 62, 3) := by decide +kernel
theorem dX10_begin_62 : decode cX10_begin 62 = .ok (.istore 4, 2) := by decide +kernel
theorem dX10_begin_64 : decode cX10_begin 64 = .ok (.iinc 5 1, 3) := by decide +kernel
theorem dX10_begin_67 : decode cX10_begin 67 = .ok (.goto (-20), 3) := by decide +kernel
theorem dX10_begin_70 : decode cX10_begin 70 = .ok (.aload_n 0, 1) := by decide +kernel
theorem dX10_begin_71 : decode cX10_begin 71 = .ok (.invokevirtual 66, 3) := by decide +kernel
theorem dX10_begin_74 : decode cX10_begin 74 = .ok (.return_, 1) := by decide +kernel
set_option maxRecDepth 20000 in
theorem ggX10_advance_X6_at : GoodIn wsX10_advance wsX6_at := goodIn_r _ [10, 11, 12, 28, 29] (by decide +kernel) (by decide +kernel)
set_option maxRecDepth 20000 in
theorem gX10_advance_X6_at : GoodIn wsX10_advance (wsV RX10 69 RX6 yX6_at wsX6_at) := goodIn_app (goodIn_of _ (by decide +kernel)) ggX10_advance_X6_at
set_option maxRecDepth 20000 in
theorem ggX10_advance_X6_get : GoodIn wsX10_advance wsX6_get := goodIn_r _ [16, 11, 12, 28, 29] (by decide +kernel) (by decide +kernel)
set_option maxRecDepth 20000 in
theorem gX10_advance_X6_get : GoodIn wsX10_advance (wsV RX10 78 RX6 yX6_get wsX6_get) := goodIn_app (goodIn_of _ (by decide +kernel)) ggX10_advance_X6_get
theorem dX10_advance_0 : decode cX10_advance 0 = .ok (.aload_n 0, 1) := by decide +kernel
theorem dX10_advance_1 : decode cX10_advance 1 = .ok (.aload_n 0, 1) := by decide +kernel
theorem dX10_advance_2 : decode cX10_advance 2 = .ok (.getfield 20, 3) := by decide +kernel
theorem dX10_advance_5 : decode cX10_advance 5 = .ok (.aload_n 0, 1) := by decide +kernel
theorem dX10_advance_6 : decode cX10_advance 6 = .ok (.getfield 56, 3) := by decide +kernel
theorem dX10_advance_9 : decode cX10_advance 9 = .ok (.iconst 3, 1) := by decide +kernel
theorem dX10_advance_10 : decode cX10_advance 10 = .ok (.imul, 1) := by decide +kernel
theorem dX10_advance_11 : decode cX10_advance 11 = .ok (.invokevirtual 69, 3) := by decide +kernel
theorem dX10_advance_14 : decode cX10_advance 14 = .ok (.putfield 73, 3) := by decide +kernel
theorem dX10_advance_17 : decode cX10_advance 17 = .ok (.aload_n 0, 1) := by decide +kernel
theorem dX10_advance_18 : decode cX10_advance 18 = .ok (.aload_n 0, 1) := by decide +kernel
theorem dX10_advance_19 : decode cX10_advance 19 = .ok (.getfield 20, 3) := by decide +kernel
theorem dX10_advance_22 : decode cX10_advance 22 = .ok (.aload_n 0, 1) := by decide +kernel
theorem dX10_advance_23 : decode cX10_advance 23 = .ok (.getfield 56, 3) := by decide +kernel
theorem dX10_advance_26 : decode cX10_advance 26 = .ok (.iconst 3, 1) := by decide +kernel
theorem dX10_advance_27 : decode cX10_advance 27 = .ok (.imul, 1) := by decide +kernel
theorem dX10_advance_28 : decode cX10_advance 28 = .ok (.iconst 1, 1) := by decide +kernel
theorem dX10_advance_29 : decode cX10_advance 29 = .ok (.iadd, 1) := by decide +kernel
theorem dX10_advance_30 : decode cX10_advance 30 = .ok (.invokevirtual 69, 3) := by decide +kernel
theorem dX10_advance_33 : decode cX10_advance 33 = .ok (.putfield 76, 3) := by decide +kernel
theorem dX10_advance_36 : decode cX10_advance 36 = .ok (.aload_n 0, 1) := by decide +kernel
theorem dX10_advance_37 : decode cX10_advance 37 = .ok (.aload_n 0, 1) := by decide +kernel
theorem dX10_advance_38 : decode cX10_advance 38 = .ok (.getfield 20, 3) := by decide +kernel
theorem dX10_advance_41 : decode cX10_advance 41 = .ok (.aload_n 0, 1) := by decide +kernel
theorem dX10_advance_42 : decode cX10_advance 42 = .ok (.getfield 56, 3) := by decide +kernel
theorem dX10_advance_45 : decode cX10_advance 45 = .ok (.iconst 3, 1) := by decide +kernel
theorem dX10_advance_46 : decode cX10_advance 46 = .ok (.imul, 1) := by decide +kernel
theorem dX10_advance_47 : decode cX10_advance 47 = .ok (.iconst 2, 1) := by decide +kernel
theorem dX10_advance_48 : decode cX10_advance 48 = .ok (.iadd, 1) := by decide +kernel
theorem dX10_advance_49 : decode cX10_advance 49 = .ok (.invokevirtual 78, 3) := by decide +kernel
theorem dX10_advance_52 : decode cX10_advance 52 = .ok (.putfield 82, 3) := by decide +kernel
theorem dX10_advance_55 : decode cX10_advance 55 = .ok (.aload_n 0, 1) := by decide +kernel
theorem dX10_advance_56 : decode cX10_advance 56 = .ok (.dup, 1) := by decide +kernel
theorem dX10_advance_57 : decode cX10_advance 57 = .ok (.getfield 56, 3) := by decide +kernel
theorem dX10_advance_60 : decode cX10_advance 60 = .ok (.iconst 1, 1) := by decide +kernel
theorem dX10_advance_61 : decode cX10_advance 61 = .ok (.iadd, 1) := by decide +kernel
theorem dX10_advance_62 : decode cX10_advance 62 = .ok (.putfield 56, 3) := by decide +kernel
theorem dX10_advance_65 : decode cX10_advance 65 = .ok (.return_, 1) := by decide +kernel
theorem dX10_byteAt_0 : decode cX10_byteAt 0 = .ok (.iload_n 1, 1) := by decide +kernel
theorem dX10_byteAt_1 : decode cX10_byteAt 1 = .ok (.ifCond .lt 33, 3) := by decide +kernel
theorem dX10_byteAt_4 : decode cX10_byteAt 4 = .ok (.iload_n 1, 1) := by decide +kernel
theorem dX10_byteAt_5 : decode cX10_byteAt 5 = .ok (.aload_n 0, 1) := by decide +kernel
theorem dX10_byteAt_6 : decode cX10_byteAt 6 = .ok (.getfield 47, 3) := by decide +kernel
theorem dX10_byteAt_9 : decode cX10_byteAt 9 = .ok (.if_icmp .ge 25, 3) := by decide +kernel
theorem dX10_byteAt_12 : decode cX10_byteAt 12 = .ok (.iload_n 1, 1) := by decide +kernel
theorem dX10_byteAt_13 : decode cX10_byteAt 13 = .ok (.aload_n 0, 1) := by decide +kernel
theorem dX10_byteAt_14 : decode cX10_byteAt 14 = .ok (.getfield 27, 3) := by decide +kernel
theorem dX10_byteAt_17 : decode cX10_byteAt 17 = .ok (.arraylength, 1) := by decide +kernel
theorem dX10_byteAt_18 : decode cX10_byteAt 18 = .ok (.if_icmp .ge 16, 3) := by decide +kernel
theorem dX10_byteAt_21 : decode cX10_byteAt 21 = .ok (.aload_n 0, 1) := by decide +kernel
theorem dX10_byteAt_22 : decode cX10_byteAt 22 = .ok (.getfield 27, 3) := by decide +kernel
theorem dX10_byteAt_25 : decode cX10_byteAt 25 = .ok (.iload_n 1, 1) := by decide +kernel
theorem dX10_byteAt_26 : decode cX10_byteAt 26 = .ok (.baload, 1) := by decide +kernel
theorem dX10_byteAt_27 : decode cX10_byteAt 27 = .ok (.sipush 255, 3) := by decide +kernel
theorem dX10_byteAt_30 : decode cX10_byteAt 30 = .ok (.iand, 1) := by decide +kernel
theorem dX10_byteAt_31 : decode cX10_byteAt 31 = .ok (.goto 4, 3) := by decide +kernel
theorem dX10_byteAt_34 : decode cX10_byteAt 34 = .ok (.iconst (-1), 1) := by decide +kernel
theorem dX10_byteAt_35 : decode cX10_byteAt 35 = .ok (.ireturn, 1) := by decide +kernel
set_option maxRecDepth 20000 in
theorem ggX10_addWord_X6_add : GoodIn wsX10_addWord wsX6_add := goodIn_r _ [6, 7, 8, 9, 10, 11, 12, 13, 14, 15, 16, 17, 18, 19, 20, 21, 22, 23, 24, 25, 26, 27, 28, 40, 41] (by decide +kernel) (by decide +kernel)
set_option maxRecDepth 20000 in
theorem gX10_addWord_X6_add : GoodIn wsX10_addWord (wsV RX10 111 RX6 yX6_add wsX6_add) := goodIn_app (goodIn_of _ (by decide +kernel)) ggX10_addWord_X6_add
theorem dX10_addWord_0 : decode cX10_addWord 0 = .ok (.aload_n 0, 1) := by decide +kernel
theorem dX10_addWord_1 : decode cX10_addWord 1 = .ok (.getfield 20, 3) := by decide +kernel
theorem dX10_addWord_4 : decode cX10_addWord 4 = .ok (.iload_n 1, 1) := by decide +kernel
theorem dX10_addWord_5 : decode cX10_addWord 5 = .ok (.i2l, 1) := by decide +kernel
theorem dX10_addWord_6 : decode cX10_addWord 6 = .ok (.invokevirtual 111, 3) := by decide +kernel
theorem dX10_addWord_9 : decode cX10_addWord 9 = .ok (.aload_n 0, 1) := by decide +kernel
theorem dX10_addWord_10 : decode cX10_addWord 10 = .ok (.getfield 20, 3) := by decide +kernel
theorem dX10_addWord_13 : decode cX10_addWord 13 = .ok (.iload_n 2, 1) := by decide +kernel
theorem dX10_addWord_14 : decode cX10_addWord 14 = .ok (.i2l, 1) := by decide +kernel
theorem dX10_addWord_15 : decode cX10_addWord 15 = .ok (.invokevirtual 111, 3) := by decide +kernel
theorem dX10_addWord_18 : decode cX10_addWord 18 = .ok (.aload_n 0, 1) := by decide +kernel
theorem dX10_addWord_19 : decode cX10_addWord 19 = .ok (.getfield 20, 3) := by decide +kernel
theorem dX10_addWord_22 : decode cX10_addWord 22 = .ok (.lload_n 3, 1) := by decide +kernel
theorem dX10_addWord_23 : decode cX10_addWord 23 = .ok (.invokevirtual 111, 3) := by decide +kernel
theorem dX10_addWord_26 : decode cX10_addWord 26 = .ok (.return_, 1) := by decide +kernel
set_option maxRecDepth 20000 in
theorem ggX10_findWord_X10_skipBlanks : GoodIn wsX10_findWord wsX10_skipBlanks := goodIn_r _ [8, 1, 9, 10, 11, 12, 7, 13, 14, 179, 180, 181, 182, 183, 184, 185, 186, 187, 188, 189] (by decide +kernel) (by decide +kernel)
set_option maxRecDepth 20000 in
theorem gX10_findWord_X10_skipBlanks : GoodIn wsX10_findWord (wsV RX10 114 RX10 yX10_skipBlanks wsX10_skipBlanks) := goodIn_app (goodIn_of _ (by decide +kernel)) ggX10_findWord_X10_skipBlanks
set_option maxRecDepth 20000 in
theorem ggX10_findWord_X10_byteAt : GoodIn wsX10_findWord wsX10_byteAt := goodIn_r _ [13, 9, 14, 179, 180, 181, 182, 183, 184, 185, 186, 187, 188, 189] (by decide +kernel) (by decide +kernel)
set_option maxRecDepth 20000 in
theorem gX10_findWord_X10_byteAt : GoodIn wsX10_findWord (wsV RX10 101 RX10 yX10_byteAt wsX10_byteAt) := goodIn_app (goodIn_of _ (by decide +kernel)) ggX10_findWord_X10_byteAt
set_option maxRecDepth 20000 in
theorem ggX10_findWord_X10_addWord : GoodIn wsX10_findWord wsX10_addWord := goodIn_r _ [18, 2, 19, 20, 21, 22, 23, 24, 25, 26, 27, 28, 29, 30, 31, 32, 33, 34, 35, 36, 37, 38, 39, 40, 41, 42, 43, 44, 45, 179, 180, 181, 182, 183, 184, 185, 186, 187, 188, 189, 190, 191] (by decide +kernel) (by decide +kernel)
set_option maxRecDepth 20000 in
theorem gX10_findWord_X10_addWord : GoodIn wsX10_findWord (wsV RX10 117 RX10 yX10_addWord wsX10_addWord) := goodIn_app (goodIn_of _ (by decide +kernel)) ggX10_findWord_X10_addWord
set_option maxRecDepth 20000 in
theorem ggX10_findWord_X10_isLetter : GoodIn wsX10_findWord wsX10_isLetter := goodIn_r _ [48] (by decide +kernel) (by decide +kernel)
set_option maxRecDepth 20000 in
theorem gX10_findWord_X10_isLetter : GoodIn wsX10_findWord (va_wsS RX10 104 yX10_isLetter wsX10_isLetter) := goodIn_app (goodIn_of _ (by decide +kernel)) ggX10_findWord_X10_isLetter
set_option maxRecDepth 20000 in
theorem ggX10_findWord_X10_findName : GoodIn wsX10_findWord wsX10_findName := goodIn_r _ [52, 1, 9, 53, 54, 55, 56, 7, 57, 10, 11, 12, 13, 14, 46, 47, 48, 58, 59, 60, 61, 62, 63, 15, 16, 17, 18, 2, 19, 20, 21, 22, 23, 24, 25, 26, 27, 28, 29, 30, 31, 32, 33, 34, 35, 36, 37, 38, 39, 40, 41, 42, 43, 44, 45, 179, 180, 181, 182, 183, 184, 185, 186, 187, 188, 189, 190, 191] (by decide +kernel) (by decide +kernel)
set_option maxRecDepth 20000 in
theorem gX10_findWord_X10_findName : GoodIn wsX10_findWord (wsV RX10 121 RX10 yX10_findName wsX10_findName) := goodIn_app (goodIn_of _ (by decide +kernel)) ggX10_findWord_X10_findName
set_option maxRecDepth 20000 in
theorem ggX10_findWord_X10_isDigit : GoodIn wsX10_findWord wsX10_isDigit := goodIn_r _ [60] (by decide +kernel) (by decide +kernel)
set_option maxRecDepth 20000 in
theorem gX10_findWord_X10_isDigit : GoodIn wsX10_findWord (va_wsS RX10 108 yX10_isDigit wsX10_isDigit) := goodIn_app (goodIn_of _ (by decide +kernel)) ggX10_findWord_X10_isDigit
set_option maxRecDepth 20000 in
theorem ggX10_findWord_X10_findNumber : GoodIn wsX10_findWord wsX10_findNumber := goodIn_r _ [67, 1, 9, 68, 69, 10, 11, 12, 7, 13, 14, 58, 59, 60, 15, 16, 17, 18, 2, 19, 20, 21, 22, 23, 24, 25, 26, 27, 28, 29, 30, 31, 32, 33, 34, 35, 36, 37, 38, 39, 40, 41, 42, 43, 44, 45, 179, 180, 181, 182, 183, 184, 185, 186, 187, 188, 189, 190, 191] (by decide +kernel) (by decide +kernel)
set_option maxRecDepth 20000 in
theorem gX10_findWord_X10_findNumber : GoodIn wsX10_findWord (wsV RX10 124 RX10 yX10_findNumber wsX10_findNumber) := goodIn_app (goodIn_of _ (by decide +kernel)) ggX10_findWord_X10_findNumber
set_option maxRecDepth 20000 in
theorem ggX10_findWord_X10_findPattern : GoodIn wsX10_findWord wsX10_findPattern := goodIn_r _ [73, 1, 74, 3, 75, 76, 19, 20, 21, 22, 23, 24, 25, 26, 27, 28, 29, 30, 31, 32, 33, 34, 35, 36, 37, 38, 39, 40, 41, 42, 43, 44, 45, 10, 11, 12, 7, 13, 9, 14, 54, 55, 56, 57, 46, 47, 48, 58, 59, 60, 77, 78, 79, 80, 61, 62, 63, 81, 82, 83, 84, 15, 16, 17, 18, 2, 179, 180, 181, 182, 183, 184, 185, 186, 187, 188, 189, 190, 191] (by decide +kernel) (by decide +kernel)
set_option maxRecDepth 20000 in
theorem gX10_findWord_X10_findPattern : GoodIn wsX10_findWord (wsV RX10 127 RX10 yX10_findPattern wsX10_findPattern) := goodIn_app (goodIn_of _ (by decide +kernel)) ggX10_findWord_X10_findPattern
set_option maxRecDepth 20000 in
theorem ggX10_findWord_X10_findSign : GoodIn wsX10_findWord wsX10_findSign := goodIn_r _ [88, 1, 89, 90, 91, 92, 93, 94, 95, 96, 97, 98, 99, 100, 101, 102, 103, 104, 105, 106, 107, 108, 109, 110, 111, 112, 113, 114, 115, 116, 117, 118, 40, 119, 120, 39, 41, 121, 122, 123, 124, 125, 126, 127, 128, 129, 130, 131, 132, 133, 134, 135, 136, 137, 138, 139, 140, 141, 142, 143, 144, 145, 146, 147, 148, 149, 150, 151, 152, 153, 154, 155, 156, 157, 158, 159, 160, 161, 162, 163, 164, 165, 166, 167, 168, 169, 170, 171, 172, 173, 174, 10, 11, 12, 7, 13, 9, 14, 15, 16, 17, 18, 2, 19, 20, 21, 22, 23, 24, 25, 26, 27, 28, 29, 30, 31, 32, 33, 34, 35, 36, 37, 38, 42, 43, 44, 45, 179, 180, 181, 182, 183, 184, 185, 186, 187, 188, 189, 190, 191] (by decide +kernel) (by decide +kernel)
set_option maxRecDepth 20000 in
theorem gX10_findWord_X10_findSign : GoodIn wsX10_findWord (wsV RX10 130 RX10 yX10_findSign wsX10_findSign) := goodIn_app (goodIn_of _ (by decide +kernel)) ggX10_findWord_X10_findSign
set_option maxRecDepth 20000 in
theorem ggX10_findWord_X6_at : GoodIn wsX10_findWord wsX6_at := goodIn_r _ [178, 24, 26, 190, 191] (by decide +kernel) (by decide +kernel)
set_option maxRecDepth 20000 in
theorem gX10_findWord_X6_at : GoodIn wsX10_findWord (wsV RX10 69 RX6 yX6_at wsX6_at) := goodIn_app (goodIn_of _ (by decide +kernel)) ggX10_findWord_X6_at
theorem dX10_findWord_0 : decode cX10_findWord 0 = .ok (.aload_n 0, 1) := by decide +kernel
theorem dX10_findWord_1 : decode cX10_findWord 1 = .ok (.invokevirtual 114, 3) := by decide +kernel
theorem dX10_findWord_4 : decode cX10_findWord 4 = .ok (.aload_n 0, 1) := by decide +kernel
theorem dX10_findWord_5 : decode cX10_findWord 5 = .ok (.getfield 53, 3) := by decide +kernel
theorem dX10_findWord_8 : decode cX10_findWord 8 = .ok (.istore_n 1, 1) := by decide +kernel
theorem dX10_findWord_9 : decode cX10_findWord 9 = .ok (.aload_n 0, 1) := by decide +kernel
theorem dX10_findWord_10 : decode cX10_findWord 10 = .ok (.aload_n 0, 1) := by decide +kernel
theorem dX10_findWord_11 : decode cX10_findWord 11 = .ok (.getfield 53, 3) := by decide +kernel
theorem dX10_findWord_14 : decode cX10_findWord 14 = .ok (.invokevirtual 101, 3) := by decide +kernel
theorem dX10_findWord_17 : decode cX10_findWord 17 = .ok (.istore_n 2, 1) := by decide +kernel
theorem dX10_findWord_18 : decode cX10_findWord 18 = .ok (.iload_n 2, 1) := by decide +kernel
theorem dX10_findWord_19 : decode cX10_findWord 19 = .ok (.iconst (-1), 1) := by decide +kernel
theorem dX10_findWord_20 : decode cX10_findWord 20 = .ok (.if_icmp .ne 13, 3) := by decide +kernel
theorem dX10_findWord_23 : decode cX10_findWord 23 = .ok (.aload_n 0, 1) := by decide +kernel
theorem dX10_findWord_24 : decode cX10_findWord 24 = .ok (.iconst 0, 1) := by decide +kernel
theorem dX10_findWord_25 : decode cX10_findWord 25 = .ok (.iload_n 1, 1) := by decide +kernel
theorem dX10_findWord_26 : decode cX10_findWord 26 = .ok (.lconst 0, 1) := by decide +kernel
theorem dX10_findWord_27 : decode cX10_findWord 27 = .ok (.invokevirtual 117, 3) := by decide +kernel
theorem dX10_findWord_30 : decode cX10_findWord 30 = .ok (.goto 49, 3) := by decide +kernel
theorem dX10_findWord_33 : decode cX10_findWord 33 = .ok (.iload_n 2, 1) := by decide +kernel
theorem dX10_findWord_34 : decode cX10_findWord 34 = .ok (.invokestatic 104, 3) := by decide +kernel
theorem dX10_findWord_37 : decode cX10_findWord 37 = .ok (.ifCond .eq 10, 3) := by decide +kernel
theorem dX10_findWord_40 : decode cX10_findWord 40 = .ok (.aload_n 0, 1) := by decide +kernel
theorem dX10_findWord_41 : decode cX10_findWord 41 = .ok (.invokevirtual 121, 3) := by decide +kernel
theorem dX10_findWord_44 : decode cX10_findWord 44 = .ok (.goto 35, 3) := by decide +kernel
theorem dX10_findWord_47 : decode cX10_findWord 47 = .ok (.iload_n 2, 1) := by decide +kernel
theorem dX10_findWord_48 : decode cX10_findWord 48 = .ok (.invokestatic 108, 3) := by decide +kernel
theorem dX10_findWord_51 : decode cX10_findWord 51 = .ok (.ifCond .eq 10, 3) := by decide +kernel
theorem dX10_findWord_54 : decode cX10_findWord 54 = .ok (.aload_n 0, 1) := by decide +kernel
theorem dX10_findWord_55 : decode cX10_findWord 55 = .ok (.invokevirtual 124, 3) := by decide +kernel
theorem dX10_findWord_58 : decode cX10_findWord 58 = .ok (.goto 21, 3) := by decide +kernel
theorem dX10_findWord_61 : decode cX10_findWord 61 = .ok (.iload_n 2, 1) := by decide +kernel
theorem dX10_findWord_62 : decode cX10_findWord 62 = .ok (.bipush 47, 2) := by decide +kernel
theorem dX10_findWord_64 : decode cX10_findWord 64 = .ok (.if_icmp .ne 10, 3) := by decide +kernel
theorem dX10_findWord_67 : decode cX10_findWord 67 = .ok (.aload_n 0, 1) := by decide +kernel
theorem dX10_findWord_68 : decode cX10_findWord 68 = .ok (.invokevirtual 127, 3) := by decide +kernel
theorem dX10_findWord_71 : decode cX10_findWord 71 = .ok (.goto 8, 3) := by decide +kernel
theorem dX10_findWord_74 : decode cX10_findWord 74 = .ok (.aload_n 0, 1) := by decide +kernel
theorem dX10_findWord_75 : decode cX10_findWord 75 = .ok (.iload_n 2, 1) := by decide +kernel
theorem dX10_findWord_76 : decode cX10_findWord 76 = .ok (.invokevirtual 130, 3) := by decide +kernel
theorem dX10_findWord_79 : decode cX10_findWord 79 = .ok (.aload_n 0, 1) := by decide +kernel
theorem dX10_findWord_80 : decode cX10_findWord 80 = .ok (.getfield 20, 3) := by decide +kernel
theorem dX10_findWord_83 : decode cX10_findWord 83 = .ok (.aload_n 0, 1) := by decide +kernel
theorem dX10_findWord_84 : decode cX10_findWord 84 = .ok (.getfield 20, 3) := by decide +kernel
theorem dX10_findWord_87 : decode cX10_findWord 87 = .ok (.getfield 133, 3) := by decide +kernel
theorem dX10_findWord_90 : decode cX10_findWord 90 = .ok (.iconst 3, 1) := by decide +kernel
theorem dX10_findWord_91 : decode cX10_findWord 91 = .ok (.isub, 1) := by decide +kernel
theorem dX10_findWord_92 : decode cX10_findWord 92 = .ok (.invokevirtual 69, 3) := by decide +kernel
theorem dX10_findWord_95 : decode cX10_findWord 95 = .ok (.istore_n 3, 1) := by decide +kernel
theorem dX10_findWord_96 : decode cX10_findWord 96 = .ok (.iload_n 3, 1) := by decide +kernel
theorem dX10_findWord_97 : decode cX10_findWord 97 = .ok (.ifCond .eq 12, 3) := by decide +kernel
theorem dX10_findWord_100 : decode cX10_findWord 100 = .ok (.iload_n 3, 1) := by decide +kernel
theorem dX10_findWord_101 : decode cX10_findWord 101 = .ok (.iconst 1, 1) := by decide +kernel
theorem dX10_findWord_102 : decode cX10_findWord 102 = .ok (.if_icmp .eq 7, 3) := by decide +kernel
theorem dX10_findWord_105 : decode cX10_findWord 105 = .ok (.iconst 1, 1) := by decide +kernel
theorem dX10_findWord_106 : decode cX10_findWord 106 = .ok (.goto 4, 3) := by decide +kernel
theorem dX10_findWord_109 : decode cX10_findWord 109 = .ok (.iconst 0, 1) := by decide +kernel
theorem dX10_findWord_110 : decode cX10_findWord 110 = .ok (.ireturn, 1) := by decide +kernel
set_option maxRecDepth 20000 in
theorem ggX10_skipBlanks_X10_byteAt : GoodIn wsX10_skipBlanks wsX10_byteAt := goodIn_r _ [7, 2, 8, 9, 10, 11, 12, 13, 14, 15, 16, 17, 18, 19] (by decide +kernel) (by decide +kernel)
set_option maxRecDepth 20000 in
theorem gX10_skipBlanks_X10_byteAt : GoodIn wsX10_skipBlanks (wsV RX10 101 RX10 yX10_byteAt wsX10_byteAt) := goodIn_app (goodIn_of _ (by decide +kernel)) ggX10_skipBlanks_X10_byteAt
theorem dX10_skipBlanks_0 : decode cX10_skipBlanks 0 = .ok (.iconst 0, 1) := by decide +kernel
theorem dX10_skipBlanks_1 : decode cX10_skipBlanks 1 = .ok (.istore_n 1, 1) := by decide +kernel
theorem dX10_skipBlanks_2 : decode cX10_skipBlanks 2 = .ok (.aload_n 0, 1) := by decide +kernel
theorem dX10_skipBlanks_3 : decode cX10_skipBlanks 3 = .ok (.getfield 53, 3) := by decide +kernel
theorem dX10_skipBlanks_6 : decode cX10_skipBlanks 6 = .ok (.aload_n 0, 1) := by decide +kernel
theorem dX10_skipBlanks_7 : decode cX10_skipBlanks 7 = .ok (.getfield 47, 3) := by decide +kernel
theorem dX10_skipBlanks_10 : decode cX10_skipBlanks 10 = .ok (.if_icmp .ge 64, 3) := by decide +kernel
theorem dX10_skipBlanks_13 : decode cX10_skipBlanks 13 = .ok (.aload_n 0, 1) := by decide +kernel
theorem dX10_skipBlanks_14 : decode cX10_skipBlanks 14 = .ok (.aload_n 0, 1) := by decide +kernel
theorem dX10_skipBlanks_15 : decode cX10_skipBlanks 15 = .ok (.getfield 53, 3) := by decide +kernel
theorem dX10_skipBlanks_18 : decode cX10_skipBlanks 18 = .ok (.invokevirtual 101, 3) := by decide +kernel
theorem dX10_skipBlanks_21 : decode cX10_skipBlanks 21 = .ok (.istore_n 2, 1) := by decide +kernel
theorem dX10_skipBlanks_22 : decode cX10_skipBlanks 22 = .ok (.iload_n 2, 1) := by decide +kernel
theorem dX10_skipBlanks_23 : decode cX10_skipBlanks 23 = .ok (.bipush 35, 2) := by decide +kernel
theorem dX10_skipBlanks_25 : decode cX10_skipBlanks 25 = .ok (.if_icmp .eq 13, 3) := by decide +kernel
theorem dX10_skipBlanks_28 : decode cX10_skipBlanks 28 = .ok (.iload_n 1, 1) := by decide +kernel
theorem dX10_skipBlanks_29 : decode cX10_skipBlanks 29 = .ok (.ifCond .eq 13, 3) := by decide +kernel
theorem dX10_skipBlanks_32 : decode cX10_skipBlanks 32 = .ok (.iload_n 2, 1) := by decide +kernel
theorem dX10_skipBlanks_33 : decode cX10_skipBlanks 33 = .ok (.bipush 10, 2) := by decide +kernel
theorem dX10_skipBlanks_35 : decode cX10_skipBlanks 35 = .ok (.if_icmp .eq 7, 3) := by decide +kernel
theorem dX10_skipBlanks_38 : decode cX10_skipBlanks 38 = .ok (.iconst 1, 1) := by decide +kernel
theorem dX10_skipBlanks_39 : decode cX10_skipBlanks 39 = .ok (.goto 4, 3) := by decide +kernel
theorem dX10_skipBlanks_42 : decode cX10_skipBlanks 42 = .ok (.iconst 0, 1) := by decide +kernel
theorem dX10_skipBlanks_43 : decode cX10_skipBlanks 43 = .ok (.istore_n 1, 1) := by decide +kernel
theorem dX10_skipBlanks_44 : decode cX10_skipBlanks 44 = .ok (.iload_n 1, 1) := by decide +kernel
theorem dX10_skipBlanks_45 : decode cX10_skipBlanks 45 = .ok (.ifCond .ne 16, 3) := by decide +kernel
theorem dX10_skipBlanks_48 : decode cX10_skipBlanks 48 = .ok (.iload_n 2, 1) := by decide +kernel
theorem dX10_skipBlanks_49 : decode cX10_skipBlanks 49 = .ok (.bipush 32, 2) := by decide +kernel
theorem dX10_skipBlanks_51 : decode cX10_skipBlanks 51 = .ok (.if_icmp .eq 10, 3) := by decide +kernel
theorem dX10_skipBlanks_54 : decode cX10_skipBlanks 54 = .ok (.iload_n 2, 1) := by decide +kernel
theorem dX10_skipBlanks_55 : decode cX10_skipBlanks 55 = .ok (.bipush 10, 2) := by decide +kernel
theorem dX10_skipBlanks_57 : decode cX10_skipBlanks 57 = .ok (.if_icmp .eq 4, 3) := by decide +kernel
theorem dX10_skipBlanks_60 : decode cX10_skipBlanks 60 = .ok (.return_, 1) := by decide +kernel
theorem dX10_skipBlanks_61 : decode cX10_skipBlanks 61 = .ok (.aload_n 0, 1) := by decide +kernel
theorem dX10_skipBlanks_62 : decode cX10_skipBlanks 62 = .ok (.dup, 1) := by decide +kernel
theorem dX10_skipBlanks_63 : decode cX10_skipBlanks 63 = .ok (.getfield 53, 3) := by decide +kernel
theorem dX10_skipBlanks_66 : decode cX10_skipBlanks 66 = .ok (.iconst 1, 1) := by decide +kernel
theorem dX10_skipBlanks_67 : decode cX10_skipBlanks 67 = .ok (.iadd, 1) := by decide +kernel
theorem dX10_skipBlanks_68 : decode cX10_skipBlanks 68 = .ok (.putfield 53, 3) := by decide +kernel
theorem dX10_skipBlanks_71 : decode cX10_skipBlanks 71 = .ok (.goto (-69), 3) := by decide +kernel
theorem dX10_skipBlanks_74 : decode cX10_skipBlanks 74 = .ok (.return_, 1) := by decide +kernel
