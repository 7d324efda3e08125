abbrev cX0_productCount : ByteArray := prog_2_method_4_code
def yX0_productCount : MethodName := ⟨RX0, "productCount", "(I)I"⟩
abbrev cX0_product : ByteArray := prog_2_method_5_code
def yX0_product : MethodName := ⟨RX0, "product", "(II)I"⟩
abbrev cX1_sortOf : ByteArray := prog_3_method_3_code
def yX1_sortOf : MethodName := ⟨RX1, "sortOf", "(J)I"⟩
abbrev cX1_strandAt : ByteArray := prog_3_method_7_code
def yX1_strandAt : MethodName := ⟨RX1, "strandAt", "(I)LWardenHouse$Strand;"⟩
abbrev cX1_hasEnded : ByteArray := prog_3_method_8_code
def yX1_hasEnded : MethodName := ⟨RX1, "hasEnded", "(I)Z"⟩
abbrev cX1_thingCount : ByteArray := prog_3_method_24_code
def yX1_thingCount : MethodName := ⟨RX1, "thingCount", "()I"⟩
abbrev cX1_tell : ByteArray := prog_3_method_49_code
def yX1_tell : MethodName := ⟨RX1, "tell", "(I)I"⟩
abbrev cX1_tellEvent : ByteArray := prog_3_method_50_code
def yX1_tellEvent : MethodName := ⟨RX1, "tellEvent", "(II)I"⟩
abbrev cX1_tellThread : ByteArray := prog_3_method_51_code
def yX1_tellThread : MethodName := ⟨RX1, "tellThread", "(II)I"⟩
abbrev cX1_tellContext : ByteArray := prog_3_method_52_code
def yX1_tellContext : MethodName := ⟨RX1, "tellContext", "(II)I"⟩
abbrev cX2_numberAt : ByteArray := prog_4_method_18_code
def yX2_numberAt : MethodName := ⟨RX2, "numberAt", "(I)I"⟩
abbrev cX2_nameAt : ByteArray := prog_4_method_20_code
def yX2_nameAt : MethodName := ⟨RX2, "nameAt", "(I)J"⟩
abbrev cX2_groupOf : ByteArray := prog_4_method_21_code
def yX2_groupOf : MethodName := ⟨RX2, "groupOf", "(IJI)I"⟩
abbrev cX2_groupBegun : ByteArray := prog_4_method_23_code
def yX2_groupBegun : MethodName := ⟨RX2, "groupBegun", "(III)I"⟩
abbrev cX2_needing : ByteArray := prog_4_method_26_code
def yX2_needing : MethodName := ⟨RX2, "needing", "()I"⟩
abbrev cX2_sizeOf : ByteArray := prog_4_method_27_code
def yX2_sizeOf : MethodName := ⟨RX2, "sizeOf", "(I)I"⟩
abbrev cX3_domainOf : ByteArray := prog_5_method_14_code
def yX3_domainOf : MethodName := ⟨RX3, "domainOf", "(I)I"⟩
abbrev cX3_holders : ByteArray := prog_5_method_15_code
def yX3_holders : MethodName := ⟨RX3, "holders", "(LWardenHouse$Right;)I"⟩
abbrev cX3_anyHas : ByteArray := prog_5_method_16_code
def yX3_anyHas : MethodName := ⟨RX3, "anyHas", "(IILWardenHouse$Right;)Z"⟩
abbrev cX5_covers : ByteArray := prog_7_method_5_code
def yX5_covers : MethodName := ⟨RX5, "covers", "(LWardenHouse$Right;)Z"⟩
abbrev cX8_mayOf : ByteArray := prog_10_method_6_code
def yX8_mayOf : MethodName := ⟨RX8, "mayOf", "(I)I"⟩
abbrev cX8_findMay : ByteArray := prog_10_method_7_code
def yX8_findMay : MethodName := ⟨RX8, "findMay", "(I)V"⟩
abbrev cX8_spread : ByteArray := prog_10_method_8_code
def yX8_spread : MethodName := ⟨RX8, "spread", "(LWardenHouse$Unit;I)V"⟩
abbrev cX8_spreadPart : ByteArray := prog_10_method_9_code
def yX8_spreadPart : MethodName := ⟨RX8, "spreadPart", "(LWardenHouse$Unit;II)V"⟩
abbrev cX8_spreadGroup : ByteArray := prog_10_method_10_code
def yX8_spreadGroup : MethodName := ⟨RX8, "spreadGroup", "(III)V"⟩
abbrev cX8_meetOf : ByteArray := prog_10_method_11_code
def yX8_meetOf : MethodName := ⟨RX8, "meetOf", "(ILWardenHouse$Unit;I)I"⟩
abbrev cX8_addMay : ByteArray := prog_10_method_12_code
def yX8_addMay : MethodName := ⟨RX8, "addMay", "(LWardenHouse$Unit;I)V"⟩
abbrev cX9_locals : ByteArray := prog_11_method_9_code
def yX9_locals : MethodName := ⟨RX9, "locals", "()I"⟩
abbrev cX9_length : ByteArray := prog_11_method_12_code
def yX9_length : MethodName := ⟨RX9, "length", "()I"⟩
abbrev cX9_what : ByteArray := prog_11_method_13_code
def yX9_what : MethodName := ⟨RX9, "what", "(I)I"⟩
abbrev cX9_first : ByteArray := prog_11_method_14_code
def yX9_first : MethodName := ⟨RX9, "first", "(I)I"⟩
abbrev cX9_second : ByteArray := prog_11_method_15_code
def yX9_second : MethodName := ⟨RX9, "second", "(I)I"⟩
abbrev cX9_tell : ByteArray := prog_11_method_20_code
def yX9_tell : MethodName := ⟨RX9, "tell", "(I)I"⟩
abbrev cX11_init : ByteArray := prog_1_method_1_code
def yX11_init : MethodName := ⟨RX11, "<init>", "()V"⟩
abbrev cX11_feed : ByteArray := prog_1_method_2_code
def yX11_feed : MethodName := ⟨RX11, "feed", "(IIIII)Z"⟩
abbrev cX11_putBytes : ByteArray := prog_1_method_3_code
def yX11_putBytes : MethodName := ⟨RX11, "putBytes", "(I)V"⟩
abbrev cX11_end : ByteArray := prog_1_method_4_code
def yX11_end : MethodName := ⟨RX11, "end", "(I)Z"⟩
abbrev cX11_fault : ByteArray := prog_1_method_6_code
def yX11_fault : MethodName := ⟨RX11, "fault", "(I)I"⟩
abbrev cX11_count : ByteArray := prog_1_method_7_code
def yX11_count : MethodName := ⟨RX11, "count", "(I)I"⟩
abbrev cX11_hasUnit : ByteArray := prog_1_method_8_code
def yX11_hasUnit : MethodName := ⟨RX11, "hasUnit", "(I)Z"⟩
abbrev cX11_unit : ByteArray := prog_1_method_9_code
def yX11_unit : MethodName := ⟨RX11, "unit", "(II)I"⟩
abbrev cX11_code : ByteArray := prog_1_method_10_code
def yX11_code : MethodName := ⟨RX11, "code", "(IZI)I"⟩
abbrev cX11_number : ByteArray := prog_1_method_11_code
def yX11_number : MethodName := ⟨RX11, "number", "(I)I"⟩
abbrev cX11_domain : ByteArray := prog_1_method_12_code
def yX11_domain : MethodName := ⟨RX11, "domain", "(I)I"⟩
abbrev cX11_has : ByteArray := prog_1_method_14_code
def yX11_has : MethodName := ⟨RX11, "has", "(IZ)I"⟩
abbrev cX11_may : ByteArray := prog_1_method_15_code
def yX11_may : MethodName := ⟨RX11, "may", "(I)I"⟩
abbrev cX11_result : ByteArray := prog_1_method_17_code
def yX11_result : MethodName := ⟨RX11, "result", "(I)I"⟩
abbrev cX11_event : ByteArray := prog_1_method_18_code
def yX11_event : MethodName := ⟨RX11, "event", "(II)I"⟩
abbrev cX11_thread : ByteArray := prog_1_method_19_code
def yX11_thread : MethodName := ⟨RX11, "thread", "(II)I"⟩
abbrev cX11_context : ByteArray := prog_1_method_20_code
def yX11_context : MethodName := ⟨RX11, "context", "(II)I"⟩
abbrev cJ7_fill_53178 : ByteArray := prog_27_method_103_code
def yJ7_fill_53178 : MethodName := ⟨RJ7, "fill", "([II)V"⟩
def wsX2_numberAt : List Cond := .code yX2_numberAt cX2_numberAt 2 (some .int) :: ([.fieldLink RX2 66 "WardenHouse$Plan" "numberCount" "I", .fieldLink RX2 45 "WardenHouse$Plan" "numbers" "[I"] ++ wsX20)
def wsX3_holders : List Cond := .code yX3_holders cX3_holders 5 (some .int) :: ([.fieldLink RX3 52 "WardenHouse$Policy" "grantCount" "I", .fieldLink RX3 22 "WardenHouse$Policy" "grantSizes" "[I", .fieldLink RX3 59 "WardenHouse$Policy" "domainCount" "I", .fieldLink RX3 29 "WardenHouse$Policy" "domainSets" "[I", .fieldLink RX3 56 "WardenHouse$Policy" "limitCount" "I", .fieldLink RX3 26 "WardenHouse$Policy" "limitSizes" "[I", .methodLink RX3 77 yX3_anyHas, .instanceMethod yX3_anyHas, .selects RX3 yX3_anyHas yX3_anyHas, .initialized RX3, .code yX3_anyHas cX3_anyHas 6 (some .boolean), .fieldLink RX3 19 "WardenHouse$Policy" "rights" "[LWardenHouse$Right;", .fieldLink RX3 81 "WardenHouse$Right" "kind" "J", .methodLink RX3 73 yX5_covers, .instanceMethod yX5_covers, .selects RX5 yX5_covers yX5_covers, .initialized RX5, .code yX5_covers cX5_covers 5 (some .boolean), .fieldLink RX5 23 "WardenHouse$Right" "count" "I", .fieldLink RX5 19 "WardenHouse$Right" "tail" "I", .fieldLink RX5 9 "WardenHouse$Right" "steps" "[J"] ++ wsX30 ++ wsX50)
def wsX1_tell : List Cond := .code yX1_tell cX1_tell 2 (some .int) :: ([.fieldLink RX1 80 "WardenHouse$Machine" "ending" "I", .fieldLink RX1 71 "WardenHouse$Machine" "steps" "I", .fieldLink RX1 67 "WardenHouse$Machine" "strandCount" "I", .fieldLink RX1 77 "WardenHouse$Machine" "eventCount" "I", .fieldLink RX1 83 "WardenHouse$Machine" "mostFrames" "I", .fieldLink RX1 86 "WardenHouse$Machine" "looked" "I", .fieldLink RX1 22 "WardenHouse$Machine" "contexts" "LWardenHouse$Contexts;", .methodLink RX1 301 yX1_thingCount, .instanceMethod yX1_thingCount, .selects RX1 yX1_thingCount yX1_thingCount, .initialized RX1, .code yX1_thingCount cX1_thingCount 1 (some .int), .fieldLink RX1 46 "WardenHouse$Machine" "things" "LWardenHouse$Row;", .fieldLink RX1 298 "WardenHouse$Row" "size" "I", .methodLink RX1 438 yX0_made, .instanceMethod yX0_made, .selects RX0 yX0_made yX0_made, .initialized RX0, .code yX0_made cX0_made 1 (some .int), .fieldLink RX0 14 "WardenHouse$Contexts" "starts" "LWardenHouse$Row;", .fieldLink RX0 42 "WardenHouse$Row" "size" "I"] ++ wsX10 ++ wsX60 ++ wsX00)
def wsX1_tellEvent : List Cond := .code yX1_tellEvent cX1_tellEvent 3 (some .int) :: ([.fieldLink RX1 52 "WardenHouse$Machine" "events" "LWardenHouse$Row;", .fieldLink RX1 298 "WardenHouse$Row" "size" "I", .methodLink RX1 173 yX6_at, .instanceMethod yX6_at, .selects RX6 yX6_at yX6_at, .initialized RX6, .code yX6_at cX6_at 2 (some .int), .fieldLink RX6 13 "WardenHouse$Row" "size" "I", .fieldLink RX6 7 "WardenHouse$Row" "cells" "[J"] ++ wsX10 ++ wsX60)
def wsX1_tellThread : List Cond := .code yX1_tellThread cX1_tellThread 5 (some .int) :: ([.fieldLink RX1 67 "WardenHouse$Machine" "strandCount" "I", .fieldLink RX1 408 "WardenHouse$Strand" "outcome" "J", .fieldLink RX1 134 "WardenHouse$Strand" "state" "I", .fieldLink RX1 441 "WardenHouse$Strand" "began" "I", .fieldLink RX1 141 "WardenHouse$Strand" "waits" "I", .methodLink RX1 118 yX1_strandAt, .instanceMethod yX1_strandAt, .selects RX1 yX1_strandAt yX1_strandAt, .initialized RX1, .code yX1_strandAt cX1_strandAt 2 (some (.object "WardenHouse$Strand")), .fieldLink RX1 28 "WardenHouse$Machine" "strands" "[LWardenHouse$Strand;", .methodLink RX1 291 yX1_sortOf, .static yX1_sortOf, .code yX1_sortOf cX1_sortOf 2 (some .int), .methodLink RX1 137 yX1_hasEnded, .instanceMethod yX1_hasEnded, .selects RX1 yX1_hasEnded yX1_hasEnded, .code yX1_hasEnded cX1_hasEnded 2 (some .boolean)] ++ wsX10 ++ wsX70)
def wsX1_tellContext : List Cond := .code yX1_tellContext cX1_tellContext 3 (some .int) :: ([.fieldLink RX1 22 "WardenHouse$Machine" "contexts" "LWardenHouse$Contexts;", .methodLink RX1 438 yX0_made, .instanceMethod yX0_made, .selects RX0 yX0_made yX0_made, .initialized RX0, .code yX0_made cX0_made 1 (some .int), .fieldLink RX0 14 "WardenHouse$Contexts" "starts" "LWardenHouse$Row;", .fieldLink RX0 42 "WardenHouse$Row" "size" "I", .methodLink RX1 444 yX0_productCount, .instanceMethod yX0_productCount, .selects RX0 yX0_productCount yX0_productCount, .code yX0_productCount cX0_productCount 3 (some .int), .fieldLink RX0 20 "WardenHouse$Contexts" "products" "LWardenHouse$Row;", .methodLink RX0 46 yX6_at, .instanceMethod yX6_at, .selects RX6 yX6_at yX6_at, .initialized RX6, .code yX6_at cX6_at 2 (some .int), .fieldLink RX6 13 "WardenHouse$Row" "size" "I", .fieldLink RX6 7 "WardenHouse$Row" "cells" "[J", .methodLink RX1 447 yX0_product, .instanceMethod yX0_product, .selects RX0 yX0_product yX0_product, .code yX0_product cX0_product 3 (some .int)] ++ wsX10 ++ wsX00 ++ wsX60)
def wsX3_domainOf : List Cond := .code yX3_domainOf cX3_domainOf 2 (some .int) :: ([.fieldLink RX3 32 "WardenHouse$Policy" "moduleDomains" "[I"] ++ wsX30)
def wsX2_sizeOf : List Cond := .code yX2_sizeOf cX2_sizeOf 2 (some .int) :: ([.fieldLink RX2 59 "WardenHouse$Plan" "unitCount" "I", .fieldLink RX2 63 "WardenHouse$Plan" "moduleCount" "I", .fieldLink RX2 9 "WardenHouse$Plan" "policy" "LWardenHouse$Policy;", .fieldLink RX2 133 "WardenHouse$Policy" "grantCount" "I", .fieldLink RX2 136 "WardenHouse$Policy" "domainCount" "I", .fieldLink RX2 139 "WardenHouse$Policy" "limitCount" "I", .fieldLink RX2 142 "WardenHouse$Policy" "askingCount" "I", .fieldLink RX2 66 "WardenHouse$Plan" "numberCount" "I", .fieldLink RX2 69 "WardenHouse$Plan" "nameCount" "I", .methodLink RX2 145 yX2_needing, .instanceMethod yX2_needing, .selects RX2 yX2_needing yX2_needing, .initialized RX2, .code yX2_needing cX2_needing 3 (some .int), .fieldLink RX2 17 "WardenHouse$Plan" "units" "[LWardenHouse$Unit;", .fieldLink RX2 118 "WardenHouse$Unit" "needs" "Z"] ++ wsX20 ++ wsX30 ++ wsX90)
def wsX8_mayOf : List Cond := .code yX8_mayOf cX8_mayOf 2 (some .int) :: ([.fieldLink RX8 15 "WardenHouse$Survey" "may" "[I"] ++ wsX80)
def wsX8_findMay_r1 : List Cond := [Cond.fieldLink RX8 15 "WardenHouse$Survey" "may" "[I", Cond.fieldLink RX8 76 "WardenHouse$Survey" "contextMay" "I", Cond.fieldLink RX8 9 "WardenHouse$Survey" "plan" "LWardenHouse$Plan;", Cond.fieldLink RX8 26 "WardenHouse$Plan" "unitCount" "I", Cond.fieldLink RX8 79 "WardenHouse$Unit" "sort" "I", Cond.fieldLink RX8 82 "WardenHouse$Unit" "parameters" "I", Cond.fieldLink RX8 23 "WardenHouse$Survey" "changed" "Z", Cond.fieldLink RX8 19 "WardenHouse$Survey" "done" "Z", Cond.methodLink RX8 70 yJ7_fill_53178, Cond.static yJ7_fill_53178, Cond.initialized RJ7, Cond.code yJ7_fill_53178 cJ7_fill_53178 4 none, Cond.methodLink RX8 32 yX2_unitAt, Cond.instanceMethod yX2_unitAt, Cond.selects RX2 yX2_unitAt yX2_unitAt, Cond.initialized RX2, Cond.code yX2_unitAt cX2_unitAt 2 (some (.object "WardenHouse$Unit")), Cond.fieldLink RX2 17 "WardenHouse$Plan" "units" "[LWardenHouse$Unit;", Cond.methodLink RX8 85 yX8_meetOf, Cond.static yX8_meetOf, Cond.initialized RX8, Cond.code yX8_meetOf cX8_meetOf 4 (some .int), Cond.fieldLink RX8 117 "WardenHouse$Unit" "domain" "I", Cond.methodLink RX8 89 yX8_addMay]
def wsX8_findMay_r2 : List Cond := [Cond.instanceMethod yX8_addMay, Cond.selects RX8 yX8_addMay yX8_addMay, Cond.code yX8_addMay cX8_addMay 4 none, Cond.fieldLink RX8 99 "WardenHouse$Unit" "number" "I", Cond.methodLink RX8 93 yX8_mayOf, Cond.instanceMethod yX8_mayOf, Cond.selects RX8 yX8_mayOf yX8_mayOf, Cond.code yX8_mayOf cX8_mayOf 2 (some .int), Cond.methodLink RX8 96 yX8_spread, Cond.instanceMethod yX8_spread, Cond.selects RX8 yX8_spread yX8_spread, Cond.code yX8_spread cX8_spread 6 none, Cond.methodLink RX8 52 yX9_length, Cond.instanceMethod yX9_length, Cond.selects RX9 yX9_length yX9_length, Cond.initialized RX9, Cond.code yX9_length cX9_length 1 (some .int), Cond.fieldLink RX9 20 "WardenHouse$Unit" "script" "LWardenHouse$Row;", Cond.fieldLink RX9 69 "WardenHouse$Row" "size" "I", Cond.methodLink RX8 56 yX9_what, Cond.instanceMethod yX9_what, Cond.selects RX9 yX9_what yX9_what, Cond.code yX9_what cX9_what 2 (some .int), Cond.methodLink RX9 86 yX6_at]
def wsX8_findMay_r3 : List Cond := [Cond.instanceMethod yX6_at, Cond.selects RX6 yX6_at yX6_at, Cond.initialized RX6, Cond.code yX6_at cX6_at 2 (some .int), Cond.fieldLink RX6 13 "WardenHouse$Row" "size" "I", Cond.fieldLink RX6 7 "WardenHouse$Row" "cells" "[J", Cond.methodLink RX8 60 yX9_first, Cond.instanceMethod yX9_first, Cond.selects RX9 yX9_first yX9_first, Cond.code yX9_first cX9_first 2 (some .int), Cond.methodLink RX8 102 yX8_spreadPart, Cond.instanceMethod yX8_spreadPart, Cond.selects RX8 yX8_spreadPart yX8_spreadPart, Cond.code yX8_spreadPart cX8_spreadPart 5 none, Cond.fieldLink RX8 114 "WardenHouse$Unit" "limit" "I", Cond.methodLink RX8 63 yX9_second, Cond.instanceMethod yX9_second, Cond.selects RX9 yX9_second yX9_second, Cond.code yX9_second cX9_second 2 (some .int), Cond.methodLink RX8 106 yX2_groupBegun, Cond.instanceMethod yX2_groupBegun, Cond.selects RX2 yX2_groupBegun yX2_groupBegun, Cond.code yX2_groupBegun cX2_groupBegun 4 (some .int), Cond.methodLink RX2 114 yX2_nameAt]
def wsX8_findMay_r4 : List Cond := [Cond.instanceMethod yX2_nameAt, Cond.selects RX2 yX2_nameAt yX2_nameAt, Cond.code yX2_nameAt cX2_nameAt 2 (some .long), Cond.fieldLink RX2 69 "WardenHouse$Plan" "nameCount" "I", Cond.fieldLink RX2 48 "WardenHouse$Plan" "names" "[J", Cond.methodLink RX2 108 yX2_groupOf, Cond.instanceMethod yX2_groupOf, Cond.selects RX2 yX2_groupOf yX2_groupOf, Cond.code yX2_groupOf cX2_groupOf 7 (some .int), Cond.fieldLink RX2 59 "WardenHouse$Plan" "unitCount" "I", Cond.fieldLink RX2 105 "WardenHouse$Unit" "sort" "I", Cond.fieldLink RX2 98 "WardenHouse$Unit" "parameters" "I", Cond.fieldLink RX2 94 "WardenHouse$Unit" "name" "J", Cond.methodLink RX8 110 yX8_spreadGroup, Cond.instanceMethod yX8_spreadGroup, Cond.selects RX8 yX8_spreadGroup yX8_spreadGroup, Cond.code yX8_spreadGroup cX8_spreadGroup 5 none, Cond.fieldLink RX8 45 "WardenHouse$Unit" "group" "I"]
def wsX8_findMay : List Cond := .code yX8_findMay cX8_findMay 4 none :: ((wsX8_findMay_r1 ++ (wsX8_findMay_r2 ++ (wsX8_findMay_r3 ++ wsX8_findMay_r4))) ++ wsX80 ++ wsX20 ++ wsX90 ++ wsX60)
def wsX9_tell : List Cond := .code yX9_tell cX9_tell 2 (some .int) :: ([.fieldLink RX9 34 "WardenHouse$Unit" "sort" "I", .fieldLink RX9 37 "WardenHouse$Unit" "module" "I", .fieldLink RX9 40 "WardenHouse$Unit" "where" "I", .fieldLink RX9 47 "WardenHouse$Unit" "parameters" "I", .fieldLink RX9 59 "WardenHouse$Unit" "captured" "I", .fieldLink RX9 62 "WardenHouse$Unit" "needs" "Z", .fieldLink RX9 24 "WardenHouse$Unit" "plain" "LWardenHouse$Row;", .fieldLink RX9 69 "WardenHouse$Row" "size" "I", .fieldLink RX9 27 "WardenHouse$Unit" "rewritten" "LWardenHouse$Row;", .methodLink RX9 127 yX9_locals, .instanceMethod yX9_locals, .selects RX9 yX9_locals yX9_locals, .initialized RX9, .code yX9_locals cX9_locals 1 (some .int), .fieldLink RX9 56 "WardenHouse$Unit" "own" "I"] ++ wsX90 ++ wsX60)
def wsX11_init_r1 : List Cond := [Cond.methodLink RX11 1 objectInit, Cond.instanceMethod objectInit, Cond.code objectInit ⟨#[0xb1]⟩ 1 none, Cond.arrayClass .byte, Cond.fieldLink RX11 9 "WardenHouse" "tape" "[B", Cond.classLink RX11 13 RX10, Cond.instantiable RX10 11, Cond.initialized RX10, Cond.fieldLink RX11 16 "WardenHouse" "words" "LWardenHouse$Words;", Cond.classLink RX11 20 RX3, Cond.instantiable RX3 14, Cond.initialized RX3, Cond.fieldLink RX11 23 "WardenHouse" "policy" "LWardenHouse$Policy;", Cond.classLink RX11 27 RX2, Cond.instantiable RX2 16, Cond.initialized RX2, Cond.fieldLink RX11 32 "WardenHouse" "plan" "LWardenHouse$Plan;", Cond.classLink RX11 36 RX4, Cond.instantiable RX4 13, Cond.initialized RX4, Cond.fieldLink RX11 41 "WardenHouse" "reader" "LWardenHouse$Reader;", Cond.classLink RX11 45 RX8, Cond.instantiable RX8 5, Cond.initialized RX8]
def wsX11_init_r2 : List Cond := [Cond.fieldLink RX11 50 "WardenHouse" "survey" "LWardenHouse$Survey;", Cond.classLink RX11 54 RX1, Cond.instantiable RX1 20, Cond.initialized RX1, Cond.fieldLink RX11 59 "WardenHouse" "machine" "LWardenHouse$Machine;", Cond.classLink RX11 63 RX5, Cond.instantiable RX5 4, Cond.initialized RX5, Cond.fieldLink RX11 66 "WardenHouse" "heard" "LWardenHouse$Right;", Cond.fieldLink RX11 70 "WardenHouse" "asked" "LWardenHouse$Right;", Cond.methodLink RX11 15 yX10_init, Cond.instanceMethod yX10_init, Cond.code yX10_init cX10_init 5 none, Cond.methodLink RX10 3 objectInit, Cond.arrayClass .long, Cond.fieldLink RX10 11 "WardenHouse$Words" "keywords" "[J", Cond.classLink RX10 15 RX6, Cond.instantiable RX6 2, Cond.initialized RX6, Cond.fieldLink RX10 20 "WardenHouse$Words" "found" "LWardenHouse$Row;", Cond.fieldLink RX10 24 "WardenHouse$Words" "patterns" "LWardenHouse$Row;", Cond.fieldLink RX10 27 "WardenHouse$Words" "text" "[B", Cond.methodLink RX10 17 yX6_init, Cond.instanceMethod yX6_init]
def wsX11_init_r3 : List Cond := [Cond.code yX6_init cX6_init 2 none, Cond.methodLink RX6 1 objectInit, Cond.fieldLink RX6 7 "WardenHouse$Row" "cells" "[J", Cond.methodLink RX10 33 yJ0_length_8abf5, Cond.instanceMethod yJ0_length_8abf5, Cond.selects RJ0 yJ0_length_8abf5 yJ0_length_8abf5, Cond.initialized RJ0, Cond.code yJ0_length_8abf5 cJ0_length_8abf5 1 (some .int), Cond.fieldLink RJ0 9 "java/lang/String" "value" "[B", Cond.methodLink RJ0 335 yJ0_coder_7d493, Cond.instanceMethod yJ0_coder_7d493, Cond.selects RJ0 yJ0_coder_7d493 yJ0_coder_7d493, Cond.code yJ0_coder_7d493 cJ0_coder_7d493 1 (some .byte), Cond.fieldLink RJ0 38 "java/lang/String" "COMPACT_STRINGS" "Z", Cond.fieldLink RJ0 15 "java/lang/String" "coder" "B", Cond.methodLink RX10 39 yJ0_charAt_5068e, Cond.instanceMethod yJ0_charAt_5068e, Cond.selects RJ0 yJ0_charAt_5068e yJ0_charAt_5068e, Cond.code yJ0_charAt_5068e cJ0_charAt_5068e 2 (some .char), Cond.methodLink RJ0 492 yJ0_isLatin1_aae02, Cond.instanceMethod yJ0_isLatin1_aae02, Cond.selects RJ0 yJ0_isLatin1_aae02 yJ0_isLatin1_aae02, Cond.code yJ0_isLatin1_aae02 cJ0_isLatin1_aae02 1 (some .boolean), Cond.methodLink RJ0 495 yJ1_charAt_3b067]
def wsX11_init_r4 : List Cond := [Cond.static yJ1_charAt_3b067, Cond.initialized RJ1, Cond.code yJ1_charAt_3b067 cJ1_charAt_3b067 2 (some .char), Cond.methodLink RJ1 9 yJ0_checkIndex_df160, Cond.static yJ0_checkIndex_df160, Cond.code yJ0_checkIndex_df160 cJ0_checkIndex_df160 2 none, Cond.fieldLink RJ0 1053 "jdk/internal/util/Preconditions" "SIOOBE_FORMATTER" "Ljava/util/function/BiFunction;", Cond.methodLink RJ0 1059 yJ3_checkIndex_8e157, Cond.static yJ3_checkIndex_8e157, Cond.initialized RJ3, Cond.code yJ3_checkIndex_8e157 cJ3_checkIndex_8e157 3 (some .int), Cond.methodLink RJ0 498 yJ2_charAt_3b067, Cond.static yJ2_charAt_3b067, Cond.initialized RJ2, Cond.code yJ2_charAt_3b067 cJ2_charAt_3b067 2 (some .char), Cond.methodLink RJ2 67 yJ2_checkIndex_2214a, Cond.static yJ2_checkIndex_2214a, Cond.code yJ2_checkIndex_2214a cJ2_checkIndex_2214a 2 none, Cond.methodLink RJ2 48 yJ2_length_9d52b, Cond.static yJ2_length_9d52b, Cond.code yJ2_length_9d52b cJ2_length_9d52b 1 (some .int), Cond.methodLink RJ2 414 yJ0_checkIndex_df160, Cond.methodLink RJ2 71 yJ2_getChar_3b067, Cond.static yJ2_getChar_3b067]
def wsX11_init_r5 : List Cond := [Cond.code yJ2_getChar_3b067 cJ2_getChar_3b067 2 (some .char), Cond.fieldLink RJ2 44 "java/lang/StringUTF16" "$assertionsDisabled" "Z", Cond.fieldLink RJ2 59 "java/lang/StringUTF16" "HI_BYTE_SHIFT" "I", Cond.fieldLink RJ2 63 "java/lang/StringUTF16" "LO_BYTE_SHIFT" "I", Cond.methodLink RX10 43 yX10_codeWith, Cond.static yX10_codeWith, Cond.code yX10_codeWith cX10_codeWith 3 (some .long), Cond.methodLink RX11 22 yX3_init, Cond.instanceMethod yX3_init, Cond.code yX3_init cX3_init 1 none, Cond.methodLink RX3 5 objectInit, Cond.fieldLink RX3 15 "WardenHouse$Policy" "grants" "[LWardenHouse$Right;", Cond.fieldLink RX3 19 "WardenHouse$Policy" "rights" "[LWardenHouse$Right;", Cond.arrayClass .int, Cond.fieldLink RX3 22 "WardenHouse$Policy" "grantSizes" "[I", Cond.fieldLink RX3 26 "WardenHouse$Policy" "limitSizes" "[I", Cond.fieldLink RX3 29 "WardenHouse$Policy" "domainSets" "[I", Cond.fieldLink RX3 32 "WardenHouse$Policy" "moduleDomains" "[I", Cond.fieldLink RX3 35 "WardenHouse$Policy" "askings" "[LWardenHouse$Right;", Cond.arrayClass .boolean, Cond.fieldLink RX3 38 "WardenHouse$Policy" "askingIndexed" "[Z", Cond.fieldLink RX3 42 "WardenHouse$Policy" "askingHolders" "[I", Cond.classLink RX3 45 RX5, Cond.fieldLink RX3 48 "WardenHouse$Policy" "goal" "LWardenHouse$Right;"]
def wsX11_init_r6 : List Cond := [Cond.methodLink RX3 11 yX3_rightsOf, Cond.static yX3_rightsOf, Cond.code yX3_rightsOf cX3_rightsOf 3 (some (.array (.object "WardenHouse$Right"))), Cond.methodLink RX3 47 yX5_init, Cond.instanceMethod yX5_init, Cond.code yX5_init cX5_init 1 none, Cond.methodLink RX5 3 objectInit, Cond.fieldLink RX5 9 "WardenHouse$Right" "steps" "[J", Cond.methodLink RX11 29 yX2_init, Cond.instanceMethod yX2_init, Cond.code yX2_init cX2_init 3 none, Cond.methodLink RX2 3 objectInit, Cond.fieldLink RX2 9 "WardenHouse$Plan" "policy" "LWardenHouse$Policy;", Cond.classLink RX2 15 RX9, Cond.fieldLink RX2 17 "WardenHouse$Plan" "units" "[LWardenHouse$Unit;", Cond.instantiable RX9 18, Cond.initialized RX9, Cond.fieldLink RX2 22 "WardenHouse$Plan" "moduleNames" "[J", Cond.fieldLink RX2 26 "WardenHouse$Plan" "supers" "[I", Cond.fieldLink RX2 30 "WardenHouse$Plan" "fieldNames" "[J", Cond.fieldLink RX2 33 "WardenHouse$Plan" "fieldCounts" "[I", Cond.fieldLink RX2 36 "WardenHouse$Plan" "fieldBases" "[I", Cond.fieldLink RX2 39 "WardenHouse$Plan" "methods" "[I", Cond.fieldLink RX2 42 "WardenHouse$Plan" "methodCounts" "[I"]
def wsX11_init_r7 : List Cond := [Cond.fieldLink RX2 45 "WardenHouse$Plan" "numbers" "[I", Cond.fieldLink RX2 48 "WardenHouse$Plan" "names" "[J", Cond.fieldLink RX2 51 "WardenHouse$Plan" "places" "[I", Cond.methodLink RX2 21 yX9_init, Cond.instanceMethod yX9_init, Cond.code yX9_init cX9_init 1 none, Cond.methodLink RX9 3 objectInit, Cond.fieldLink RX9 11 "WardenHouse$Unit" "captures" "[I", Cond.classLink RX9 15 RX6, Cond.fieldLink RX9 20 "WardenHouse$Unit" "script" "LWardenHouse$Row;", Cond.fieldLink RX9 24 "WardenHouse$Unit" "plain" "LWardenHouse$Row;", Cond.fieldLink RX9 27 "WardenHouse$Unit" "rewritten" "LWardenHouse$Row;", Cond.methodLink RX9 17 yX6_init, Cond.methodLink RX11 38 yX4_init, Cond.instanceMethod yX4_init, Cond.code yX4_init cX4_init 4 none, Cond.methodLink RX4 3 objectInit, Cond.fieldLink RX4 9 "WardenHouse$Reader" "words" "LWardenHouse$Words;", Cond.fieldLink RX4 15 "WardenHouse$Reader" "plan" "LWardenHouse$Plan;", Cond.fieldLink RX4 19 "WardenHouse$Reader" "policy" "LWardenHouse$Policy;", Cond.classLink RX4 23 RX5, Cond.fieldLink RX4 26 "WardenHouse$Reader" "pattern" "LWardenHouse$Right;", Cond.fieldLink RX4 30 "WardenHouse$Reader" "scopeNames" "[J", Cond.fieldLink RX4 34 "WardenHouse$Reader" "scopeKeys" "[I"]
def wsX11_init_r8 : List Cond := [Cond.fieldLink RX4 44 "WardenHouse$Reader" "method" "LWardenHouse$Unit;", Cond.fieldLink RX4 48 "WardenHouse$Reader" "now" "LWardenHouse$Unit;", Cond.fieldLink RX4 51 "WardenHouse$Reader" "faultPlace" "I", Cond.methodLink RX4 25 yX5_init, Cond.methodLink RX4 38 yX2_unitAt, Cond.instanceMethod yX2_unitAt, Cond.selects RX2 yX2_unitAt yX2_unitAt, Cond.code yX2_unitAt cX2_unitAt 2 (some (.object "WardenHouse$Unit")), Cond.methodLink RX11 47 yX8_init, Cond.instanceMethod yX8_init, Cond.code yX8_init cX8_init 2 none, Cond.methodLink RX8 3 objectInit, Cond.fieldLink RX8 9 "WardenHouse$Survey" "plan" "LWardenHouse$Plan;", Cond.fieldLink RX8 15 "WardenHouse$Survey" "may" "[I", Cond.methodLink RX11 56 yX1_init, Cond.instanceMethod yX1_init, Cond.code yX1_init cX1_init 4 none, Cond.methodLink RX1 5 objectInit, Cond.fieldLink RX1 11 "WardenHouse$Machine" "plan" "LWardenHouse$Plan;", Cond.fieldLink RX1 15 "WardenHouse$Machine" "policy" "LWardenHouse$Policy;", Cond.classLink RX1 19 RX0, Cond.instantiable RX0 6, Cond.initialized RX0, Cond.fieldLink RX1 22 "WardenHouse$Machine" "contexts" "LWardenHouse$Contexts;"]
def wsX11_init_r9 : List Cond := [Cond.classLink RX1 26 RX7, Cond.fieldLink RX1 28 "WardenHouse$Machine" "strands" "[LWardenHouse$Strand;", Cond.instantiable RX7 18, Cond.initialized RX7, Cond.fieldLink RX1 33 "WardenHouse$Machine" "target" "LWardenHouse$Strand;", Cond.classLink RX1 37 RX6, Cond.fieldLink RX1 42 "WardenHouse$Machine" "nodes" "LWardenHouse$Row;", Cond.fieldLink RX1 46 "WardenHouse$Machine" "things" "LWardenHouse$Row;", Cond.fieldLink RX1 49 "WardenHouse$Machine" "slots" "LWardenHouse$Row;", Cond.fieldLink RX1 52 "WardenHouse$Machine" "events" "LWardenHouse$Row;", Cond.methodLink RX1 21 yX0_init, Cond.instanceMethod yX0_init, Cond.code yX0_init cX0_init 1 none, Cond.methodLink RX0 3 objectInit, Cond.classLink RX0 9 RX6, Cond.fieldLink RX0 14 "WardenHouse$Contexts" "starts" "LWardenHouse$Row;", Cond.fieldLink RX0 20 "WardenHouse$Contexts" "products" "LWardenHouse$Row;", Cond.fieldLink RX0 23 "WardenHouse$Contexts" "chain" "LWardenHouse$Row;", Cond.fieldLink RX0 26 "WardenHouse$Contexts" "heads" "[I", Cond.fieldLink RX0 30 "WardenHouse$Contexts" "draft" "[I", Cond.methodLink RX0 11 yX6_init, Cond.methodLink RX1 32 yX7_init, Cond.instanceMethod yX7_init, Cond.code yX7_init cX7_init 1 none]
def wsX11_init_r10 : List Cond := [Cond.methodLink RX7 3 objectInit, Cond.fieldLink RX7 9 "WardenHouse$Strand" "units" "[I", Cond.fieldLink RX7 15 "WardenHouse$Strand" "places" "[I", Cond.fieldLink RX7 18 "WardenHouse$Strand" "bases" "[I", Cond.fieldLink RX7 21 "WardenHouse$Strand" "bottoms" "[I", Cond.fieldLink RX7 24 "WardenHouse$Strand" "nodes" "[I", Cond.fieldLink RX7 27 "WardenHouse$Strand" "contexts" "[I", Cond.classLink RX7 30 RX6, Cond.fieldLink RX7 35 "WardenHouse$Strand" "stack" "LWardenHouse$Row;", Cond.methodLink RX7 32 yX6_init, Cond.methodLink RX1 39 yX6_init, Cond.methodLink RX11 65 yX5_init]
def wsX11_init : List Cond := .code yX11_init cX11_init 1 none :: ((wsX11_init_r1 ++ (wsX11_init_r2 ++ (wsX11_init_r3 ++ (wsX11_init_r4 ++ (wsX11_init_r5 ++ (wsX11_init_r6 ++ (wsX11_init_r7 ++ (wsX11_init_r8 ++ (wsX11_init_r9 ++ wsX11_init_r10))))))))) ++ wsX110 ++ wsX100 ++ wsX30 ++ wsX20 ++ wsX40 ++ wsX80 ++ wsX10 ++ wsX50 ++ wsX60 ++ wsX90 ++ wsX00 ++ wsX70)
def wsX11_putBytes : List Cond := .code yX11_putBytes cX11_putBytes 3 none :: ([.fieldLink RX11 73 "WardenHouse" "fed" "I", .fieldLink RX11 9 "WardenHouse" "tape" "[B"] ++ wsX110)
def wsX11_feed : List Cond := .code yX11_feed cX11_feed 6 (some .boolean) :: ([.fieldLink RX11 73 "WardenHouse" "fed" "I", .methodLink RX11 77 yX11_putBytes, .instanceMethod yX11_putBytes, .selects RX11 yX11_putBytes yX11_putBytes, .initialized RX11, .code yX11_putBytes cX11_putBytes 3 none, .fieldLink RX11 9 "WardenHouse" "tape" "[B"] ++ wsX110)
def wsX11_end : List Cond := .code yX11_end cX11_end 2 (some .boolean) :: ([.fieldLink RX11 73 "WardenHouse" "fed" "I"] ++ wsX110)
def wsX11_fault : List Cond := .code yX11_fault cX11_fault 2 (some .int) :: ([.fieldLink RX11 41 "WardenHouse" "reader" "LWardenHouse$Reader;", .fieldLink RX11 115 "WardenHouse$Reader" "faultKind" "I", .fieldLink RX11 118 "WardenHouse$Reader" "faultPlace" "I"] ++ wsX110 ++ wsX40)
def wsX11_count : List Cond := .code yX11_count cX11_count 2 (some .int) :: ([.fieldLink RX11 73 "WardenHouse" "fed" "I", .fieldLink RX11 81 "WardenHouse" "planned" "Z", .fieldLink RX11 32 "WardenHouse" "plan" "LWardenHouse$Plan;", .methodLink RX11 121 yX2_sizeOf, .instanceMethod yX2_sizeOf, .selects RX2 yX2_sizeOf yX2_sizeOf, .initialized RX2, .code yX2_sizeOf cX2_sizeOf 2 (some .int), .fieldLink RX2 59 "WardenHouse$Plan" "unitCount" "I", .fieldLink RX2 63 "WardenHouse$Plan" "moduleCount" "I", .fieldLink RX2 9 "WardenHouse$Plan" "policy" "LWardenHouse$Policy;", .fieldLink RX2 133 "WardenHouse$Policy" "grantCount" "I", .fieldLink RX2 136 "WardenHouse$Policy" "domainCount" "I", .fieldLink RX2 139 "WardenHouse$Policy" "limitCount" "I", .fieldLink RX2 142 "WardenHouse$Policy" "askingCount" "I", .fieldLink RX2 66 "WardenHouse$Plan" "numberCount" "I", .fieldLink RX2 69 "WardenHouse$Plan" "nameCount" "I", .methodLink RX2 145 yX2_needing, .instanceMethod yX2_needing, .selects RX2 yX2_needing yX2_needing, .code yX2_needing cX2_needing 3 (some .int), .fieldLink RX2 17 "WardenHouse$Plan" "units" "[LWardenHouse$Unit;", .fieldLink RX2 118 "WardenHouse$Unit" "needs" "Z"] ++ wsX110 ++ wsX20 ++ wsX30 ++ wsX90)
def wsX11_hasUnit : List Cond := .code yX11_hasUnit cX11_hasUnit 2 (some .boolean) :: ([.fieldLink RX11 81 "WardenHouse" "planned" "Z", .fieldLink RX11 32 "WardenHouse" "plan" "LWardenHouse$Plan;", .fieldLink RX11 112 "WardenHouse$Plan" "unitCount" "I"] ++ wsX110 ++ wsX20)
def wsX11_unit_r1 : List Cond := [Cond.fieldLink RX11 32 "WardenHouse" "plan" "LWardenHouse$Plan;", Cond.methodLink RX11 125 yX11_hasUnit, Cond.instanceMethod yX11_hasUnit, Cond.selects RX11 yX11_hasUnit yX11_hasUnit, Cond.initialized RX11, Cond.code yX11_hasUnit cX11_hasUnit 2 (some .boolean), Cond.fieldLink RX11 81 "WardenHouse" "planned" "Z", Cond.fieldLink RX11 112 "WardenHouse$Plan" "unitCount" "I", Cond.methodLink RX11 129 yX2_unitAt, Cond.instanceMethod yX2_unitAt, Cond.selects RX2 yX2_unitAt yX2_unitAt, Cond.initialized RX2, Cond.code yX2_unitAt cX2_unitAt 2 (some (.object "WardenHouse$Unit")), Cond.fieldLink RX2 17 "WardenHouse$Plan" "units" "[LWardenHouse$Unit;", Cond.methodLink RX11 133 yX9_tell, Cond.instanceMethod yX9_tell, Cond.selects RX9 yX9_tell yX9_tell, Cond.initialized RX9, Cond.code yX9_tell cX9_tell 2 (some .int), Cond.fieldLink RX9 34 "WardenHouse$Unit" "sort" "I", Cond.fieldLink RX9 37 "WardenHouse$Unit" "module" "I", Cond.fieldLink RX9 40 "WardenHouse$Unit" "where" "I", Cond.fieldLink RX9 47 "WardenHouse$Unit" "parameters" "I", Cond.fieldLink RX9 59 "WardenHouse$Unit" "captured" "I"]
def wsX11_unit_r2 : List Cond := [Cond.fieldLink RX9 62 "WardenHouse$Unit" "needs" "Z", Cond.fieldLink RX9 24 "WardenHouse$Unit" "plain" "LWardenHouse$Row;", Cond.fieldLink RX9 69 "WardenHouse$Row" "size" "I", Cond.fieldLink RX9 27 "WardenHouse$Unit" "rewritten" "LWardenHouse$Row;", Cond.methodLink RX9 127 yX9_locals, Cond.instanceMethod yX9_locals, Cond.selects RX9 yX9_locals yX9_locals, Cond.code yX9_locals cX9_locals 1 (some .int), Cond.fieldLink RX9 56 "WardenHouse$Unit" "own" "I"]
def wsX11_unit : List Cond := .code yX11_unit cX11_unit 3 (some .int) :: ((wsX11_unit_r1 ++ wsX11_unit_r2) ++ wsX110 ++ wsX20 ++ wsX90 ++ wsX60)
def wsX11_code : List Cond := .code yX11_code cX11_code 6 (some .int) :: ([.fieldLink RX11 32 "WardenHouse" "plan" "LWardenHouse$Plan;", .fieldLink RX11 138 "WardenHouse$Unit" "rewritten" "LWardenHouse$Row;", .fieldLink RX11 142 "WardenHouse$Unit" "plain" "LWardenHouse$Row;", .fieldLink RX11 145 "WardenHouse$Row" "size" "I", .methodLink RX11 125 yX11_hasUnit, .instanceMethod yX11_hasUnit, .selects RX11 yX11_hasUnit yX11_hasUnit, .initialized RX11, .code yX11_hasUnit cX11_hasUnit 2 (some .boolean), .fieldLink RX11 81 "WardenHouse" "planned" "Z", .fieldLink RX11 112 "WardenHouse$Plan" "unitCount" "I", .methodLink RX11 129 yX2_unitAt, .instanceMethod yX2_unitAt, .selects RX2 yX2_unitAt yX2_unitAt, .initialized RX2, .code yX2_unitAt cX2_unitAt 2 (some (.object "WardenHouse$Unit")), .fieldLink RX2 17 "WardenHouse$Plan" "units" "[LWardenHouse$Unit;", .methodLink RX11 150 yX6_at, .instanceMethod yX6_at, .selects RX6 yX6_at yX6_at, .initialized RX6, .code yX6_at cX6_at 2 (some .int), .fieldLink RX6 13 "WardenHouse$Row" "size" "I", .fieldLink RX6 7 "WardenHouse$Row" "cells" "[J"] ++ wsX110 ++ wsX90 ++ wsX60 ++ wsX20)
def wsX11_number : List Cond := .code yX11_number cX11_number 2 (some .int) :: ([.fieldLink RX11 81 "WardenHouse" "planned" "Z", .fieldLink RX11 32 "WardenHouse" "plan" "LWardenHouse$Plan;", .methodLink RX11 153 yX2_numberAt, .instanceMethod yX2_numberAt, .selects RX2 yX2_numberAt yX2_numberAt, .initialized RX2, .code yX2_numberAt cX2_numberAt 2 (some .int), .fieldLink RX2 66 "WardenHouse$Plan" "numberCount" "I", .fieldLink RX2 45 "WardenHouse$Plan" "numbers" "[I"] ++ wsX110 ++ wsX20)
def wsX11_domain : List Cond := .code yX11_domain cX11_domain 2 (some .int) :: ([.fieldLink RX11 81 "WardenHouse" "planned" "Z", .fieldLink RX11 32 "WardenHouse" "plan" "LWardenHouse$Plan;", .fieldLink RX11 156 "WardenHouse$Plan" "moduleCount" "I", .fieldLink RX11 23 "WardenHouse" "policy" "LWardenHouse$Policy;", .methodLink RX11 159 yX3_domainOf, .instanceMethod yX3_domainOf, .selects RX3 yX3_domainOf yX3_domainOf, .initialized RX3, .code yX3_domainOf cX3_domainOf 2 (some .int), .fieldLink RX3 32 "WardenHouse$Policy" "moduleDomains" "[I"] ++ wsX110 ++ wsX20 ++ wsX30)
def wsX11_has_r1 : List Cond := [Cond.fieldLink RX11 81 "WardenHouse" "planned" "Z", Cond.fieldLink RX11 184 "WardenHouse" "asking" "Z", Cond.fieldLink RX11 23 "WardenHouse" "policy" "LWardenHouse$Policy;", Cond.fieldLink RX11 187 "WardenHouse$Policy" "limitCount" "I", Cond.fieldLink RX11 190 "WardenHouse$Policy" "domainCount" "I", Cond.fieldLink RX11 70 "WardenHouse" "asked" "LWardenHouse$Right;", Cond.methodLink RX11 193 yX3_holders, Cond.instanceMethod yX3_holders, Cond.selects RX3 yX3_holders yX3_holders, Cond.initialized RX3, Cond.code yX3_holders cX3_holders 5 (some .int), Cond.fieldLink RX3 52 "WardenHouse$Policy" "grantCount" "I", Cond.fieldLink RX3 22 "WardenHouse$Policy" "grantSizes" "[I", Cond.fieldLink RX3 59 "WardenHouse$Policy" "domainCount" "I", Cond.fieldLink RX3 29 "WardenHouse$Policy" "domainSets" "[I", Cond.fieldLink RX3 56 "WardenHouse$Policy" "limitCount" "I", Cond.fieldLink RX3 26 "WardenHouse$Policy" "limitSizes" "[I", Cond.methodLink RX3 77 yX3_anyHas, Cond.instanceMethod yX3_anyHas, Cond.selects RX3 yX3_anyHas yX3_anyHas, Cond.code yX3_anyHas cX3_anyHas 6 (some .boolean), Cond.fieldLink RX3 19 "WardenHouse$Policy" "rights" "[LWardenHouse$Right;", Cond.fieldLink RX3 81 "WardenHouse$Right" "kind" "J", Cond.methodLink RX3 73 yX5_covers]
def wsX11_has_r2 : List Cond := [Cond.instanceMethod yX5_covers, Cond.selects RX5 yX5_covers yX5_covers, Cond.initialized RX5, Cond.code yX5_covers cX5_covers 5 (some .boolean), Cond.fieldLink RX5 23 "WardenHouse$Right" "count" "I", Cond.fieldLink RX5 19 "WardenHouse$Right" "tail" "I", Cond.fieldLink RX5 9 "WardenHouse$Right" "steps" "[J"]
def wsX11_has : List Cond := .code yX11_has cX11_has 3 (some .int) :: ((wsX11_has_r1 ++ wsX11_has_r2) ++ wsX110 ++ wsX30 ++ wsX50)
def wsX11_may_r1 : List Cond := [Cond.fieldLink RX11 184 "WardenHouse" "asking" "Z", Cond.fieldLink RX11 50 "WardenHouse" "survey" "LWardenHouse$Survey;", Cond.fieldLink RX11 197 "WardenHouse$Survey" "done" "Z", Cond.fieldLink RX11 23 "WardenHouse" "policy" "LWardenHouse$Policy;", Cond.fieldLink RX11 70 "WardenHouse" "asked" "LWardenHouse$Right;", Cond.methodLink RX11 125 yX11_hasUnit, Cond.instanceMethod yX11_hasUnit, Cond.selects RX11 yX11_hasUnit yX11_hasUnit, Cond.initialized RX11, Cond.code yX11_hasUnit cX11_hasUnit 2 (some .boolean), Cond.fieldLink RX11 81 "WardenHouse" "planned" "Z", Cond.fieldLink RX11 32 "WardenHouse" "plan" "LWardenHouse$Plan;", Cond.fieldLink RX11 112 "WardenHouse$Plan" "unitCount" "I", Cond.methodLink RX11 193 yX3_holders, Cond.instanceMethod yX3_holders, Cond.selects RX3 yX3_holders yX3_holders, Cond.initialized RX3, Cond.code yX3_holders cX3_holders 5 (some .int), Cond.fieldLink RX3 52 "WardenHouse$Policy" "grantCount" "I", Cond.fieldLink RX3 22 "WardenHouse$Policy" "grantSizes" "[I", Cond.fieldLink RX3 59 "WardenHouse$Policy" "domainCount" "I", Cond.fieldLink RX3 29 "WardenHouse$Policy" "domainSets" "[I", Cond.fieldLink RX3 56 "WardenHouse$Policy" "limitCount" "I", Cond.fieldLink RX3 26 "WardenHouse$Policy" "limitSizes" "[I"]
def wsX11_may_r2 : List Cond := [Cond.methodLink RX3 77 yX3_anyHas, Cond.instanceMethod yX3_anyHas, Cond.selects RX3 yX3_anyHas yX3_anyHas, Cond.code yX3_anyHas cX3_anyHas 6 (some .boolean), Cond.fieldLink RX3 19 "WardenHouse$Policy" "rights" "[LWardenHouse$Right;", Cond.fieldLink RX3 81 "WardenHouse$Right" "kind" "J", Cond.methodLink RX3 73 yX5_covers, Cond.instanceMethod yX5_covers, Cond.selects RX5 yX5_covers yX5_covers, Cond.initialized RX5, Cond.code yX5_covers cX5_covers 5 (some .boolean), Cond.fieldLink RX5 23 "WardenHouse$Right" "count" "I", Cond.fieldLink RX5 19 "WardenHouse$Right" "tail" "I", Cond.fieldLink RX5 9 "WardenHouse$Right" "steps" "[J", Cond.methodLink RX11 200 yX8_findMay, Cond.instanceMethod yX8_findMay, Cond.selects RX8 yX8_findMay yX8_findMay, Cond.initialized RX8, Cond.code yX8_findMay cX8_findMay 4 none, Cond.fieldLink RX8 15 "WardenHouse$Survey" "may" "[I", Cond.fieldLink RX8 76 "WardenHouse$Survey" "contextMay" "I", Cond.fieldLink RX8 9 "WardenHouse$Survey" "plan" "LWardenHouse$Plan;", Cond.fieldLink RX8 26 "WardenHouse$Plan" "unitCount" "I", Cond.fieldLink RX8 79 "WardenHouse$Unit" "sort" "I"]
def wsX11_may_r3 : List Cond := [Cond.fieldLink RX8 82 "WardenHouse$Unit" "parameters" "I", Cond.fieldLink RX8 23 "WardenHouse$Survey" "changed" "Z", Cond.fieldLink RX8 19 "WardenHouse$Survey" "done" "Z", Cond.methodLink RX8 70 yJ7_fill_53178, Cond.static yJ7_fill_53178, Cond.initialized RJ7, Cond.code yJ7_fill_53178 cJ7_fill_53178 4 none, Cond.methodLink RX8 32 yX2_unitAt, Cond.instanceMethod yX2_unitAt, Cond.selects RX2 yX2_unitAt yX2_unitAt, Cond.initialized RX2, Cond.code yX2_unitAt cX2_unitAt 2 (some (.object "WardenHouse$Unit")), Cond.fieldLink RX2 17 "WardenHouse$Plan" "units" "[LWardenHouse$Unit;", Cond.methodLink RX8 85 yX8_meetOf, Cond.static yX8_meetOf, Cond.code yX8_meetOf cX8_meetOf 4 (some .int), Cond.fieldLink RX8 117 "WardenHouse$Unit" "domain" "I", Cond.methodLink RX8 89 yX8_addMay, Cond.instanceMethod yX8_addMay, Cond.selects RX8 yX8_addMay yX8_addMay, Cond.code yX8_addMay cX8_addMay 4 none, Cond.fieldLink RX8 99 "WardenHouse$Unit" "number" "I", Cond.methodLink RX8 93 yX8_mayOf, Cond.instanceMethod yX8_mayOf]
def wsX11_may_r4 : List Cond := [Cond.selects RX8 yX8_mayOf yX8_mayOf, Cond.code yX8_mayOf cX8_mayOf 2 (some .int), Cond.methodLink RX8 96 yX8_spread, Cond.instanceMethod yX8_spread, Cond.selects RX8 yX8_spread yX8_spread, Cond.code yX8_spread cX8_spread 6 none, Cond.methodLink RX8 52 yX9_length, Cond.instanceMethod yX9_length, Cond.selects RX9 yX9_length yX9_length, Cond.initialized RX9, Cond.code yX9_length cX9_length 1 (some .int), Cond.fieldLink RX9 20 "WardenHouse$Unit" "script" "LWardenHouse$Row;", Cond.fieldLink RX9 69 "WardenHouse$Row" "size" "I", Cond.methodLink RX8 56 yX9_what, Cond.instanceMethod yX9_what, Cond.selects RX9 yX9_what yX9_what, Cond.code yX9_what cX9_what 2 (some .int), Cond.methodLink RX9 86 yX6_at, Cond.instanceMethod yX6_at, Cond.selects RX6 yX6_at yX6_at, Cond.initialized RX6, Cond.code yX6_at cX6_at 2 (some .int), Cond.fieldLink RX6 13 "WardenHouse$Row" "size" "I", Cond.fieldLink RX6 7 "WardenHouse$Row" "cells" "[J"]
def wsX11_may_r5 : List Cond := [Cond.methodLink RX8 60 yX9_first, Cond.instanceMethod yX9_first, Cond.selects RX9 yX9_first yX9_first, Cond.code yX9_first cX9_first 2 (some .int), Cond.methodLink RX8 102 yX8_spreadPart, Cond.instanceMethod yX8_spreadPart, Cond.selects RX8 yX8_spreadPart yX8_spreadPart, Cond.code yX8_spreadPart cX8_spreadPart 5 none, Cond.fieldLink RX8 114 "WardenHouse$Unit" "limit" "I", Cond.methodLink RX8 63 yX9_second, Cond.instanceMethod yX9_second, Cond.selects RX9 yX9_second yX9_second, Cond.code yX9_second cX9_second 2 (some .int), Cond.methodLink RX8 106 yX2_groupBegun, Cond.instanceMethod yX2_groupBegun, Cond.selects RX2 yX2_groupBegun yX2_groupBegun, Cond.code yX2_groupBegun cX2_groupBegun 4 (some .int), Cond.methodLink RX2 114 yX2_nameAt, Cond.instanceMethod yX2_nameAt, Cond.selects RX2 yX2_nameAt yX2_nameAt, Cond.code yX2_nameAt cX2_nameAt 2 (some .long), Cond.fieldLink RX2 69 "WardenHouse$Plan" "nameCount" "I", Cond.fieldLink RX2 48 "WardenHouse$Plan" "names" "[J", Cond.methodLink RX2 108 yX2_groupOf]
def wsX11_may_r6 : List Cond := [Cond.instanceMethod yX2_groupOf, Cond.selects RX2 yX2_groupOf yX2_groupOf, Cond.code yX2_groupOf cX2_groupOf 7 (some .int), Cond.fieldLink RX2 59 "WardenHouse$Plan" "unitCount" "I", Cond.fieldLink RX2 105 "WardenHouse$Unit" "sort" "I", Cond.fieldLink RX2 98 "WardenHouse$Unit" "parameters" "I", Cond.fieldLink RX2 94 "WardenHouse$Unit" "name" "J", Cond.methodLink RX8 110 yX8_spreadGroup, Cond.instanceMethod yX8_spreadGroup, Cond.selects RX8 yX8_spreadGroup yX8_spreadGroup, Cond.code yX8_spreadGroup cX8_spreadGroup 5 none, Cond.fieldLink RX8 45 "WardenHouse$Unit" "group" "I", Cond.methodLink RX11 203 yX8_mayOf]
def wsX11_may : List Cond := .code yX11_may cX11_may 2 (some .int) :: ((wsX11_may_r1 ++ (wsX11_may_r2 ++ (wsX11_may_r3 ++ (wsX11_may_r4 ++ (wsX11_may_r5 ++ wsX11_may_r6))))) ++ wsX110 ++ wsX80 ++ wsX20 ++ wsX30 ++ wsX50 ++ wsX90 ++ wsX60)
def wsX11_result_r1 : List Cond := [Cond.fieldLink RX11 59 "WardenHouse" "machine" "LWardenHouse$Machine;", Cond.fieldLink RX11 234 "WardenHouse$Machine" "ran" "Z", Cond.methodLink RX11 237 yX1_tell, Cond.instanceMethod yX1_tell, Cond.selects RX1 yX1_tell yX1_tell, Cond.initialized RX1, Cond.code yX1_tell cX1_tell 2 (some .int), Cond.fieldLink RX1 80 "WardenHouse$Machine" "ending" "I", Cond.fieldLink RX1 71 "WardenHouse$Machine" "steps" "I", Cond.fieldLink RX1 67 "WardenHouse$Machine" "strandCount" "I", Cond.fieldLink RX1 77 "WardenHouse$Machine" "eventCount" "I", Cond.fieldLink RX1 83 "WardenHouse$Machine" "mostFrames" "I", Cond.fieldLink RX1 86 "WardenHouse$Machine" "looked" "I", Cond.fieldLink RX1 22 "WardenHouse$Machine" "contexts" "LWardenHouse$Contexts;", Cond.methodLink RX1 301 yX1_thingCount, Cond.instanceMethod yX1_thingCount, Cond.selects RX1 yX1_thingCount yX1_thingCount, Cond.code yX1_thingCount cX1_thingCount 1 (some .int), Cond.fieldLink RX1 46 "WardenHouse$Machine" "things" "LWardenHouse$Row;", Cond.fieldLink RX1 298 "WardenHouse$Row" "size" "I", Cond.methodLink RX1 438 yX0_made, Cond.instanceMethod yX0_made, Cond.selects RX0 yX0_made yX0_made, Cond.initialized RX0]
def wsX11_result_r2 : List Cond := [Cond.code yX0_made cX0_made 1 (some .int), Cond.fieldLink RX0 14 "WardenHouse$Contexts" "starts" "LWardenHouse$Row;", Cond.fieldLink RX0 42 "WardenHouse$Row" "size" "I"]
def wsX11_result : List Cond := .code yX11_result cX11_result 2 (some .int) :: ((wsX11_result_r1 ++ wsX11_result_r2) ++ wsX110 ++ wsX10 ++ wsX60 ++ wsX00)
def wsX11_event : List Cond := .code yX11_event cX11_event 3 (some .int) :: ([.fieldLink RX11 59 "WardenHouse" "machine" "LWardenHouse$Machine;", .fieldLink RX11 234 "WardenHouse$Machine" "ran" "Z", .methodLink RX11 238 yX1_tellEvent, .instanceMethod yX1_tellEvent, .selects RX1 yX1_tellEvent yX1_tellEvent, .initialized RX1, .code yX1_tellEvent cX1_tellEvent 3 (some .int), .fieldLink RX1 52 "WardenHouse$Machine" "events" "LWardenHouse$Row;", .fieldLink RX1 298 "WardenHouse$Row" "size" "I", .methodLink RX1 173 yX6_at, .instanceMethod yX6_at, .selects RX6 yX6_at yX6_at, .initialized RX6, .code yX6_at cX6_at 2 (some .int), .fieldLink RX6 13 "WardenHouse$Row" "size" "I", .fieldLink RX6 7 "WardenHouse$Row" "cells" "[J"] ++ wsX110 ++ wsX10 ++ wsX60)
def wsX11_thread : List Cond := .code yX11_thread cX11_thread 3 (some .int) :: ([.fieldLink RX11 59 "WardenHouse" "machine" "LWardenHouse$Machine;", .fieldLink RX11 234 "WardenHouse$Machine" "ran" "Z", .methodLink RX11 242 yX1_tellThread, .instanceMethod yX1_tellThread, .selects RX1 yX1_tellThread yX1_tellThread, .initialized RX1, .code yX1_tellThread cX1_tellThread 5 (some .int), .fieldLink RX1 67 "WardenHouse$Machine" "strandCount" "I", .fieldLink RX1 408 "WardenHouse$Strand" "outcome" "J", .fieldLink RX1 134 "WardenHouse$Strand" "state" "I", .fieldLink RX1 441 "WardenHouse$Strand" "began" "I", .fieldLink RX1 141 "WardenHouse$Strand" "waits" "I", .methodLink RX1 118 yX1_strandAt, .instanceMethod yX1_strandAt, .selects RX1 yX1_strandAt yX1_strandAt, .code yX1_strandAt cX1_strandAt 2 (some (.object "WardenHouse$Strand")), .fieldLink RX1 28 "WardenHouse$Machine" "strands" "[LWardenHouse$Strand;", .methodLink RX1 291 yX1_sortOf, .static yX1_sortOf, .code yX1_sortOf cX1_sortOf 2 (some .int), .methodLink RX1 137 yX1_hasEnded, .instanceMethod yX1_hasEnded, .selects RX1 yX1_hasEnded yX1_hasEnded, .code yX1_hasEnded cX1_hasEnded 2 (some .boolean)] ++ wsX110 ++ wsX10 ++ wsX70)
def wsX11_context_r1 : List Cond := [Cond.fieldLink RX11 59 "WardenHouse" "machine" "LWardenHouse$Machine;", Cond.fieldLink RX11 234 "WardenHouse$Machine" "ran" "Z", Cond.methodLink RX11 245 yX1_tellContext, Cond.instanceMethod yX1_tellContext, Cond.selects RX1 yX1_tellContext yX1_tellContext, Cond.initialized RX1, Cond.code yX1_tellContext cX1_tellContext 3 (some .int), Cond.fieldLink RX1 22 "WardenHouse$Machine" "contexts" "LWardenHouse$Contexts;", Cond.methodLink RX1 438 yX0_made, Cond.instanceMethod yX0_made, Cond.selects RX0 yX0_made yX0_made, Cond.initialized RX0, Cond.code yX0_made cX0_made 1 (some .int), Cond.fieldLink RX0 14 "WardenHouse$Contexts" "starts" "LWardenHouse$Row;", Cond.fieldLink RX0 42 "WardenHouse$Row" "size" "I", Cond.methodLink RX1 444 yX0_productCount, Cond.instanceMethod yX0_productCount, Cond.selects RX0 yX0_productCount yX0_productCount, Cond.code yX0_productCount cX0_productCount 3 (some .int), Cond.fieldLink RX0 20 "WardenHouse$Contexts" "products" "LWardenHouse$Row;", Cond.methodLink RX0 46 yX6_at, Cond.instanceMethod yX6_at, Cond.selects RX6 yX6_at yX6_at, Cond.initialized RX6]
def wsX11_context_r2 : List Cond := [Cond.code yX6_at cX6_at 2 (some .int), Cond.fieldLink RX6 13 "WardenHouse$Row" "size" "I", Cond.fieldLink RX6 7 "WardenHouse$Row" "cells" "[J", Cond.methodLink RX1 447 yX0_product, Cond.instanceMethod yX0_product, Cond.selects RX0 yX0_product yX0_product, Cond.code yX0_product cX0_product 3 (some .int)]
def wsX11_context : List Cond := .code yX11_context cX11_context 3 (some .int) :: ((wsX11_context_r1 ++ wsX11_context_r2) ++ wsX110 ++ wsX10 ++ wsX00 ++ wsX60)
set_option maxRecDepth 20000 in
theorem ggX11_init_X10_init : GoodIn wsX11_init wsX10_init := goodIn_r _ [37, 38, 2, 3, 39, 40, 41, 42, 43, 44, 45, 4, 46, 47, 48, 49, 50, 51, 52, 53, 54, 55, 56, 57, 58, 59, 60, 61, 62, 63, 64, 65, 66, 67, 68, 69, 70, 71, 72, 73, 74, 75, 76, 77, 78, 79, 80, 81, 82, 83, 84, 85, 86, 87, 88, 89, 90, 91, 92, 93, 94, 95, 96, 97, 98, 99, 100, 101, 102, 8, 103, 241, 242, 243, 244, 245, 246, 247, 248, 249, 250, 251, 324, 325] (by decide +kernel) (by decide +kernel)
set_option maxRecDepth 20000 in
theorem gX11_init_X10_init : GoodIn wsX11_init (wsX10_init) := ggX11_init_X10_init
set_option maxRecDepth 20000 in
theorem ggX11_init_X3_init : GoodIn wsX11_init wsX3_init := goodIn_r _ [106, 107, 2, 3, 108, 109, 110, 111, 112, 113, 114, 115, 116, 117, 118, 119, 31, 32, 120, 121, 122, 12, 123, 124, 125, 126, 127, 39, 128, 252, 253, 254, 255, 256, 257, 258, 259, 260, 261, 262, 263, 264, 265, 320, 321, 322, 323] (by decide +kernel) (by decide +kernel)
set_option maxRecDepth 20000 in
theorem gX11_init_X3_init : GoodIn wsX11_init (wsX3_init) := ggX11_init_X3_init
set_option maxRecDepth 20000 in
theorem ggX11_init_X2_init : GoodIn wsX11_init wsX2_init := goodIn_r _ [131, 132, 2, 3, 133, 134, 135, 136, 137, 39, 138, 110, 139, 140, 141, 142, 143, 144, 145, 146, 147, 148, 149, 150, 151, 152, 153, 42, 43, 154, 155, 156, 157, 48, 49, 50, 51, 266, 267, 268, 269, 270, 271, 272, 273, 274, 275, 276, 277, 278, 279, 280, 281, 326, 327, 328, 329, 330, 331, 332, 333, 334, 335, 336, 337, 338, 339, 340, 341, 342, 343, 324, 325] (by decide +kernel) (by decide +kernel)
set_option maxRecDepth 20000 in
theorem gX11_init_X2_init : GoodIn wsX11_init (wsX2_init) := ggX11_init_X2_init
set_option maxRecDepth 20000 in
theorem ggX11_init_X4_init : GoodIn wsX11_init wsX4_init := goodIn_r _ [160, 161, 2, 3, 162, 163, 164, 165, 31, 32, 166, 39, 167, 110, 168, 169, 170, 171, 172, 125, 126, 127, 128, 173, 174, 175, 16, 176, 135, 282, 283, 284, 285, 286, 287, 288, 289, 290, 291, 292, 293, 294, 320, 321, 322, 323, 266, 267, 268, 269, 270, 271, 272, 273, 274, 275, 276, 277, 278, 279, 280, 281] (by decide +kernel) (by decide +kernel)
set_option maxRecDepth 20000 in
theorem gX11_init_X4_init : GoodIn wsX11_init (wsX4_init) := ggX11_init_X4_init
set_option maxRecDepth 20000 in
theorem ggX11_init_X8_init : GoodIn wsX11_init wsX8_init := goodIn_r _ [179, 180, 2, 3, 181, 110, 182, 295, 296, 297, 298, 299] (by decide +kernel) (by decide +kernel)
set_option maxRecDepth 20000 in
theorem gX11_init_X8_init : GoodIn wsX11_init (wsX8_init) := ggX11_init_X8_init
set_option maxRecDepth 20000 in
theorem ggX11_init_X1_init : GoodIn wsX11_init wsX1_init := goodIn_r _ [185, 186, 2, 3, 187, 188, 189, 190, 191, 192, 193, 194, 195, 196, 197, 198, 42, 43, 199, 200, 201, 202, 203, 204, 205, 206, 207, 208, 209, 210, 110, 211, 212, 213, 48, 49, 50, 39, 51, 214, 215, 216, 217, 218, 219, 220, 221, 222, 223, 224, 225, 226, 227, 300, 301, 302, 303, 304, 305, 306, 307, 308, 309, 310, 311, 312, 313, 314, 315, 316, 317, 318, 319, 344, 345, 346, 347, 348, 349, 350, 351, 352, 353, 354, 355, 356, 357, 358, 359, 360, 361, 362, 363, 364, 365, 366, 367, 324, 325] (by decide +kernel) (by decide +kernel)
set_option maxRecDepth 20000 in
theorem gX11_init_X1_init : GoodIn wsX11_init (wsX1_init) := ggX11_init_X1_init
set_option maxRecDepth 20000 in
theorem ggX11_init_X5_init : GoodIn wsX11_init wsX5_init := goodIn_r _ [126, 127, 2, 3, 39, 128, 320, 321, 322, 323] (by decide +kernel) (by decide +kernel)
set_option maxRecDepth 20000 in
theorem gX11_init_X5_init : GoodIn wsX11_init (wsX5_init) := ggX11_init_X5_init
theorem dX11_init_0 : decode cX11_init 0 = .ok (.aload_n 0, 1) := by decide +kernel
theorem dX11_init_1 : decode cX11_init 1 = .ok (.invokespecial 1, 3) := by decide +kernel
theorem dX11_init_4 : decode cX11_init 4 = .ok (.aload_n 0, 1) := by decide +kernel
theorem dX11_init_5 : decode cX11_init 5 = .ok (.sipush 3000, 3) := by decide +kernel
theorem dX11_init_8 : decode cX11_init 8 = .ok (.newarray .byte, 2) := by decide +kernel
theorem dX11_init_10 : decode cX11_init 10 = .ok (.putfield 9, 3) := by decide +kernel
theorem dX11_init_13 : decode cX11_init 13 = .ok (.aload_n 0, 1) := by decide +kernel
theorem dX11_init_14 : decode cX11_init 14 = .ok (.new 13, 3) := by decide +kernel
theorem dX11_init_17 : decode cX11_init 17 = .ok (.dup, 1) := by decide +kernel
theorem dX11_init_18 : decode cX11_init 18 = .ok (.invokespecial 15, 3) := by decide +kernel
theorem dX11_init_21 : decode cX11_init 21 = .ok (.putfield 16, 3) := by decide +kernel
theorem dX11_init_24 : decode cX11_init 24 = .ok (.aload_n 0, 1) := by decide +kernel
theorem dX11_init_25 : decode cX11_init 25 = .ok (.new 20, 3) := by decide +kernel
theorem dX11_init_28 : decode cX11_init 28 = .ok (.dup, 1) := by decide +kernel
theorem dX11_init_29 : decode cX11_init 29 = .ok (.invokespecial 22, 3) := by decide +kernel
theorem dX11_init_32 : decode cX11_init 32 = .ok (.putfield 23, 3) := by decide +kernel
theorem dX11_init_35 : decode cX11_init 35 = .ok (.aload_n 0, 1) := by decide +kernel
theorem dX11_init_36 : decode cX11_init 36 = .ok (.new 27, 3) := by decide +kernel
theorem dX11_init_39 : decode cX11_init 39 = .ok (.dup, 1) := by decide +kernel
theorem dX11_init_40 : decode cX11_init 40 = .ok (.aload_n 0, 1) := by decide +kernel
theorem dX11_init_41 : decode cX11_init 41 = .ok (.getfield 23, 3) := by decide +kernel
theorem dX11_init_44 : decode cX11_init 44 = .ok (.invokespecial 29, 3) := by decide +kernel
theorem dX11_init_47 : decode cX11_init 47 = .ok (.putfield 32, 3) := by decide +kernel
theorem dX11_init_50 : decode cX11_init 50 = .ok (.aload_n 0, 1) := by decide +kernel
theorem dX11_init_51 : decode cX11_init 51 = .ok (.new 36, 3) := by decide +kernel
theorem dX11_init_54 : decode cX11_init 54 = .ok (.dup, 1) := by decide +kernel
theorem dX11_init_55 : decode cX11_init 55 = .ok (.aload_n 0, 1) := by decide +kernel
theorem dX11_init_56 : decode cX11_init 56 = .ok (.getfield 16, 3) := by decide +kernel
theorem dX11_init_59 : decode cX11_init 59 = .ok (.aload_n 0, 1) := by decide +kernel
theorem dX11_init_60 : decode cX11_init 60 = .ok (.getfield 32, 3) := by decide +kernel
theorem dX11_init_63 : decode cX11_init 63 = .ok (.aload_n 0, 1) := by decide +kernel
theorem dX11_init_64 : decode cX11_init 64 = .ok (.getfield 23, 3) := by decide +kernel
theorem dX11_init_67 : decode cX11_init 67 = .ok (.invokespecial 38, 3) := by decide +kernel
theorem dX11_init_70 : decode cX11_init 70 = .ok (.putfield 41, 3) := by decide +kernel
theorem dX11_init_73 : decode cX11_init 73 = .ok (.aload_n 0, 1) := by decide +kernel
theorem dX11_init_74 : decode cX11_init 74 = .ok (.new 45, 3) := by decide +kernel
theorem dX11_init_77 : decode cX11_init 77 = .ok (.dup, 1) := by decide +kernel
theorem dX11_init_78 : decode cX11_init 78 = .ok (.aload_n 0, 1) := by decide +kernel
theorem dX11_init_79 : decode cX11_init 79 = .ok (.getfield 32, 3) := by decide +kernel
theorem dX11_init_82 : decode cX11_init 82 = .ok (.invokespecial 47, 3) := by decide +kernel
theorem dX11_init_85 : decode cX11_init 85 = .ok (.putfield 50, 3) := by decide +kernel
theorem dX11_init_88 : decode cX11_init 88 = .ok (.aload_n 0, 1) := by decide +kernel
theorem dX11_init_89 : decode cX11_init 89 = .ok (.new 54, 3) := by decide +kernel
theorem dX11_init_92 : decode cX11_init 92 = .ok (.dup, 1) := by decide +kernel
theorem dX11_init_93 : decode cX11_init 93 = .ok (.aload_n 0, 1) := by decide +kernel
theorem dX11_init_94 : decode cX11_init 94 = .ok (.getfield 32, 3) := by decide +kernel
theorem dX11_init_97 : decode cX11_init 97 = .ok (.aload_n 0, 1) := by decide +kernel
theorem dX11_init_98 : decode cX11_init 98 = .ok (.getfield 23, 3) := by decide +kernel
theorem dX11_init_101 : decode cX11_init 101 = .ok (.invokespecial 56, 3) := by decide +kernel
theorem dX11_init_104 : decode cX11_init 104 = .ok (.putfield 59, 3) := by decide +kernel
theorem dX11_init_107 : decode cX11_init 107 = .ok (.aload_n 0, 1) := by decide +kernel
theorem dX11_init_108 : decode cX11_init 108 = .ok (.new 63, 3) := by decide +kernel
theorem dX11_init_111 : decode cX11_init 111 = .ok (.dup, 1) := by decide +kernel
theorem dX11_init_112 : decode cX11_init 112 = .ok (.invokespecial 65, 3) := by decide +kernel
theorem dX11_init_115 : decode cX11_init 115 = .ok (.putfield 66, 3) := by decide +kernel
theorem dX11_init_118 : decode cX11_init 118 = .ok (.aload_n 0, 1) := by decide +kernel
theorem dX11_init_119 : decode cX11_init 119 = .ok (.new 63, 3) := by decide +kernel
theorem dX11_init_122 : decode cX11_init 122 = .ok (.dup, 1) := by decide +kernel
theorem dX11_init_123 : decode cX11_init 123 = .ok (.invokespecial 65, 3) := by decide +kernel
theorem dX11_init_126 : decode cX11_init 126 = .ok (.putfield 70, 3) := by decide +kernel
theorem dX11_init_129 : decode cX11_init 129 = .ok (.return_, 1) := by decide +kernel
set_option maxRecDepth 20000 in
theorem ggX11_feed_X11_putBytes : GoodIn wsX11_feed wsX11_putBytes := goodIn_r _ [6, 1, 7, 8, 9, 10, 11, 12, 13, 14, 15, 16, 17, 18, 19] (by decide +kernel) (by decide +kernel)
set_option maxRecDepth 20000 in
theorem gX11_feed_X11_putBytes : GoodIn wsX11_feed (wsV RX11 77 RX11 yX11_putBytes wsX11_putBytes) := goodIn_app (goodIn_of _ (by decide +kernel)) ggX11_feed_X11_putBytes
theorem dX11_feed_0 : decode cX11_feed 0 = .ok (.aload_n 0, 1) := by decide +kernel
theorem dX11_feed_1 : decode cX11_feed 1 = .ok (.getfield 73, 3) := by decide +kernel
theorem dX11_feed_4 : decode cX11_feed 4 = .ok (.sipush 2980, 3) := by decide +kernel
theorem dX11_feed_7 : decode cX11_feed 7 = .ok (.if_icmp .le 5, 3) := by decide +kernel
theorem dX11_feed_10 : decode cX11_feed 10 = .ok (.iconst 0, 1) := by decide +kernel
theorem dX11_feed_11 : decode cX11_feed 11 = .ok (.ireturn, 1) := by decide +kernel
theorem dX11_feed_12 : decode cX11_feed 12 = .ok (.aload_n 0, 1) := by decide +kernel
theorem dX11_feed_13 : decode cX11_feed 13 = .ok (.iload_n 1, 1) := by decide +kernel
theorem dX11_feed_14 : decode cX11_feed 14 = .ok (.invokevirtual 77, 3) := by decide +kernel
theorem dX11_feed_17 : decode cX11_feed 17 = .ok (.aload_n 0, 1) := by decide +kernel
theorem dX11_feed_18 : decode cX11_feed 18 = .ok (.iload_n 2, 1) := by decide +kernel
theorem dX11_feed_19 : decode cX11_feed 19 = .ok (.invokevirtual 77, 3) := by decide +kernel
theorem dX11_feed_22 : decode cX11_feed 22 = .ok (.aload_n 0, 1) := by decide +kernel
theorem dX11_feed_23 : decode cX11_feed 23 = .ok (.iload_n 3, 1) := by decide +kernel
theorem dX11_feed_24 : decode cX11_feed 24 = .ok (.invokevirtual 77, 3) := by decide +kernel
theorem dX11_feed_27 : decode cX11_feed 27 = .ok (.aload_n 0, 1) := by decide +kernel
theorem dX11_feed_28 : decode cX11_feed 28 = .ok (.iload 4, 2) := by decide +kernel
theorem dX11_feed_30 : decode cX11_feed 30 = .ok (.invokevirtual 77, 3) := by decide +kernel
theorem dX11_feed_33 : decode cX11_feed 33 = .ok (.aload_n 0, 1) := by decide +kernel
theorem dX11_feed_34 : decode cX11_feed 34 = .ok (.iload 5, 2) := by decide +kernel
theorem dX11_feed_36 : decode cX11_feed 36 = .ok (.invokevirtual 77, 3) := by decide +kernel
theorem dX11_feed_39 : decode cX11_feed 39 = .ok (.iconst 1, 1) := by decide +kernel
theorem dX11_feed_40 : decode cX11_feed 40 = .ok (.ireturn, 1) := by decide +kernel
theorem dX11_putBytes_0 : decode cX11_putBytes 0 = .ok (.bipush 24, 2) := by decide +kernel
theorem dX11_putBytes_2 : decode cX11_putBytes 2 = .ok (.istore_n 2, 1) := by decide +kernel
theorem dX11_putBytes_3 : decode cX11_putBytes 3 = .ok (.iload_n 2, 1) := by decide +kernel
theorem dX11_putBytes_4 : decode cX11_putBytes 4 = .ok (.ifCond .lt 42, 3) := by decide +kernel
theorem dX11_putBytes_7 : decode cX11_putBytes 7 = .ok (.aload_n 0, 1) := by decide +kernel
theorem dX11_putBytes_8 : decode cX11_putBytes 8 = .ok (.getfield 73, 3) := by decide +kernel
theorem dX11_putBytes_11 : decode cX11_putBytes 11 = .ok (.sipush 3000, 3) := by decide +kernel
theorem dX11_putBytes_14 : decode cX11_putBytes 14 = .ok (.if_icmp .ge 32, 3) := by decide +kernel
theorem dX11_putBytes_17 : decode cX11_putBytes 17 = .ok (.aload_n 0, 1) := by decide +kernel
theorem dX11_putBytes_18 : decode cX11_putBytes 18 = .ok (.getfield 9, 3) := by decide +kernel
theorem dX11_putBytes_21 : decode cX11_putBytes 21 = .ok (.aload_n 0, 1) := by decide +kernel
theorem dX11_putBytes_22 : decode cX11_putBytes 22 = .ok (.getfield 73, 3) := by decide +kernel
theorem dX11_putBytes_25 : decode cX11_putBytes 25 = .ok (.iload_n 1, 1) := by decide +kernel
theorem dX11_putBytes_26 : decode cX11_putBytes 26 = .ok (.iload_n 2, 1) := by decide +kernel
theorem dX11_putBytes_27 : decode cX11_putBytes 27 = .ok (.iushr, 1) := by decide +kernel
theorem dX11_putBytes_28 : decode cX11_putBytes 28 = .ok (.i2b, 1) := by decide +kernel
theorem dX11_putBytes_29 : decode cX11_putBytes 29 = .ok (.bastore, 1) := by decide +kernel
theorem dX11_putBytes_30 : decode cX11_putBytes 30 = .ok (.aload_n 0, 1) := by decide +kernel
theorem dX11_putBytes_31 : decode cX11_putBytes 31 = .ok (.dup, 1) := by decide +kernel
theorem dX11_putBytes_32 : decode cX11_putBytes 32 = .ok (.getfield 73, 3) := by decide +kernel
theorem dX11_putBytes_35 : decode cX11_putBytes 35 = .ok (.iconst 1, 1) := by decide +kernel
theorem dX11_putBytes_36 : decode cX11_putBytes 36 = .ok (.iadd, 1) := by decide +kernel
theorem dX11_putBytes_37 : decode cX11_putBytes 37 = .ok (.putfield 73, 3) := by decide +kernel
theorem dX11_putBytes_40 : decode cX11_putBytes 40 = .ok (.iinc 2 (-8), 3) := by decide +kernel
theorem dX11_putBytes_43 : decode cX11_putBytes 43 = .ok (.goto (-40), 3) := by decide +kernel
theorem dX11_putBytes_46 : decode cX11_putBytes 46 = .ok (.return_, 1) := by decide +kernel
theorem dX11_end_0 : decode cX11_end 0 = .ok (.iload_n 1, 1) := by decide +kernel
theorem dX11_end_1 : decode cX11_end 1 = .ok (.ifCond .lt 11, 3) := by decide +kernel
theorem dX11_end_4 : decode cX11_end 4 = .ok (.iload_n 1, 1) := by decide +kernel
theorem dX11_end_5 : decode cX11_end 5 = .ok (.aload_n 0, 1) := by decide +kernel
theorem dX11_end_6 : decode cX11_end 6 = .ok (.getfield 73, 3) := by decide +kernel
theorem dX11_end_9 : decode cX11_end 9 = .ok (.if_icmp .le 5, 3) := by decide +kernel
theorem dX11_end_12 : decode cX11_end 12 = .ok (.iconst 0, 1) := by decide +kernel
theorem dX11_end_13 : decode cX11_end 13 = .ok (.ireturn, 1) := by decide +kernel
theorem dX11_end_14 : decode cX11_end 14 = .ok (.aload_n 0, 1) := by decide +kernel
theorem dX11_end_15 : decode cX11_end 15 = .ok (.iload_n 1, 1) := by decide +kernel
theorem dX11_end_16 : decode cX11_end 16 = .ok (.putfield 73, 3) := by decide +kernel
theorem dX11_end_19 : decode cX11_end 19 = .ok (.iconst 1, 1) := by decide +kernel
theorem dX11_end_20 : decode cX11_end 20 = .ok (.ireturn, 1) := by decide +kernel
theorem dX11_fault_0 : decode cX11_fault 0 = .ok (.iload_n 1, 1) := by decide +kernel
theorem dX11_fault_1 : decode cX11_fault 1 = .ok (.ifCond .ne 11, 3) := by decide +kernel
theorem dX11_fault_4 : decode cX11_fault 4 = .ok (.aload_n 0, 1) := by decide +kernel
theorem dX11_fault_5 : decode cX11_fault 5 = .ok (.getfield 41, 3) := by decide +kernel
theorem dX11_fault_8 : decode cX11_fault 8 = .ok (.getfield 115, 3) := by decide +kernel
theorem dX11_fault_11 : decode cX11_fault 11 = .ok (.ireturn, 1) := by decide +kernel
theorem dX11_fault_12 : decode cX11_fault 12 = .ok (.iload_n 1, 1) := by decide +kernel
theorem dX11_fault_13 : decode cX11_fault 13 = .ok (.iconst 1, 1) := by decide +kernel
theorem dX11_fault_14 : decode cX11_fault 14 = .ok (.if_icmp .ne 13, 3) := by decide +kernel
theorem dX11_fault_17 : decode cX11_fault 17 = .ok (.aload_n 0, 1) := by decide +kernel
theorem dX11_fault_18 : decode cX11_fault 18 = .ok (.getfield 41, 3) := by decide +kernel
theorem dX11_fault_21 : decode cX11_fault 21 = .ok (.getfield 118, 3) := by decide +kernel
theorem dX11_fault_24 : decode cX11_fault 24 = .ok (.goto 4, 3) := by decide +kernel
theorem dX11_fault_27 : decode cX11_fault 27 = .ok (.iconst (-1), 1) := by decide +kernel
theorem dX11_fault_28 : decode cX11_fault 28 = .ok (.ireturn, 1) := by decide +kernel
set_option maxRecDepth 20000 in
theorem ggX11_count_X2_sizeOf : GoodIn wsX11_count wsX2_sizeOf := goodIn_r _ [8, 9, 10, 11, 12, 13, 14, 15, 16, 17, 18, 19, 20, 7, 21, 22, 23, 36, 37, 38, 39, 40, 41, 42, 43, 44, 45, 46, 47, 48, 49, 50, 51, 52, 53, 54, 55, 56, 57, 58, 59, 60, 61, 62, 63, 64, 65, 66, 67, 68, 69, 70, 71, 72, 73, 74, 75, 76, 77, 78, 79, 80, 81, 82, 83] (by decide +kernel) (by decide +kernel)
set_option maxRecDepth 20000 in
theorem gX11_count_X2_sizeOf : GoodIn wsX11_count (wsV RX11 121 RX2 yX2_sizeOf wsX2_sizeOf) := goodIn_app (goodIn_of _ (by decide +kernel)) ggX11_count_X2_sizeOf
theorem dX11_count_0 : decode cX11_count 0 = .ok (.iload_n 1, 1) := by decide +kernel
theorem dX11_count_1 : decode cX11_count 1 = .ok (.ifCond .lt 9, 3) := by decide +kernel
theorem dX11_count_4 : decode cX11_count 4 = .ok (.iload_n 1, 1) := by decide +kernel
theorem dX11_count_5 : decode cX11_count 5 = .ok (.bipush 9, 2) := by decide +kernel
theorem dX11_count_7 : decode cX11_count 7 = .ok (.if_icmp .le 5, 3) := by decide +kernel
theorem dX11_count_10 : decode cX11_count 10 = .ok (.iconst (-1), 1) := by decide +kernel
theorem dX11_count_11 : decode cX11_count 11 = .ok (.ireturn, 1) := by decide +kernel
theorem dX11_count_12 : decode cX11_count 12 = .ok (.iload_n 1, 1) := by decide +kernel
theorem dX11_count_13 : decode cX11_count 13 = .ok (.bipush 9, 2) := by decide +kernel
theorem dX11_count_15 : decode cX11_count 15 = .ok (.if_icmp .ne 8, 3) := by decide +kernel
theorem dX11_count_18 : decode cX11_count 18 = .ok (.aload_n 0, 1) := by decide +kernel
theorem dX11_count_19 : decode cX11_count 19 = .ok (.getfield 73, 3) := by decide +kernel
theorem dX11_count_22 : decode cX11_count 22 = .ok (.ireturn, 1) := by decide +kernel
theorem dX11_count_23 : decode cX11_count 23 = .ok (.aload_n 0, 1) := by decide +kernel
theorem dX11_count_24 : decode cX11_count 24 = .ok (.getfield 81, 3) := by decide +kernel
theorem dX11_count_27 : decode cX11_count 27 = .ok (.ifCond .eq 14, 3) := by decide +kernel
theorem dX11_count_30 : decode cX11_count 30 = .ok (.aload_n 0, 1) := by decide +kernel
theorem dX11_count_31 : decode cX11_count 31 = .ok (.getfield 32, 3) := by decide +kernel
theorem dX11_count_34 : decode cX11_count 34 = .ok (.iload_n 1, 1) := by decide +kernel
theorem dX11_count_35 : decode cX11_count 35 = .ok (.invokevirtual 121, 3) := by decide +kernel
theorem dX11_count_38 : decode cX11_count 38 = .ok (.goto 4, 3) := by decide +kernel
theorem dX11_count_41 : decode cX11_count 41 = .ok (.iconst 0, 1) := by decide +kernel
theorem dX11_count_42 : decode cX11_count 42 = .ok (.ireturn, 1) := by decide +kernel
theorem dX11_hasUnit_0 : decode cX11_hasUnit 0 = .ok (.aload_n 0, 1) := by decide +kernel
theorem dX11_hasUnit_1 : decode cX11_hasUnit 1 = .ok (.getfield 81, 3) := by decide +kernel
theorem dX11_hasUnit_4 : decode cX11_hasUnit 4 = .ok (.ifCond .eq 22, 3) := by decide +kernel
theorem dX11_hasUnit_7 : decode cX11_hasUnit 7 = .ok (.iload_n 1, 1) := by decide +kernel
theorem dX11_hasUnit_8 : decode cX11_hasUnit 8 = .ok (.ifCond .lt 18, 3) := by decide +kernel
theorem dX11_hasUnit_11 : decode cX11_hasUnit 11 = .ok (.iload_n 1, 1) := by decide +kernel
theorem dX11_hasUnit_12 : decode cX11_hasUnit 12 = .ok (.aload_n 0, 1) := by decide +kernel
theorem dX11_hasUnit_13 : decode cX11_hasUnit 13 = .ok (.getfield 32, 3) := by decide +kernel
theorem dX11_hasUnit_16 : decode cX11_hasUnit 16 = .ok (.getfield 112, 3) := by decide +kernel
theorem dX11_hasUnit_19 : decode cX11_hasUnit 19 = .ok (.if_icmp .ge 7, 3) := by decide +kernel
theorem dX11_hasUnit_22 : decode cX11_hasUnit 22 = .ok (.iconst 1, 1) := by decide +kernel
theorem dX11_hasUnit_23 : decode cX11_hasUnit 23 = .ok (.goto 4, 3) := by decide +kernel
theorem dX11_hasUnit_26 : decode cX11_hasUnit 26 = .ok (.iconst 0, 1) := by decide +kernel
theorem dX11_hasUnit_27 : decode cX11_hasUnit 27 = .ok (.ireturn, 1) := by decide +kernel
set_option maxRecDepth 20000 in
theorem ggX11_unit_X11_hasUnit : GoodIn wsX11_unit wsX11_hasUnit := goodIn_r _ [6, 7, 1, 8, 34, 35, 36, 37, 38, 39, 40, 41, 42, 43, 44, 45, 46, 47, 48, 49, 50, 51, 52, 53, 54, 55, 56, 57, 58, 59, 60, 61] (by decide +kernel) (by decide +kernel)
set_option maxRecDepth 20000 in
theorem gX11_unit_X11_hasUnit : GoodIn wsX11_unit (wsV RX11 125 RX11 yX11_hasUnit wsX11_hasUnit) := goodIn_app (goodIn_of _ (by decide +kernel)) ggX11_unit_X11_hasUnit
set_option maxRecDepth 20000 in
theorem ggX11_unit_X2_unitAt : GoodIn wsX11_unit wsX2_unitAt := goodIn_r _ [13, 14, 46, 47, 48, 49, 50, 51, 52, 53, 54, 55, 56, 57, 58, 59, 60, 61] (by decide +kernel) (by decide +kernel)
set_option maxRecDepth 20000 in
theorem gX11_unit_X2_unitAt : GoodIn wsX11_unit (wsV RX11 129 RX2 yX2_unitAt wsX2_unitAt) := goodIn_app (goodIn_of _ (by decide +kernel)) ggX11_unit_X2_unitAt
set_option maxRecDepth 20000 in
theorem ggX11_unit_X9_tell : GoodIn wsX11_unit wsX9_tell := goodIn_r _ [19, 20, 21, 22, 23, 24, 25, 26, 27, 28, 29, 30, 31, 18, 32, 33, 62, 63, 64, 65, 66, 67, 68, 69, 70, 71, 72, 73, 74, 75, 76, 77, 78, 79, 80, 81] (by decide +kernel) (by decide +kernel)
set_option maxRecDepth 20000 in
theorem gX11_unit_X9_tell : GoodIn wsX11_unit (wsV RX11 133 RX9 yX9_tell wsX9_tell) := goodIn_app (goodIn_of _ (by decide +kernel)) ggX11_unit_X9_tell
theorem dX11_unit_0 : decode cX11_unit 0 = .ok (.aload_n 0, 1) := by decide +kernel
theorem dX11_unit_1 : decode cX11_unit 1 = .ok (.iload_n 1, 1) := by decide +kernel
theorem dX11_unit_2 : decode cX11_unit 2 = .ok (.invokevirtual 125, 3) := by decide +kernel
theorem dX11_unit_5 : decode cX11_unit 5 = .ok (.ifCond .eq 18, 3) := by decide +kernel
theorem dX11_unit_8 : decode cX11_unit 8 = .ok (.aload_n 0, 1) := by decide +kernel
theorem dX11_unit_9 : decode cX11_unit 9 = .ok (.getfield 32, 3) := by decide +kernel
theorem dX11_unit_12 : decode cX11_unit 12 = .ok (.iload_n 1, 1) := by decide +kernel
theorem dX11_unit_13 : decode cX11_unit 13 = .ok (.invokevirtual 129, 3) := by decide +kernel
theorem dX11_unit_16 : decode cX11_unit 16 = .ok (.iload_n 2, 1) := by decide +kernel
theorem dX11_unit_17 : decode cX11_unit 17 = .ok (.invokevirtual 133, 3) := by decide +kernel
theorem dX11_unit_20 : decode cX11_unit 20 = .ok (.goto 4, 3) := by decide +kernel
theorem dX11_unit_23 : decode cX11_unit 23 = .ok (.iconst (-1), 1) := by decide +kernel
theorem dX11_unit_24 : decode cX11_unit 24 = .ok (.ireturn, 1) := by decide +kernel
set_option maxRecDepth 20000 in
theorem ggX11_code_X11_hasUnit : GoodIn wsX11_code wsX11_hasUnit := goodIn_r _ [9, 10, 1, 11, 25, 26, 27, 28, 29, 30, 31, 32, 33, 34, 35, 36, 57, 58, 59, 60, 61, 62, 63, 64, 65, 66, 67, 68, 69, 70, 71, 72] (by decide +kernel) (by decide +kernel)
set_option maxRecDepth 20000 in
theorem gX11_code_X11_hasUnit : GoodIn wsX11_code (wsV RX11 125 RX11 yX11_hasUnit wsX11_hasUnit) := goodIn_app (goodIn_of _ (by decide +kernel)) ggX11_code_X11_hasUnit
set_option maxRecDepth 20000 in
theorem ggX11_code_X2_unitAt : GoodIn wsX11_code wsX2_unitAt := goodIn_r _ [16, 17, 57, 58, 59, 60, 61, 62, 63, 64, 65, 66, 67, 68, 69, 70, 71, 72] (by decide +kernel) (by decide +kernel)
set_option maxRecDepth 20000 in
theorem gX11_code_X2_unitAt : GoodIn wsX11_code (wsV RX11 129 RX2 yX2_unitAt wsX2_unitAt) := goodIn_app (goodIn_of _ (by decide +kernel)) ggX11_code_X2_unitAt
set_option maxRecDepth 20000 in
theorem ggX11_code_X6_at : GoodIn wsX11_code wsX6_at := goodIn_r _ [22, 23, 24, 55, 56] (by decide +kernel) (by decide +kernel)
set_option maxRecDepth 20000 in
theorem gX11_code_X6_at : GoodIn wsX11_code (wsV RX11 150 RX6 yX6_at wsX6_at) := goodIn_app (goodIn_of _ (by decide +kernel)) ggX11_code_X6_at
theorem dX11_code_0 : decode cX11_code 0 = .ok (.aload_n 0, 1) := by decide +kernel
theorem dX11_code_1 : decode cX11_code 1 = .ok (.iload_n 1, 1) := by decide +kernel
theorem dX11_code_2 : decode cX11_code 2 = .ok (.invokevirtual 125, 3) := by decide +kernel
theorem dX11_code_5 : decode cX11_code 5 = .ok (.ifCond .ne 5, 3) := by decide +kernel
theorem dX11_code_8 : decode cX11_code 8 = .ok (.iconst (-1), 1) := by decide +kernel
theorem dX11_code_9 : decode cX11_code 9 = .ok (.ireturn, 1) := by decide +kernel
theorem dX11_code_10 : decode cX11_code 10 = .ok (.aload_n 0, 1) := by decide +kernel
theorem dX11_code_11 : decode cX11_code 11 = .ok (.getfield 32, 3) := by decide +kernel
theorem dX11_code_14 : decode cX11_code 14 = .ok (.iload_n 1, 1) := by decide +kernel
theorem dX11_code_15 : decode cX11_code 15 = .ok (.invokevirtual 129, 3) := by decide +kernel
theorem dX11_code_18 : decode cX11_code 18 = .ok (.astore 4, 2) := by decide +kernel
theorem dX11_code_20 : decode cX11_code 20 = .ok (.iload_n 2, 1) := by decide +kernel
theorem dX11_code_21 : decode cX11_code 21 = .ok (.ifCond .eq 11, 3) := by decide +kernel
theorem dX11_code_24 : decode cX11_code 24 = .ok (.aload 4, 2) := by decide +kernel
theorem dX11_code_26 : decode cX11_code 26 = .ok (.getfield 138, 3) := by decide +kernel
theorem dX11_code_29 : decode cX11_code 29 = .ok (.goto 8, 3) := by decide +kernel
theorem dX11_code_32 : decode cX11_code 32 = .ok (.aload 4, 2) := by decide +kernel
theorem dX11_code_34 : decode cX11_code 34 = .ok (.getfield 142, 3) := by decide +kernel
theorem dX11_code_37 : decode cX11_code 37 = .ok (.astore 5, 2) := by decide +kernel
theorem dX11_code_39 : decode cX11_code 39 = .ok (.iload_n 3, 1) := by decide +kernel
theorem dX11_code_40 : decode cX11_code 40 = .ok (.ifCond .lt 21, 3) := by decide +kernel
theorem dX11_code_43 : decode cX11_code 43 = .ok (.iload_n 3, 1) := by decide +kernel
theorem dX11_code_44 : decode cX11_code 44 = .ok (.aload 5, 2) := by decide +kernel
theorem dX11_code_46 : decode cX11_code 46 = .ok (.getfield 145, 3) := by decide +kernel
theorem dX11_code_49 : decode cX11_code 49 = .ok (.if_icmp .ge 12, 3) := by decide +kernel
theorem dX11_code_52 : decode cX11_code 52 = .ok (.aload 5, 2) := by decide +kernel
theorem dX11_code_54 : decode cX11_code 54 = .ok (.iload_n 3, 1) := by decide +kernel
theorem dX11_code_55 : decode cX11_code 55 = .ok (.invokevirtual 150, 3) := by decide +kernel
theorem dX11_code_58 : decode cX11_code 58 = .ok (.goto 4, 3) := by decide +kernel
theorem dX11_code_61 : decode cX11_code 61 = .ok (.iconst (-1), 1) := by decide +kernel
theorem dX11_code_62 : decode cX11_code 62 = .ok (.ireturn, 1) := by decide +kernel
set_option maxRecDepth 20000 in
theorem ggX11_number_X2_numberAt : GoodIn wsX11_number wsX2_numberAt := goodIn_r _ [7, 8, 9, 22, 23, 24, 25, 26, 27, 28, 29, 30, 31, 32, 33, 34, 35, 36, 37] (by decide +kernel) (by decide +kernel)
set_option maxRecDepth 20000 in
theorem gX11_number_X2_numberAt : GoodIn wsX11_number (wsV RX11 153 RX2 yX2_numberAt wsX2_numberAt) := goodIn_app (goodIn_of _ (by decide +kernel)) ggX11_number_X2_numberAt
theorem dX11_number_0 : decode cX11_number 0 = .ok (.aload_n 0, 1) := by decide +kernel
theorem dX11_number_1 : decode cX11_number 1 = .ok (.getfield 81, 3) := by decide +kernel
theorem dX11_number_4 : decode cX11_number 4 = .ok (.ifCond .eq 14, 3) := by decide +kernel
theorem dX11_number_7 : decode cX11_number 7 = .ok (.aload_n 0, 1) := by decide +kernel
theorem dX11_number_8 : decode cX11_number 8 = .ok (.getfield 32, 3) := by decide +kernel
theorem dX11_number_11 : decode cX11_number 11 = .ok (.iload_n 1, 1) := by decide +kernel
theorem dX11_number_12 : decode cX11_number 12 = .ok (.invokevirtual 153, 3) := by decide +kernel
theorem dX11_number_15 : decode cX11_number 15 = .ok (.goto 4, 3) := by decide +kernel
theorem dX11_number_18 : decode cX11_number 18 = .ok (.iconst 0, 1) := by decide +kernel
theorem dX11_number_19 : decode cX11_number 19 = .ok (.ireturn, 1) := by decide +kernel
set_option maxRecDepth 20000 in
theorem ggX11_domain_X3_domainOf : GoodIn wsX11_domain wsX3_domainOf := goodIn_r _ [9, 10, 39, 40, 41, 42, 43, 44, 45, 46, 47, 48, 49, 50, 51, 52] (by decide +kernel) (by decide +kernel)
set_option maxRecDepth 20000 in
theorem gX11_domain_X3_domainOf : GoodIn wsX11_domain (wsV RX11 159 RX3 yX3_domainOf wsX3_domainOf) := goodIn_app (goodIn_of _ (by decide +kernel)) ggX11_domain_X3_domainOf
theorem dX11_domain_0 : decode cX11_domain 0 = .ok (.aload_n 0, 1) := by decide +kernel
theorem dX11_domain_1 : decode cX11_domain 1 = .ok (.getfield 81, 3) := by decide +kernel
theorem dX11_domain_4 : decode cX11_domain 4 = .ok (.ifCond .eq 29, 3) := by decide +kernel
theorem dX11_domain_7 : decode cX11_domain 7 = .ok (.iload_n 1, 1) := by decide +kernel
theorem dX11_domain_8 : decode cX11_domain 8 = .ok (.ifCond .lt 25, 3) := by decide +kernel
theorem dX11_domain_11 : decode cX11_domain 11 = .ok (.iload_n 1, 1) := by decide +kernel
theorem dX11_domain_12 : decode cX11_domain 12 = .ok (.aload_n 0, 1) := by decide +kernel
theorem dX11_domain_13 : decode cX11_domain 13 = .ok (.getfield 32, 3) := by decide +kernel
theorem dX11_domain_16 : decode cX11_domain 16 = .ok (.getfield 156, 3) := by decide +kernel
theorem dX11_domain_19 : decode cX11_domain 19 = .ok (.if_icmp .ge 14, 3) := by decide +kernel
theorem dX11_domain_22 : decode cX11_domain 22 = .ok (.aload_n 0, 1) := by decide +kernel
theorem dX11_domain_23 : decode cX11_domain 23 = .ok (.getfield 23, 3) := by decide +kernel
theorem dX11_domain_26 : decode cX11_domain 26 = .ok (.iload_n 1, 1) := by decide +kernel
theorem dX11_domain_27 : decode cX11_domain 27 = .ok (.invokevirtual 159, 3) := by decide +kernel
theorem dX11_domain_30 : decode cX11_domain 30 = .ok (.goto 4, 3) := by decide +kernel
theorem dX11_domain_33 : decode cX11_domain 33 = .ok (.iconst (-1), 1) := by decide +kernel
theorem dX11_domain_34 : decode cX11_domain 34 = .ok (.ireturn, 1) := by decide +kernel
set_option maxRecDepth 20000 in
theorem ggX11_has_X3_holders : GoodIn wsX11_has wsX3_holders := goodIn_r _ [11, 12, 13, 14, 15, 16, 17, 18, 19, 20, 10, 21, 22, 23, 24, 25, 26, 27, 28, 29, 30, 31, 44, 45, 46, 47, 48, 49, 50, 51, 52, 53, 54, 55, 56, 57, 58, 59, 60, 61] (by decide +kernel) (by decide +kernel)
set_option maxRecDepth 20000 in
theorem gX11_has_X3_holders : GoodIn wsX11_has (wsV RX11 193 RX3 yX3_holders wsX3_holders) := goodIn_app (goodIn_of _ (by decide +kernel)) ggX11_has_X3_holders
theorem dX11_has_0 : decode cX11_has 0 = .ok (.aload_n 0, 1) := by decide +kernel
theorem dX11_has_1 : decode cX11_has 1 = .ok (.getfield 81, 3) := by decide +kernel
theorem dX11_has_4 : decode cX11_has 4 = .ok (.ifCond .eq 39, 3) := by decide +kernel
theorem dX11_has_7 : decode cX11_has 7 = .ok (.aload_n 0, 1) := by decide +kernel
theorem dX11_has_8 : decode cX11_has 8 = .ok (.getfield 184, 3) := by decide +kernel
theorem dX11_has_11 : decode cX11_has 11 = .ok (.ifCond .eq 32, 3) := by decide +kernel
theorem dX11_has_14 : decode cX11_has 14 = .ok (.iload_n 1, 1) := by decide +kernel
theorem dX11_has_15 : decode cX11_has 15 = .ok (.ifCond .lt 28, 3) := by decide +kernel
theorem dX11_has_18 : decode cX11_has 18 = .ok (.iload_n 1, 1) := by decide +kernel
theorem dX11_has_19 : decode cX11_has 19 = .ok (.iload_n 2, 1) := by decide +kernel
theorem dX11_has_20 : decode cX11_has 20 = .ok (.ifCond .eq 13, 3) := by decide +kernel
theorem dX11_has_23 : decode cX11_has 23 = .ok (.aload_n 0, 1) := by decide +kernel
theorem dX11_has_24 : decode cX11_has 24 = .ok (.getfield 23, 3) := by decide +kernel
theorem dX11_has_27 : decode cX11_has 27 = .ok (.getfield 187, 3) := by decide +kernel
theorem dX11_has_30 : decode cX11_has 30 = .ok (.goto 10, 3) := by decide +kernel
theorem dX11_has_33 : decode cX11_has 33 = .ok (.aload_n 0, 1) := by decide +kernel
theorem dX11_has_34 : decode cX11_has 34 = .ok (.getfield 23, 3) := by decide +kernel
theorem dX11_has_37 : decode cX11_has 37 = .ok (.getfield 190, 3) := by decide +kernel
theorem dX11_has_40 : decode cX11_has 40 = .ok (.if_icmp .lt 5, 3) := by decide +kernel
theorem dX11_has_43 : decode cX11_has 43 = .ok (.iconst (-1), 1) := by decide +kernel
theorem dX11_has_44 : decode cX11_has 44 = .ok (.ireturn, 1) := by decide +kernel
theorem dX11_has_45 : decode cX11_has 45 = .ok (.aload_n 0, 1) := by decide +kernel
theorem dX11_has_46 : decode cX11_has 46 = .ok (.getfield 23, 3) := by decide +kernel
theorem dX11_has_49 : decode cX11_has 49 = .ok (.aload_n 0, 1) := by decide +kernel
theorem dX11_has_50 : decode cX11_has 50 = .ok (.getfield 70, 3) := by decide +kernel
theorem dX11_has_53 : decode cX11_has 53 = .ok (.invokevirtual 193, 3) := by decide +kernel
theorem dX11_has_56 : decode cX11_has 56 = .ok (.iload_n 2, 1) := by decide +kernel
theorem dX11_has_57 : decode cX11_has 57 = .ok (.ifCond .eq 10, 3) := by decide +kernel
theorem dX11_has_60 : decode cX11_has 60 = .ok (.bipush 8, 2) := by decide +kernel
theorem dX11_has_62 : decode cX11_has 62 = .ok (.iload_n 1, 1) := by decide +kernel
theorem dX11_has_63 : decode cX11_has 63 = .ok (.iadd, 1) := by decide +kernel
theorem dX11_has_64 : decode cX11_has 64 = .ok (.goto 4, 3) := by decide +kernel
theorem dX11_has_67 : decode cX11_has 67 = .ok (.iload_n 1, 1) := by decide +kernel
theorem dX11_has_68 : decode cX11_has 68 = .ok (.iushr, 1) := by decide +kernel
theorem dX11_has_69 : decode cX11_has 69 = .ok (.iconst 1, 1) := by decide +kernel
theorem dX11_has_70 : decode cX11_has 70 = .ok (.iand, 1) := by decide +kernel
theorem dX11_has_71 : decode cX11_has 71 = .ok (.ireturn, 1) := by decide +kernel
set_option maxRecDepth 20000 in
theorem ggX11_may_X11_hasUnit : GoodIn wsX11_may wsX11_hasUnit := goodIn_r _ [10, 11, 12, 13, 134, 135, 136, 137, 138, 139, 140, 141, 142, 143, 144, 145, 151, 152, 153, 154, 155, 156, 157, 158, 159, 160, 161, 162, 163, 164, 165, 166] (by decide +kernel) (by decide +kernel)
set_option maxRecDepth 20000 in
theorem gX11_may_X11_hasUnit : GoodIn wsX11_may (wsV RX11 125 RX11 yX11_hasUnit wsX11_hasUnit) := goodIn_app (goodIn_of _ (by decide +kernel)) ggX11_may_X11_hasUnit
set_option maxRecDepth 20000 in
theorem ggX11_may_X3_holders : GoodIn wsX11_may wsX3_holders := goodIn_r _ [18, 19, 20, 21, 22, 23, 24, 25, 26, 27, 17, 28, 29, 30, 31, 32, 33, 34, 35, 36, 37, 38, 167, 168, 169, 170, 171, 172, 173, 174, 175, 176, 177, 178, 179, 180, 181, 182, 183, 184] (by decide +kernel) (by decide +kernel)
set_option maxRecDepth 20000 in
theorem gX11_may_X3_holders : GoodIn wsX11_may (wsV RX11 193 RX3 yX3_holders wsX3_holders) := goodIn_app (goodIn_of _ (by decide +kernel)) ggX11_may_X3_holders
set_option maxRecDepth 20000 in
theorem ggX11_may_X8_findMay : GoodIn wsX11_may wsX8_findMay := goodIn_r _ [43, 44, 45, 46, 47, 48, 49, 50, 51, 52, 53, 54, 55, 56, 57, 58, 59, 60, 61, 62, 63, 42, 64, 65, 66, 67, 68, 69, 70, 71, 72, 73, 74, 75, 76, 77, 78, 79, 80, 81, 82, 83, 84, 85, 86, 87, 88, 89, 90, 91, 92, 93, 94, 95, 96, 97, 98, 99, 100, 101, 102, 103, 104, 105, 106, 107, 108, 109, 110, 111, 112, 113, 114, 115, 116, 117, 118, 119, 120, 121, 122, 123, 124, 125, 126, 127, 128, 129, 130, 131, 132, 146, 147, 148, 149, 150, 151, 152, 153, 154, 155, 156, 157, 158, 159, 160, 161, 162, 163, 164, 165, 166, 185, 186, 187, 188, 189, 190, 191, 192, 193, 194, 195, 196, 197, 198, 199, 200, 201, 202, 203, 204] (by decide +kernel) (by decide +kernel)
set_option maxRecDepth 20000 in
theorem gX11_may_X8_findMay : GoodIn wsX11_may (wsV RX11 200 RX8 yX8_findMay wsX8_findMay) := goodIn_app (goodIn_of _ (by decide +kernel)) ggX11_may_X8_findMay
set_option maxRecDepth 20000 in
theorem ggX11_may_X8_mayOf : GoodIn wsX11_may wsX8_mayOf := goodIn_r _ [74, 44, 146, 147, 148, 149, 150] (by decide +kernel) (by decide +kernel)
set_option maxRecDepth 20000 in
theorem gX11_may_X8_mayOf : GoodIn wsX11_may (wsV RX11 203 RX8 yX8_mayOf wsX8_mayOf) := goodIn_app (goodIn_of _ (by decide +kernel)) ggX11_may_X8_mayOf
theorem dX11_may_0 : decode cX11_may 0 = .ok (.aload_n 0, 1) := by decide +kernel
theorem dX11_may_1 : decode cX11_may 1 = .ok (.getfield 184, 3) := by decide +kernel
theorem dX11_may_4 : decode cX11_may 4 = .ok (.ifCond .eq 11, 3) := by decide +kernel
theorem dX11_may_7 : decode cX11_may 7 = .ok (.aload_n 0, 1) := by decide +kernel
theorem dX11_may_8 : decode cX11_may 8 = .ok (.iload_n 1, 1) := by decide +kernel
theorem dX11_may_9 : decode cX11_may 9 = .ok (.invokevirtual 125, 3) := by decide +kernel
theorem dX11_may_12 : decode cX11_may 12 = .ok (.ifCond .ne 5, 3) := by decide +kernel
theorem dX11_may_15 : decode cX11_may 15 = .ok (.iconst (-1), 1) := by decide +kernel
theorem dX11_may_16 : decode cX11_may 16 = .ok (.ireturn, 1) := by decide +kernel
theorem dX11_may_17 : decode cX11_may 17 = .ok (.aload_n 0, 1) := by decide +kernel
theorem dX11_may_18 : decode cX11_may 18 = .ok (.getfield 50, 3) := by decide +kernel
theorem dX11_may_21 : decode cX11_may 21 = .ok (.getfield 197, 3) := by decide +kernel
theorem dX11_may_24 : decode cX11_may 24 = .ok (.ifCond .ne 21, 3) := by decide +kernel
theorem dX11_may_27 : decode cX11_may 27 = .ok (.aload_n 0, 1) := by decide +kernel
theorem dX11_may_28 : decode cX11_may 28 = .ok (.getfield 50, 3) := by decide +kernel
theorem dX11_may_31 : decode cX11_may 31 = .ok (.aload_n 0, 1) := by decide +kernel
theorem dX11_may_32 : decode cX11_may 32 = .ok (.getfield 23, 3) := by decide +kernel
theorem dX11_may_35 : decode cX11_may 35 = .ok (.aload_n 0, 1) := by decide +kernel
theorem dX11_may_36 : decode cX11_may 36 = .ok (.getfield 70, 3) := by decide +kernel
theorem dX11_may_39 : decode cX11_may 39 = .ok (.invokevirtual 193, 3) := by decide +kernel
theorem dX11_may_42 : decode cX11_may 42 = .ok (.invokevirtual 200, 3) := by decide +kernel
theorem dX11_may_45 : decode cX11_may 45 = .ok (.aload_n 0, 1) := by decide +kernel
theorem dX11_may_46 : decode cX11_may 46 = .ok (.getfield 50, 3) := by decide +kernel
theorem dX11_may_49 : decode cX11_may 49 = .ok (.iload_n 1, 1) := by decide +kernel
theorem dX11_may_50 : decode cX11_may 50 = .ok (.invokevirtual 203, 3) := by decide +kernel
theorem dX11_may_53 : decode cX11_may 53 = .ok (.ireturn, 1) := by decide +kernel
set_option maxRecDepth 20000 in
theorem ggX11_result_X1_tell : GoodIn wsX11_result wsX1_tell := goodIn_r _ [7, 8, 9, 10, 11, 12, 13, 14, 15, 16, 17, 6, 18, 19, 20, 21, 22, 23, 24, 25, 26, 27, 40, 41, 42, 43, 44, 45, 46, 47, 48, 49, 50, 51, 52, 53, 54, 55, 56, 57, 58, 59, 60, 61, 62, 63, 64, 65, 66, 67] (by decide +kernel) (by decide +kernel)
set_option maxRecDepth 20000 in
theorem gX11_result_X1_tell : GoodIn wsX11_result (wsV RX11 237 RX1 yX1_tell wsX1_tell) := goodIn_app (goodIn_of _ (by decide +kernel)) ggX11_result_X1_tell
theorem dX11_result_0 : decode cX11_result 0 = .ok (.aload_n 0, 1) := by decide +kernel
theorem dX11_result_1 : decode cX11_result 1 = .ok (.getfield 59, 3) := by decide +kernel
theorem dX11_result_4 : decode cX11_result 4 = .ok (.getfield 234, 3) := by decide +kernel
theorem dX11_result_7 : decode cX11_result 7 = .ok (.ifCond .eq 14, 3) := by decide +kernel
theorem dX11_result_10 : decode cX11_result 10 = .ok (.aload_n 0, 1) := by decide +kernel
theorem dX11_result_11 : decode cX11_result 11 = .ok (.getfield 59, 3) := by decide +kernel
theorem dX11_result_14 : decode cX11_result 14 = .ok (.iload_n 1, 1) := by decide +kernel
theorem dX11_result_15 : decode cX11_result 15 = .ok (.invokevirtual 237, 3) := by decide +kernel
theorem dX11_result_18 : decode cX11_result 18 = .ok (.goto 4, 3) := by decide +kernel
theorem dX11_result_21 : decode cX11_result 21 = .ok (.iconst (-1), 1) := by decide +kernel
theorem dX11_result_22 : decode cX11_result 22 = .ok (.ireturn, 1) := by decide +kernel
set_option maxRecDepth 20000 in
theorem ggX11_event_X1_tellEvent : GoodIn wsX11_event wsX1_tellEvent := goodIn_r _ [7, 8, 9, 10, 11, 12, 13, 14, 15, 16, 29, 30, 31, 32, 33, 34, 35, 36, 37, 38, 39, 40, 41, 42, 43, 44, 45, 46, 47, 48, 49, 50] (by decide +kernel) (by decide +kernel)
set_option maxRecDepth 20000 in
theorem gX11_event_X1_tellEvent : GoodIn wsX11_event (wsV RX11 238 RX1 yX1_tellEvent wsX1_tellEvent) := goodIn_app (goodIn_of _ (by decide +kernel)) ggX11_event_X1_tellEvent
theorem dX11_event_0 : decode cX11_event 0 = .ok (.aload_n 0, 1) := by decide +kernel
theorem dX11_event_1 : decode cX11_event 1 = .ok (.getfield 59, 3) := by decide +kernel
theorem dX11_event_4 : decode cX11_event 4 = .ok (.getfield 234, 3) := by decide +kernel
theorem dX11_event_7 : decode cX11_event 7 = .ok (.ifCond .eq 15, 3) := by decide +kernel
theorem dX11_event_10 : decode cX11_event 10 = .ok (.aload_n 0, 1) := by decide +kernel
theorem dX11_event_11 : decode cX11_event 11 = .ok (.getfield 59, 3) := by decide +kernel
theorem dX11_event_14 : decode cX11_event 14 = .ok (.iload_n 1, 1) := by decide +kernel
theorem dX11_event_15 : decode cX11_event 15 = .ok (.iload_n 2, 1) := by decide +kernel
theorem dX11_event_16 : decode cX11_event 16 = .ok (.invokevirtual 238, 3) := by decide +kernel
theorem dX11_event_19 : decode cX11_event 19 = .ok (.goto 4, 3) := by decide +kernel
theorem dX11_event_22 : decode cX11_event 22 = .ok (.iconst (-1), 1) := by decide +kernel
theorem dX11_event_23 : decode cX11_event 23 = .ok (.ireturn, 1) := by decide +kernel
set_option maxRecDepth 20000 in
theorem ggX11_thread_X1_tellThread : GoodIn wsX11_thread wsX1_tellThread := goodIn_r _ [7, 8, 9, 10, 11, 12, 13, 14, 15, 6, 16, 17, 18, 19, 20, 21, 22, 23, 24, 37, 38, 39, 40, 41, 42, 43, 44, 45, 46, 47, 48, 49, 50, 51, 52, 53, 54, 55, 56, 57, 58, 59, 60, 61, 62, 63, 64, 65, 66, 67, 68, 69, 70, 71, 72, 73, 74] (by decide +kernel) (by decide +kernel)
set_option maxRecDepth 20000 in
theorem gX11_thread_X1_tellThread : GoodIn wsX11_thread (wsV RX11 242 RX1 yX1_tellThread wsX1_tellThread) := goodIn_app (goodIn_of _ (by decide +kernel)) ggX11_thread_X1_tellThread
theorem dX11_thread_0 : decode cX11_thread 0 = .ok (.aload_n 0, 1) := by decide +kernel
theorem dX11_thread_1 : decode cX11_thread 1 = .ok (.getfield 59, 3) := by decide +kernel
theorem dX11_thread_4 : decode cX11_thread 4 = .ok (.getfield 234, 3) := by decide +kernel
theorem dX11_thread_7 : decode cX11_thread 7 = .ok (.ifCond .eq 15, 3) := by decide +kernel
theorem dX11_thread_10 : decode cX11_thread 10 = .ok (.aload_n 0, 1) := by decide +kernel
theorem dX11_thread_11 : decode cX11_thread 11 = .ok (.getfield 59, 3) := by decide +kernel
theorem dX11_thread_14 : decode cX11_thread 14 = .ok (.iload_n 1, 1) := by decide +kernel
theorem dX11_thread_15 : decode cX11_thread 15 = .ok (.iload_n 2, 1) := by decide +kernel
theorem dX11_thread_16 : decode cX11_thread 16 = .ok (.invokevirtual 242, 3) := by decide +kernel
theorem dX11_thread_19 : decode cX11_thread 19 = .ok (.goto 4, 3) := by decide +kernel
theorem dX11_thread_22 : decode cX11_thread 22 = .ok (.iconst (-1), 1) := by decide +kernel
theorem dX11_thread_23 : decode cX11_thread 23 = .ok (.ireturn, 1) := by decide +kernel
set_option maxRecDepth 20000 in
theorem ggX11_context_X1_tellContext : GoodIn wsX11_context wsX1_tellContext := goodIn_r _ [7, 8, 9, 10, 11, 12, 13, 14, 15, 16, 17, 18, 19, 20, 21, 22, 23, 24, 25, 26, 27, 28, 29, 30, 31, 44, 45, 46, 47, 48, 49, 50, 51, 52, 53, 54, 55, 56, 57, 58, 59, 60, 61, 62, 63, 64, 65, 66, 67, 68, 69, 70, 71] (by decide +kernel) (by decide +kernel)
set_option maxRecDepth 20000 in
theorem gX11_context_X1_tellContext : GoodIn wsX11_context (wsV RX11 245 RX1 yX1_tellContext wsX1_tellContext) := goodIn_app (goodIn_of _ (by decide +kernel)) ggX11_context_X1_tellContext
theorem dX11_context_0 : decode cX11_context 0 = .ok (.aload_n 0, 1) := by decide +kernel
theorem dX11_context_1 : decode cX11_context 1 = .ok (.getfield 59, 3) := by decide +kernel
theorem dX11_context_4 : decode cX11_context 4 = .ok (.getfield 234, 3) := by decide +kernel
theorem dX11_context_7 : decode cX11_context 7 = .ok (.ifCond .eq 15, 3) := by decide +kernel
theorem dX11_context_10 : decode cX11_context 10 = .ok (.aload_n 0, 1) := by decide +kernel
theorem dX11_context_11 : decode cX11_context 11 = .ok (.getfield 59, 3) := by decide +kernel
theorem dX11_context_14 : decode cX11_context 14 = .ok (.iload_n 1, 1) := by decide +kernel
theorem dX11_context_15 : decode cX11_context 15 = .ok (.iload_n 2, 1) := by decide +kernel
theorem dX11_context_16 : decode cX11_context 16 = .ok (.invokevirtual 245, 3) := by decide +kernel
theorem dX11_context_19 : decode cX11_context 19 = .ok (.goto 4, 3) := by decide +kernel
theorem dX11_context_22 : decode cX11_context 22 = .ok (.iconst (-1), 1) := by decide +kernel
theorem dX11_context_23 : decode cX11_context 23 = .ok (.ireturn, 1) := by decide +kernel
