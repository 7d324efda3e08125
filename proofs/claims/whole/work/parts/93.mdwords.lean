/-! the words of the model: one list for all its methods -/
def md_E (E : hp_N) : Prop := st_cs E ∧ st_fm E ∧ ∃ sq sv : Nat, st_str E sq sv 113 md_kwb ∧ ∀ A U H, E A U H → vk_R "WardenHouseModel" 318 "grant module field let in if then else try catch priv under fun new none self ctx check able out spawn wait fail " sq U
def md_w0 : List Cond := [Cond.fieldLink RX12 268 "WardenHouseModel" "thrown" "I", Cond.fieldLink RX12 271 "WardenHouseModel" "taped" "I", Cond.fieldLink RX12 9 "WardenHouseModel" "tape" "[I", Cond.methodLink RX12 274 yX12_in, Cond.static yX12_in, Cond.initialized RX12, Cond.code yX12_in cX12_in 6 (some .boolean), Cond.fieldLink RX12 278 "WardenHouseModel" "size" "I", Cond.fieldLink RX12 13 "WardenHouseModel" "text" "[I", Cond.constantLong RX12 281 (97), Cond.constantLong RX12 283 (122), Cond.constantLong RX12 285 (48), Cond.constantLong RX12 287 (57), Cond.fieldLink RX12 289 "WardenHouseModel" "fault" "I", Cond.fieldLink RX12 16 "WardenHouseModel" "faultPlace" "I", Cond.fieldLink RX12 292 "WardenHouseModel" "word" "I", Cond.fieldLink RX12 295 "WardenHouseModel" "from" "I", Cond.methodLink RX12 298 yX12_failsAt, Cond.instanceMethod yX12_failsAt, Cond.selects RX12 yX12_failsAt yX12_failsAt, Cond.code yX12_failsAt cX12_failsAt 3 none, Cond.methodLink RX12 302 yX12_isLetter, Cond.static yX12_isLetter, Cond.code yX12_isLetter cX12_isLetter 1 (some .boolean), Cond.constantLong RX12 306 (37), Cond.methodLink RX12 308 yJ0_charAt_5068e, Cond.instanceMethod yJ0_charAt_5068e, Cond.selects RJ0 yJ0_charAt_5068e yJ0_charAt_5068e, Cond.initialized RJ0, Cond.methodLink RX12 314 yX12_digitOf, Cond.static yX12_digitOf, Cond.code yX12_digitOf cX12_digitOf 1 (some .int), Cond.methodLink RX12 320 yJ0_length_8abf5, Cond.instanceMethod yJ0_length_8abf5, Cond.selects RJ0 yJ0_length_8abf5 yJ0_length_8abf5, Cond.methodLink RX12 324 yJ0_indexOf_7cf53, Cond.instanceMethod yJ0_indexOf_7cf53, Cond.selects RJ0 yJ0_indexOf_7cf53 yJ0_indexOf_7cf53, Cond.methodLink RX12 328 yX12_codeOf, Cond.static yX12_codeOf, Cond.code yX12_codeOf cX12_codeOf 6 (some .long), Cond.fieldLink RX12 358 "WardenHouseModel" "name" "J", Cond.fieldLink RX12 336 "WardenHouseModel" "to" "I", Cond.methodLink RX12 339 yX12_at, Cond.instanceMethod yX12_at, Cond.selects RX12 yX12_at yX12_at, Cond.code yX12_at cX12_at 2 (some .int), Cond.methodLink RX12 345 yX12_isDigit, Cond.static yX12_isDigit, Cond.code yX12_isDigit cX12_isDigit 1 (some .boolean), Cond.methodLink RX12 365 yX12_keywordOf, Cond.static yX12_keywordOf, Cond.code yX12_keywordOf cX12_keywordOf 5 (some .int), Cond.fieldLink RX12 369 "WardenHouseModel" "value" "I", Cond.methodLink RX12 362 yX12_fails, Cond.instanceMethod yX12_fails, Cond.selects RX12 yX12_fails yX12_fails, Cond.code yX12_fails cX12_fails 2 none, Cond.constantLong RX12 372 (2147483647), Cond.constantLong RX12 374 (10)]
def md_w1 : List Cond := [Cond.fieldLink RX12 376 "WardenHouseModel" "steps" "I", Cond.fieldLink RX12 379 "WardenHouseModel" "tail" "I", Cond.fieldLink RX12 382 "WardenHouseModel" "stepsMost" "I", Cond.fieldLink RX12 20 "WardenHouseModel" "step" "[J", Cond.methodLink RX12 332 yX12_isFine, Cond.instanceMethod yX12_isFine, Cond.selects RX12 yX12_isFine yX12_isFine, Cond.code yX12_isFine cX12_isFine 1 (some .boolean), Cond.methodLink RX12 354 yX12_nextSign, Cond.instanceMethod yX12_nextSign, Cond.selects RX12 yX12_nextSign yX12_nextSign, Cond.code yX12_nextSign cX12_nextSign 3 none, Cond.methodLink RX12 351 yX12_nextPattern, Cond.instanceMethod yX12_nextPattern, Cond.selects RX12 yX12_nextPattern yX12_nextPattern, Cond.code yX12_nextPattern cX12_nextPattern 8 none, Cond.methodLink RX12 348 yX12_nextNumber, Cond.instanceMethod yX12_nextNumber, Cond.selects RX12 yX12_nextNumber yX12_nextNumber, Cond.code yX12_nextNumber cX12_nextNumber 3 none, Cond.methodLink RX12 342 yX12_nextName, Cond.instanceMethod yX12_nextName, Cond.selects RX12 yX12_nextName yX12_nextName, Cond.code yX12_nextName cX12_nextName 1 none, Cond.methodLink RX12 385 yX12_isSign, Cond.instanceMethod yX12_isSign, Cond.selects RX12 yX12_isSign yX12_isSign, Cond.code yX12_isSign cX12_isSign 2 (some .boolean), Cond.methodLink RX12 391 yX12_misfit, Cond.instanceMethod yX12_misfit, Cond.selects RX12 yX12_misfit yX12_misfit, Cond.code yX12_misfit cX12_misfit 1 none, Cond.methodLink RX12 388 yX12_next, Cond.instanceMethod yX12_next, Cond.selects RX12 yX12_next yX12_next, Cond.code yX12_next cX12_next 3 none, Cond.methodLink RX12 394 yX12_isKey, Cond.instanceMethod yX12_isKey, Cond.selects RX12 yX12_isKey yX12_isKey, Cond.code yX12_isKey cX12_isKey 2 (some .boolean), Cond.fieldLink RX12 24 "WardenHouseModel" "patternStep" "[J", Cond.fieldLink RX12 27 "WardenHouseModel" "patternSteps" "[I", Cond.fieldLink RX12 30 "WardenHouseModel" "patternTail" "[I", Cond.methodLink RX12 397 yX12_keepPattern, Cond.instanceMethod yX12_keepPattern, Cond.selects RX12 yX12_keepPattern yX12_keepPattern, Cond.code yX12_keepPattern cX12_keepPattern 3 none, Cond.methodLink RX12 400 yX12_isName, Cond.instanceMethod yX12_isName, Cond.selects RX12 yX12_isName yX12_isName, Cond.code yX12_isName cX12_isName 1 (some .boolean), Cond.fieldLink RX12 33 "WardenHouseModel" "rightMany" "[I", Cond.fieldLink RX12 36 "WardenHouseModel" "rightKind" "[J", Cond.methodLink RX12 403 yX12_pattern, Cond.instanceMethod yX12_pattern, Cond.selects RX12 yX12_pattern yX12_pattern, Cond.code yX12_pattern cX12_pattern 3 none, Cond.methodLink RX12 407 yX12_covers, Cond.instanceMethod yX12_covers, Cond.selects RX12 yX12_covers yX12_covers]
def md_w2 : List Cond := [Cond.code yX12_covers cX12_covers 7 (some .boolean), Cond.fieldLink RX12 411 "WardenHouseModel" "grants" "I", Cond.fieldLink RX12 60 "WardenHouseModel" "domainSet" "[I", Cond.methodLink RX12 414 yX12_hasRight, Cond.instanceMethod yX12_hasRight, Cond.selects RX12 yX12_hasRight yX12_hasRight, Cond.code yX12_hasRight cX12_hasRight 6 (some .boolean), Cond.fieldLink RX12 418 "WardenHouseModel" "nodes" "I", Cond.fieldLink RX12 127 "WardenHouseModel" "kind" "[I", Cond.fieldLink RX12 130 "WardenHouseModel" "nodeUnit" "[I", Cond.fieldLink RX12 421 "WardenHouseModel" "unit" "I", Cond.fieldLink RX12 133 "WardenHouseModel" "one" "[I", Cond.fieldLink RX12 136 "WardenHouseModel" "two" "[I", Cond.fieldLink RX12 139 "WardenHouseModel" "first" "[I", Cond.fieldLink RX12 142 "WardenHouseModel" "after" "[I", Cond.fieldLink RX12 145 "WardenHouseModel" "up" "[I", Cond.fieldLink RX12 629 "WardenHouseModel" "domains" "I", Cond.fieldLink RX12 434 "WardenHouseModel" "modules" "I", Cond.fieldLink RX12 57 "WardenHouseModel" "domain" "[I", Cond.fieldLink RX12 63 "WardenHouseModel" "sort" "[I", Cond.fieldLink RX12 72 "WardenHouseModel" "params" "[I", Cond.fieldLink RX12 84 "WardenHouseModel" "methodName" "[J", Cond.fieldLink RX12 124 "WardenHouseModel" "nameBehind" "[J", Cond.fieldLink RX12 437 "WardenHouseModel" "units" "I", Cond.fieldLink RX12 96 "WardenHouseModel" "needs" "[Z", Cond.methodLink RX12 632 yX12_isOfGroup, Cond.instanceMethod yX12_isOfGroup, Cond.selects RX12 yX12_isOfGroup yX12_isOfGroup, Cond.code yX12_isOfGroup cX12_isOfGroup 3 (some .boolean), Cond.methodLink RX12 635 yX12_groupNeeds, Cond.instanceMethod yX12_groupNeeds, Cond.selects RX12 yX12_groupNeeds yX12_groupNeeds, Cond.code yX12_groupNeeds cX12_groupNeeds 3 (some .boolean), Cond.methodLink RX12 638 yX12_nodeNeeds, Cond.instanceMethod yX12_nodeNeeds, Cond.selects RX12 yX12_nodeNeeds yX12_nodeNeeds, Cond.code yX12_nodeNeeds cX12_nodeNeeds 3 (some .boolean), Cond.methodLink RX12 641 yX12_areOfOne, Cond.instanceMethod yX12_areOfOne, Cond.selects RX12 yX12_areOfOne yX12_areOfOne, Cond.code yX12_areOfOne cX12_areOfOne 3 (some .boolean), Cond.methodLink RX12 479 yX12_sign, Cond.instanceMethod yX12_sign, Cond.selects RX12 yX12_sign yX12_sign, Cond.code yX12_sign cX12_sign 2 none, Cond.methodLink RX12 482 yX12_right, Cond.instanceMethod yX12_right, Cond.selects RX12 yX12_right yX12_right, Cond.code yX12_right cX12_right 3 none, Cond.fieldLink RX12 39 "WardenHouseModel" "moduleName" "[J", Cond.fieldLink RX12 42 "WardenHouseModel" "above" "[I", Cond.fieldLink RX12 45 "WardenHouseModel" "fields" "[I", Cond.fieldLink RX12 48 "WardenHouseModel" "field" "[J", Cond.methodLink RX12 501 yX12_fieldsAbove, Cond.instanceMethod yX12_fieldsAbove, Cond.selects RX12 yX12_fieldsAbove yX12_fieldsAbove, Cond.code yX12_fieldsAbove cX12_fieldsAbove 4 (some .int), Cond.methodLink RX12 497 yX12_fieldOf, Cond.instanceMethod yX12_fieldOf, Cond.selects RX12 yX12_fieldOf yX12_fieldOf]
def md_w3 : List Cond := [Cond.code yX12_fieldOf cX12_fieldOf 6 (some .int), Cond.methodLink RX12 518 yX12_beginsPrefix, Cond.instanceMethod yX12_beginsPrefix, Cond.selects RX12 yX12_beginsPrefix yX12_beginsPrefix, Cond.code yX12_beginsPrefix cX12_beginsPrefix 1 (some .boolean), Cond.fieldLink RX12 458 "WardenHouseModel" "es" "I", Cond.fieldLink RX12 455 "WardenHouseModel" "parts" "I", Cond.methodLink RX12 552 yX12_countsPart, Cond.instanceMethod yX12_countsPart, Cond.selects RX12 yX12_countsPart yX12_countsPart, Cond.code yX12_countsPart cX12_countsPart 1 (some .boolean), Cond.methodLink RX12 555 yX12_node, Cond.instanceMethod yX12_node, Cond.selects RX12 yX12_node yX12_node, Cond.code yX12_node cX12_node 5 (some .int), Cond.methodLink RX12 515 yX12_e, Cond.instanceMethod yX12_e, Cond.selects RX12 yX12_e yX12_e, Cond.code yX12_e cX12_e 2 (some .int), Cond.methodLink RX12 549 yX12_gets, Cond.instanceMethod yX12_gets, Cond.selects RX12 yX12_gets yX12_gets, Cond.code yX12_gets cX12_gets 4 none, Cond.methodLink RX12 485 yX12_key, Cond.instanceMethod yX12_key, Cond.selects RX12 yX12_key yX12_key, Cond.code yX12_key cX12_key 2 none, Cond.fieldLink RX12 118 "WardenHouseModel" "scope" "[I", Cond.fieldLink RX12 446 "WardenHouseModel" "scoped" "I", Cond.fieldLink RX12 443 "WardenHouseModel" "variables" "I", Cond.fieldLink RX12 103 "WardenHouseModel" "variableUnit" "[I", Cond.fieldLink RX12 106 "WardenHouseModel" "variableName" "[J", Cond.fieldLink RX12 109 "WardenHouseModel" "variableNumber" "[I", Cond.fieldLink RX12 112 "WardenHouseModel" "isLet" "[Z", Cond.methodLink RX12 508 yX12_newVariable, Cond.instanceMethod yX12_newVariable, Cond.selects RX12 yX12_newVariable yX12_newVariable, Cond.code yX12_newVariable cX12_newVariable 7 (some .int), Cond.fieldLink RX12 563 "WardenHouseModel" "latest" "I", Cond.fieldLink RX12 93 "WardenHouseModel" "lets" "[I", Cond.methodLink RX12 566 yX12_binds, Cond.instanceMethod yX12_binds, Cond.selects RX12 yX12_binds yX12_binds, Cond.code yX12_binds cX12_binds 2 none, Cond.methodLink RX12 569 yX12_around, Cond.instanceMethod yX12_around, Cond.selects RX12 yX12_around yX12_around, Cond.code yX12_around cX12_around 3 none, Cond.methodLink RX12 524 yX12_deeper, Cond.instanceMethod yX12_deeper, Cond.selects RX12 yX12_deeper yX12_deeper, Cond.code yX12_deeper cX12_deeper 2 (some .boolean), Cond.methodLink RX12 531 yX12_prefix, Cond.instanceMethod yX12_prefix, Cond.selects RX12 yX12_prefix yX12_prefix, Cond.code yX12_prefix cX12_prefix 2 (some .int), Cond.methodLink RX12 521 yX12_beginsE, Cond.instanceMethod yX12_beginsE, Cond.selects RX12 yX12_beginsE yX12_beginsE, Cond.code yX12_beginsE cX12_beginsE 1 (some .boolean)]
def md_w4 : List Cond := [Cond.fieldLink RX12 440 "WardenHouseModel" "askings" "I", Cond.fieldLink RX12 100 "WardenHouseModel" "askingKind" "[J", Cond.fieldLink RX12 265 "WardenHouseModel" "askingWith" "[Z", Cond.fieldLink RX12 66 "WardenHouseModel" "module" "[I", Cond.fieldLink RX12 69 "WardenHouseModel" "place" "[I", Cond.fieldLink RX12 75 "WardenHouseModel" "inside" "[I", Cond.fieldLink RX12 87 "WardenHouseModel" "captured" "[I", Cond.fieldLink RX12 81 "WardenHouseModel" "limit" "[I", Cond.fieldLink RX12 115 "WardenHouseModel" "selfOf" "[I", Cond.methodLink RX12 504 yX12_newUnit, Cond.instanceMethod yX12_newUnit, Cond.selects RX12 yX12_newUnit yX12_newUnit, Cond.code yX12_newUnit cX12_newUnit 5 (some .int), Cond.methodLink RX12 512 yX12_parameters, Cond.instanceMethod yX12_parameters, Cond.selects RX12 yX12_parameters yX12_parameters, Cond.code yX12_parameters cX12_parameters 6 none, Cond.methodLink RX12 620 yX12_row, Cond.instanceMethod yX12_row, Cond.selects RX12 yX12_row yX12_row, Cond.code yX12_row cX12_row 3 (some .int), Cond.fieldLink RX12 78 "WardenHouseModel" "body" "[I", Cond.methodLink RX12 488 yX12_moduleOf, Cond.instanceMethod yX12_moduleOf, Cond.selects RX12 yX12_moduleOf yX12_moduleOf, Cond.code yX12_moduleOf cX12_moduleOf 4 (some .int), Cond.fieldLink RX12 90 "WardenHouseModel" "capture" "[I", Cond.methodLink RX12 626 yX12_captures, Cond.instanceMethod yX12_captures, Cond.selects RX12 yX12_captures yX12_captures, Cond.code yX12_captures cX12_captures 5 none, Cond.methodLink RX12 605 yX12_simple, Cond.instanceMethod yX12_simple, Cond.selects RX12 yX12_simple yX12_simple, Cond.code yX12_simple cX12_simple 5 (some .int), Cond.fieldLink RX12 449 "WardenHouseModel" "numbers" "I", Cond.fieldLink RX12 121 "WardenHouseModel" "number" "[I", Cond.methodLink RX12 623 yX12_numberOf, Cond.instanceMethod yX12_numberOf, Cond.selects RX12 yX12_numberOf yX12_numberOf, Cond.code yX12_numberOf cX12_numberOf 3 (some .int), Cond.methodLink RX12 614 yX12_fun, Cond.instanceMethod yX12_fun, Cond.selects RX12 yX12_fun yX12_fun, Cond.code yX12_fun cX12_fun 6 (some .int), Cond.methodLink RX12 611 yX12_newAtom, Cond.instanceMethod yX12_newAtom, Cond.selects RX12 yX12_newAtom yX12_newAtom, Cond.code yX12_newAtom cX12_newAtom 3 (some .int), Cond.methodLink RX12 608 yX12_selfAtom, Cond.instanceMethod yX12_selfAtom, Cond.selects RX12 yX12_selfAtom yX12_selfAtom, Cond.code yX12_selfAtom cX12_selfAtom 2 (some .int), Cond.methodLink RX12 602 yX12_variable, Cond.instanceMethod yX12_variable, Cond.selects RX12 yX12_variable yX12_variable, Cond.code yX12_variable cX12_variable 3 (some .int), Cond.methodLink RX12 599 yX12_simpleNumber, Cond.instanceMethod yX12_simpleNumber, Cond.selects RX12 yX12_simpleNumber yX12_simpleNumber]
def md_w5 : List Cond := [Cond.code yX12_simpleNumber cX12_simpleNumber 2 (some .int), Cond.methodLink RX12 617 yX12_asking, Cond.instanceMethod yX12_asking, Cond.selects RX12 yX12_asking yX12_asking, Cond.code yX12_asking cX12_asking 3 (some .int), Cond.fieldLink RX12 452 "WardenHouseModel" "names" "I", Cond.methodLink RX12 596 yX12_nameOf, Cond.instanceMethod yX12_nameOf, Cond.selects RX12 yX12_nameOf yX12_nameOf, Cond.code yX12_nameOf cX12_nameOf 4 (some .int), Cond.methodLink RX12 590 yX12_arguments, Cond.instanceMethod yX12_arguments, Cond.selects RX12 yX12_arguments yX12_arguments, Cond.code yX12_arguments cX12_arguments 4 (some .int), Cond.methodLink RX12 572 yX12_innerPrefix, Cond.instanceMethod yX12_innerPrefix, Cond.selects RX12 yX12_innerPrefix yX12_innerPrefix, Cond.code yX12_innerPrefix cX12_innerPrefix 2 (some .int), Cond.methodLink RX12 587 yX12_atom, Cond.instanceMethod yX12_atom, Cond.selects RX12 yX12_atom yX12_atom, Cond.code yX12_atom cX12_atom 2 (some .int), Cond.methodLink RX12 593 yX12_dotted, Cond.instanceMethod yX12_dotted, Cond.selects RX12 yX12_dotted yX12_dotted, Cond.code yX12_dotted cX12_dotted 5 (some .int), Cond.fieldLink RX12 431 "WardenHouseModel" "limits" "I", Cond.methodLink RX12 584 yX12_bodyOf, Cond.instanceMethod yX12_bodyOf, Cond.selects RX12 yX12_bodyOf yX12_bodyOf, Cond.code yX12_bodyOf cX12_bodyOf 4 none, Cond.methodLink RX12 581 yX12_postfix, Cond.instanceMethod yX12_postfix, Cond.selects RX12 yX12_postfix yX12_postfix, Cond.code yX12_postfix cX12_postfix 4 (some .int), Cond.methodLink RX12 578 yX12_under, Cond.instanceMethod yX12_under, Cond.selects RX12 yX12_under yX12_under, Cond.code yX12_under cX12_under 3 (some .int), Cond.methodLink RX12 575 yX12_priv, Cond.instanceMethod yX12_priv, Cond.selects RX12 yX12_priv yX12_priv, Cond.code yX12_priv cX12_priv 5 (some .int), Cond.methodLink RX12 560 yX12_anyPrefix, Cond.instanceMethod yX12_anyPrefix, Cond.selects RX12 yX12_anyPrefix yX12_anyPrefix, Cond.code yX12_anyPrefix cX12_anyPrefix 1 (some .int), Cond.methodLink RX12 546 yX12_operation, Cond.instanceMethod yX12_operation, Cond.selects RX12 yX12_operation yX12_operation, Cond.code yX12_operation cX12_operation 4 (some .int), Cond.methodLink RX12 558 yX12_product, Cond.instanceMethod yX12_product, Cond.selects RX12 yX12_product yX12_product, Cond.code yX12_product cX12_product 2 (some .int), Cond.methodLink RX12 543 yX12_sum, Cond.instanceMethod yX12_sum, Cond.selects RX12 yX12_sum yX12_sum, Cond.code yX12_sum cX12_sum 2 (some .int), Cond.methodLink RX12 540 yX12_tryE]
def md_w6 : List Cond := [Cond.instanceMethod yX12_tryE, Cond.selects RX12 yX12_tryE yX12_tryE, Cond.code yX12_tryE cX12_tryE 4 (some .int), Cond.methodLink RX12 537 yX12_ifE, Cond.instanceMethod yX12_ifE, Cond.selects RX12 yX12_ifE yX12_ifE, Cond.code yX12_ifE cX12_ifE 2 (some .int), Cond.methodLink RX12 534 yX12_letE, Cond.instanceMethod yX12_letE, Cond.selects RX12 yX12_letE yX12_letE, Cond.code yX12_letE cX12_letE 4 (some .int), Cond.methodLink RX12 528 yX12_wholeE, Cond.instanceMethod yX12_wholeE, Cond.selects RX12 yX12_wholeE yX12_wholeE, Cond.code yX12_wholeE cX12_wholeE 2 (some .int), Cond.fieldLink RX12 51 "WardenHouseModel" "methods" "[I", Cond.fieldLink RX12 54 "WardenHouseModel" "method" "[I", Cond.methodLink RX12 491 yX12_readField, Cond.instanceMethod yX12_readField, Cond.selects RX12 yX12_readField yX12_readField, Cond.code yX12_readField cX12_readField 2 none, Cond.methodLink RX12 494 yX12_readMethod, Cond.instanceMethod yX12_readMethod, Cond.selects RX12 yX12_readMethod yX12_readMethod, Cond.code yX12_readMethod cX12_readMethod 7 none, Cond.methodLink RX12 473 yX12_grant, Cond.instanceMethod yX12_grant, Cond.selects RX12 yX12_grant yX12_grant, Cond.code yX12_grant cX12_grant 1 none, Cond.methodLink RX12 476 yX12_readModule, Cond.instanceMethod yX12_readModule, Cond.selects RX12 yX12_readModule yX12_readModule, Cond.code yX12_readModule cX12_readModule 2 none, Cond.fieldLink RX12 149 "WardenHouseModel" "code" "[B", Cond.fieldLink RX12 644 "WardenHouseModel" "written" "I", Cond.methodLink RX12 647 yX12_put, Cond.instanceMethod yX12_put, Cond.selects RX12 yX12_put yX12_put, Cond.code yX12_put cX12_put 2 none, Cond.methodLink RX12 650 yX12_putNumber, Cond.instanceMethod yX12_putNumber, Cond.selects RX12 yX12_putNumber yX12_putNumber, Cond.code yX12_putNumber cX12_putNumber 2 none, Cond.methodLink RX12 665 yX12_put_, Cond.instanceMethod yX12_put_, Cond.selects RX12 yX12_put_ yX12_put_, Cond.code yX12_put_ cX12_put_ 3 none, Cond.constantLong RX12 667 (11), Cond.constantLong RX12 669 (15), Cond.fieldLink RX12 656 "WardenHouseModel" "rewrites" "Z", Cond.fieldLink RX12 653 "WardenHouseModel" "codeUnit" "I", Cond.methodLink RX12 680 yX12_localsOf, Cond.instanceMethod yX12_localsOf, Cond.selects RX12 yX12_localsOf yX12_localsOf, Cond.code yX12_localsOf cX12_localsOf 2 (some .int), Cond.fieldLink RX12 153 "WardenHouseModel" "codeFrom" "[I", Cond.methodLink RX12 698 yX12_codeBegin, Cond.instanceMethod yX12_codeBegin, Cond.selects RX12 yX12_codeBegin yX12_codeBegin, Cond.code yX12_codeBegin cX12_codeBegin 1 (some .int)]
def md_w7 : List Cond := [Cond.methodLink RX12 662 yX12_write, Cond.instanceMethod yX12_write, Cond.selects RX12 yX12_write yX12_write, Cond.code yX12_write cX12_write 4 none, Cond.methodLink RX12 701 yX12_gap, Cond.instanceMethod yX12_gap, Cond.selects RX12 yX12_gap yX12_gap, Cond.code yX12_gap cX12_gap 2 (some .int), Cond.methodLink RX12 704 yX12_fill, Cond.instanceMethod yX12_fill, Cond.selects RX12 yX12_fill yX12_fill, Cond.code yX12_fill cX12_fill 3 none, Cond.methodLink RX12 686 yX12_localOf, Cond.instanceMethod yX12_localOf, Cond.selects RX12 yX12_localOf yX12_localOf, Cond.code yX12_localOf cX12_localOf 4 (some .int), Cond.methodLink RX12 683 yX12_begins, Cond.instanceMethod yX12_begins, Cond.selects RX12 yX12_begins yX12_begins, Cond.code yX12_begins cX12_begins 3 none, Cond.methodLink RX12 689 yX12_writeUnit, Cond.instanceMethod yX12_writeUnit, Cond.selects RX12 yX12_writeUnit yX12_writeUnit, Cond.code yX12_writeUnit cX12_writeUnit 4 none, Cond.methodLink RX12 695 yX12_writeTry, Cond.instanceMethod yX12_writeTry, Cond.selects RX12 yX12_writeTry yX12_writeTry, Cond.code yX12_writeTry cX12_writeTry 5 none, Cond.methodLink RX12 692 yX12_writeIf, Cond.instanceMethod yX12_writeIf, Cond.selects RX12 yX12_writeIf yX12_writeIf, Cond.code yX12_writeIf cX12_writeIf 4 none, Cond.methodLink RX12 671 yX12_isSpine, Cond.static yX12_isSpine, Cond.code yX12_isSpine cX12_isSpine 1 (some .boolean), Cond.methodLink RX12 674 yX12_writeOne, Cond.instanceMethod yX12_writeOne, Cond.selects RX12 yX12_writeOne yX12_writeOne, Cond.code yX12_writeOne cX12_writeOne 4 none, Cond.methodLink RX12 677 yX12_writeSpine, Cond.instanceMethod yX12_writeSpine, Cond.selects RX12 yX12_writeSpine yX12_writeSpine, Cond.code yX12_writeSpine cX12_writeSpine 3 none, Cond.methodLink RX12 659 yX12_opening, Cond.instanceMethod yX12_opening, Cond.selects RX12 yX12_opening yX12_opening, Cond.code yX12_opening cX12_opening 3 none, Cond.fieldLink RX12 156 "WardenHouseModel" "codeTo" "[I", Cond.fieldLink RX12 424 "WardenHouseModel" "hasRun" "Z", Cond.fieldLink RX12 428 "WardenHouseModel" "hasProgram" "Z", Cond.methodLink RX12 461 yX12_readAll, Cond.instanceMethod yX12_readAll, Cond.selects RX12 yX12_readAll yX12_readAll, Cond.code yX12_readAll cX12_readAll 1 none, Cond.methodLink RX12 464 yX12_findDomains, Cond.instanceMethod yX12_findDomains, Cond.selects RX12 yX12_findDomains yX12_findDomains, Cond.code yX12_findDomains cX12_findDomains 4 none, Cond.methodLink RX12 467 yX12_findNeeds, Cond.instanceMethod yX12_findNeeds]
def md_w8 : List Cond := [Cond.selects RX12 yX12_findNeeds yX12_findNeeds, Cond.code yX12_findNeeds cX12_findNeeds 4 none, Cond.methodLink RX12 470 yX12_writeAll, Cond.instanceMethod yX12_writeAll, Cond.selects RX12 yX12_writeAll yX12_writeAll, Cond.code yX12_writeAll cX12_writeAll 3 none, Cond.constantLong RX12 707 (8), Cond.fieldLink RX12 159 "WardenHouseModel" "counts" "[I", Cond.methodLink RX12 709 yX12_isUnit, Cond.instanceMethod yX12_isUnit, Cond.selects RX12 yX12_isUnit yX12_isUnit, Cond.code yX12_isUnit cX12_isUnit 2 (some .boolean), Cond.fieldLink RX12 712 "WardenHouseModel" "askedKind" "J", Cond.fieldLink RX12 715 "WardenHouseModel" "isAsked" "Z", Cond.methodLink RX12 721 yX12_hasDomain, Cond.instanceMethod yX12_hasDomain, Cond.selects RX12 yX12_hasDomain yX12_hasDomain, Cond.code yX12_hasDomain cX12_hasDomain 6 (some .boolean), Cond.methodLink RX12 718 yX12_hasLimit, Cond.instanceMethod yX12_hasLimit, Cond.selects RX12 yX12_hasLimit yX12_hasLimit, Cond.code yX12_hasLimit cX12_hasLimit 5 (some .boolean), Cond.fieldLink RX12 724 "WardenHouseModel" "askedBits" "I", Cond.fieldLink RX12 162 "WardenHouseModel" "may" "[I", Cond.fieldLink RX12 734 "WardenHouseModel" "mayContext" "I", Cond.methodLink RX12 727 yX12_own, Cond.instanceMethod yX12_own, Cond.selects RX12 yX12_own yX12_own, Cond.code yX12_own cX12_own 2 (some .boolean), Cond.methodLink RX12 730 yX12_adds, Cond.instanceMethod yX12_adds, Cond.selects RX12 yX12_adds yX12_adds, Cond.code yX12_adds cX12_adds 5 (some .boolean), Cond.methodLink RX12 737 yX12_bitsOf, Cond.instanceMethod yX12_bitsOf, Cond.selects RX12 yX12_bitsOf yX12_bitsOf, Cond.code yX12_bitsOf cX12_bitsOf 6 (some .int), Cond.methodLink RX12 741 yX12_goesOn, Cond.instanceMethod yX12_goesOn, Cond.selects RX12 yX12_goesOn yX12_goesOn, Cond.code yX12_goesOn cX12_goesOn 7 (some .boolean), Cond.fieldLink RX12 744 "WardenHouseModel" "madeMany" "I", Cond.fieldLink RX12 262 "WardenHouseModel" "made" "[I", Cond.fieldLink RX12 747 "WardenHouseModel" "contexts" "I", Cond.fieldLink RX12 255 "WardenHouseModel" "productMany" "[I", Cond.fieldLink RX12 259 "WardenHouseModel" "product" "[I", Cond.methodLink RX12 750 yX12_addProduct, Cond.instanceMethod yX12_addProduct, Cond.selects RX12 yX12_addProduct yX12_addProduct, Cond.code yX12_addProduct cX12_addProduct 4 none, Cond.methodLink RX12 753 yX12_keepMade, Cond.instanceMethod yX12_keepMade, Cond.selects RX12 yX12_keepMade yX12_keepMade, Cond.code yX12_keepMade cX12_keepMade 4 (some .int), Cond.fieldLink RX12 756 "WardenHouseModel" "looked" "I", Cond.fieldLink RX12 181 "WardenHouseModel" "frameUnit" "[I", Cond.fieldLink RX12 184 "WardenHouseModel" "below" "[I", Cond.fieldLink RX12 187 "WardenHouseModel" "given" "[I", Cond.fieldLink RX12 759 "WardenHouseModel" "me" "I", Cond.fieldLink RX12 205 "WardenHouseModel" "deep" "[I"]
def md_w9 : List Cond := [Cond.fieldLink RX12 233 "WardenHouseModel" "top" "[I", Cond.fieldLink RX12 237 "WardenHouseModel" "stackSort" "[I", Cond.fieldLink RX12 240 "WardenHouseModel" "stack" "[I", Cond.fieldLink RX12 762 "WardenHouseModel" "popped" "I", Cond.fieldLink RX12 765 "WardenHouseModel" "events" "I", Cond.fieldLink RX12 165 "WardenHouseModel" "event" "[I", Cond.fieldLink RX12 243 "WardenHouseModel" "tries" "[I", Cond.fieldLink RX12 246 "WardenHouseModel" "tryDeep" "[I", Cond.fieldLink RX12 249 "WardenHouseModel" "tryTop" "[I", Cond.fieldLink RX12 223 "WardenHouseModel" "localTop" "[I", Cond.fieldLink RX12 214 "WardenHouseModel" "fLocals" "[I", Cond.methodLink RX12 775 yX12_frameAt, Cond.instanceMethod yX12_frameAt, Cond.selects RX12 yX12_frameAt yX12_frameAt, Cond.code yX12_frameAt cX12_frameAt 1 (some .int), Cond.fieldLink RX12 208 "WardenHouseModel" "fUnit" "[I", Cond.fieldLink RX12 211 "WardenHouseModel" "fAt" "[I", Cond.fieldLink RX12 252 "WardenHouseModel" "tryPlace" "[I", Cond.methodLink RX12 778 yX12_push, Cond.instanceMethod yX12_push, Cond.selects RX12 yX12_push yX12_push, Cond.code yX12_push cX12_push 4 none, Cond.fieldLink RX12 190 "WardenHouseModel" "state" "[I", Cond.fieldLink RX12 202 "WardenHouseModel" "result" "[I", Cond.fieldLink RX12 199 "WardenHouseModel" "resultSort" "[I", Cond.methodLink RX12 768 yX12_tells, Cond.instanceMethod yX12_tells, Cond.selects RX12 yX12_tells yX12_tells, Cond.code yX12_tells cX12_tells 6 none, Cond.fieldLink RX12 772 "WardenHouseModel" "goes" "Z", Cond.fieldLink RX12 227 "WardenHouseModel" "localSort" "[I", Cond.fieldLink RX12 230 "WardenHouseModel" "local" "[I", Cond.fieldLink RX12 781 "WardenHouseModel" "stepsDone" "I", Cond.fieldLink RX12 784 "WardenHouseModel" "stepsMay" "I", Cond.fieldLink RX12 793 "WardenHouseModel" "frames" "I", Cond.methodLink RX12 790 yX12_failure, Cond.instanceMethod yX12_failure, Cond.selects RX12 yX12_failure yX12_failure, Cond.code yX12_failure cX12_failure 3 none, Cond.fieldLink RX12 787 "WardenHouseModel" "isCut" "Z", Cond.fieldLink RX12 217 "WardenHouseModel" "fFrame" "[I", Cond.fieldLink RX12 220 "WardenHouseModel" "fContext" "[I", Cond.fieldLink RX12 796 "WardenHouseModel" "isRewritten" "Z", Cond.methodLink RX12 799 yX12_contextOf, Cond.instanceMethod yX12_contextOf, Cond.selects RX12 yX12_contextOf yX12_contextOf, Cond.code yX12_contextOf cX12_contextOf 7 (some .int), Cond.fieldLink RX12 196 "WardenHouseModel" "began" "[I", Cond.fieldLink RX12 802 "WardenHouseModel" "mostFrames" "I", Cond.methodLink RX12 805 yX12_setLocal, Cond.instanceMethod yX12_setLocal, Cond.selects RX12 yX12_setLocal yX12_setLocal, Cond.code yX12_setLocal cX12_setLocal 6 none, Cond.fieldLink RX12 168 "WardenHouseModel" "thingOf" "[I", Cond.fieldLink RX12 809 "WardenHouseModel" "things" "I", Cond.fieldLink RX12 171 "WardenHouseModel" "thingAt" "[I", Cond.fieldLink RX12 812 "WardenHouseModel" "had" "I", Cond.fieldLink RX12 175 "WardenHouseModel" "haveSort" "[I", Cond.fieldLink RX12 178 "WardenHouseModel" "have" "[I", Cond.methodLink RX12 815 yX12_newThing]
def md_w10 : List Cond := [Cond.instanceMethod yX12_newThing, Cond.selects RX12 yX12_newThing yX12_newThing, Cond.code yX12_newThing cX12_newThing 4 (some .int), Cond.fieldLink RX12 193 "WardenHouseModel" "waits" "[I", Cond.methodLink RX12 848 yX12_canGo, Cond.instanceMethod yX12_canGo, Cond.selects RX12 yX12_canGo yX12_canGo, Cond.code yX12_canGo cX12_canGo 2 (some .boolean), Cond.methodLink RX12 851 yX12_hasWaited, Cond.instanceMethod yX12_hasWaited, Cond.selects RX12 yX12_hasWaited yX12_hasWaited, Cond.code yX12_hasWaited cX12_hasWaited 2 none, Cond.fieldLink RX12 820 "WardenHouseModel" "threads" "I", Cond.methodLink RX12 857 yX12_pop, Cond.instanceMethod yX12_pop, Cond.selects RX12 yX12_pop yX12_pop, Cond.code yX12_pop cX12_pop 1 (some .int), Cond.methodLink RX12 826 yX12_begin, Cond.instanceMethod yX12_begin, Cond.selects RX12 yX12_begin yX12_begin, Cond.code yX12_begin cX12_begin 10 (some .boolean), Cond.methodLink RX12 902 yX12_takeCaptured, Cond.instanceMethod yX12_takeCaptured, Cond.selects RX12 yX12_takeCaptured yX12_takeCaptured, Cond.code yX12_takeCaptured cX12_takeCaptured 5 none, Cond.constantLong RX12 905 (999), Cond.methodLink RX12 907 yX12_placeWith, Cond.instanceMethod yX12_placeWith, Cond.selects RX12 yX12_placeWith yX12_placeWith, Cond.code yX12_placeWith cX12_placeWith 7 none, Cond.methodLink RX12 913 yX12_isGrantedIn, Cond.instanceMethod yX12_isGrantedIn, Cond.selects RX12 yX12_isGrantedIn yX12_isGrantedIn, Cond.code yX12_isGrantedIn cX12_isGrantedIn 5 (some .boolean), Cond.methodLink RX12 910 yX12_isGrantedBy, Cond.instanceMethod yX12_isGrantedBy, Cond.selects RX12 yX12_isGrantedBy yX12_isGrantedBy, Cond.code yX12_isGrantedBy cX12_isGrantedBy 4 (some .boolean), Cond.methodLink RX12 898 yX12_methodOf, Cond.instanceMethod yX12_methodOf, Cond.selects RX12 yX12_methodOf yX12_methodOf, Cond.code yX12_methodOf cX12_methodOf 8 (some .int), Cond.methodLink RX12 823 yX12_newThread, Cond.instanceMethod yX12_newThread, Cond.selects RX12 yX12_newThread yX12_newThread, Cond.code yX12_newThread cX12_newThread 2 (some .int), Cond.methodLink RX12 916 yX12_spawns, Cond.instanceMethod yX12_spawns, Cond.selects RX12 yX12_spawns yX12_spawns, Cond.code yX12_spawns cX12_spawns 4 none, Cond.methodLink RX12 830 yX12_newObject, Cond.instanceMethod yX12_newObject, Cond.selects RX12 yX12_newObject yX12_newObject, Cond.code yX12_newObject cX12_newObject 2 (some .int), Cond.methodLink RX12 854 yX12_wordAt, Cond.instanceMethod yX12_wordAt, Cond.selects RX12 yX12_wordAt yX12_wordAt, Cond.code yX12_wordAt cX12_wordAt 2 (some .int), Cond.methodLink RX12 879 yX12_sends, Cond.instanceMethod yX12_sends]
def md_w11 : List Cond := [Cond.selects RX12 yX12_sends yX12_sends, Cond.code yX12_sends cX12_sends 7 none, Cond.methodLink RX12 883 yX12_applies, Cond.instanceMethod yX12_applies, Cond.selects RX12 yX12_applies yX12_applies, Cond.code yX12_applies cX12_applies 6 none, Cond.methodLink RX12 886 yX12_closes, Cond.instanceMethod yX12_closes, Cond.selects RX12 yX12_closes yX12_closes, Cond.code yX12_closes cX12_closes 4 none, Cond.methodLink RX12 889 yX12_stepPart, Cond.instanceMethod yX12_stepPart, Cond.selects RX12 yX12_stepPart yX12_stepPart, Cond.code yX12_stepPart cX12_stepPart 5 none, Cond.methodLink RX12 872 yX12_reckons, Cond.instanceMethod yX12_reckons, Cond.selects RX12 yX12_reckons yX12_reckons, Cond.code yX12_reckons cX12_reckons 6 none, Cond.methodLink RX12 895 yX12_stepWord, Cond.instanceMethod yX12_stepWord, Cond.selects RX12 yX12_stepWord yX12_stepWord, Cond.code yX12_stepWord cX12_stepWord 4 none, Cond.methodLink RX12 892 yX12_asks_, Cond.instanceMethod yX12_asks_, Cond.selects RX12 yX12_asks_ yX12_asks_, Cond.code yX12_asks_ cX12_asks_ 8 none, Cond.methodLink RX12 875 yX12_stepField, Cond.instanceMethod yX12_stepField, Cond.selects RX12 yX12_stepField yX12_stepField, Cond.code yX12_stepField cX12_stepField 9 none, Cond.methodLink RX12 860 yX12_stepIf, Cond.instanceMethod yX12_stepIf, Cond.selects RX12 yX12_stepIf yX12_stepIf, Cond.code yX12_stepIf cX12_stepIf 3 none, Cond.methodLink RX12 863 yX12_stepTry, Cond.instanceMethod yX12_stepTry, Cond.selects RX12 yX12_stepTry yX12_stepTry, Cond.code yX12_stepTry cX12_stepTry 4 none, Cond.methodLink RX12 866 yX12_stepBack, Cond.instanceMethod yX12_stepBack, Cond.selects RX12 yX12_stepBack yX12_stepBack, Cond.code yX12_stepBack cX12_stepBack 2 none, Cond.methodLink RX12 869 yX12_stepOther, Cond.instanceMethod yX12_stepOther, Cond.selects RX12 yX12_stepOther yX12_stepOther, Cond.code yX12_stepOther cX12_stepOther 5 none, Cond.constantLong RX12 818 (4000), Cond.methodLink RX12 833 yX12_step, Cond.instanceMethod yX12_step, Cond.selects RX12 yX12_step yX12_step, Cond.code yX12_step cX12_step 7 none, Cond.methodLink RX12 835 yX12_ready, Cond.instanceMethod yX12_ready, Cond.selects RX12 yX12_ready yX12_ready, Cond.code yX12_ready cX12_ready 3 (some .int), Cond.constant RX12 838 (1103515245), Cond.methodLink RX12 839 yX12_choose, Cond.instanceMethod yX12_choose, Cond.selects RX12 yX12_choose yX12_choose, Cond.code yX12_choose cX12_choose 5 none]
def md_w12 : List Cond := [Cond.methodLink RX12 842 yX12_going, Cond.instanceMethod yX12_going, Cond.selects RX12 yX12_going yX12_going, Cond.code yX12_going cX12_going 3 (some .int), Cond.fieldLink RX12 845 "WardenHouseModel" "ended" "I", Cond.constantLong RX12 919 (4), Cond.code yX12_thrown cX12_thrown 1 (some .int), Cond.code yX12_feed cX12_feed 8 (some .boolean), Cond.code yX12_end cX12_end 2 (some .boolean), Cond.code yX12_program cX12_program 2 (some .int), Cond.code yX12_fault cX12_fault 2 (some .int), Cond.code yX12_count cX12_count 4 (some .int), Cond.code yX12_unit cX12_unit 3 (some .int), Cond.code yX12_code cX12_code 5 (some .int), Cond.code yX12_number cX12_number 2 (some .int), Cond.code yX12_domain cX12_domain 2 (some .int), Cond.code yX12_asks cX12_asks 8 (some .boolean), Cond.code yX12_has cX12_has 4 (some .int), Cond.code yX12_may cX12_may 5 (some .int), Cond.code yX12_run cX12_run 11 (some .int), Cond.code yX12_result cX12_result 2 (some .int), Cond.code yX12_event cX12_event 4 (some .int), Cond.code yX12_thread cX12_thread 3 (some .int), Cond.code yX12_context cX12_context 4 (some .int)]
def v_MOD : List Cond := (md_w0 ++ (md_w1 ++ (md_w2 ++ (md_w3 ++ (md_w4 ++ (md_w5 ++ (md_w6 ++ (md_w7 ++ (md_w8 ++ (md_w9 ++ (md_w10 ++ (md_w11 ++ (md_w12 ++ (wsJ0_length_8abf5 ++ (wsJ0_charAt_5068e ++ (wsJ0_indexOf_7cf53 ++ wsX120))))))))))))))))
theorem md_wi0 : ∀ w ∈ md_w0, w ∈ v_MOD := fun _ h => List.mem_append_left _ h
theorem md_wi1 : ∀ w ∈ md_w1, w ∈ v_MOD := fun _ h => List.mem_append_right _ (List.mem_append_left _ h)
theorem md_wi2 : ∀ w ∈ md_w2, w ∈ v_MOD := fun _ h => List.mem_append_right _ (List.mem_append_right _ (List.mem_append_left _ h))
theorem md_wi3 : ∀ w ∈ md_w3, w ∈ v_MOD := fun _ h => List.mem_append_right _ (List.mem_append_right _ (List.mem_append_right _ (List.mem_append_left _ h)))
theorem md_wi4 : ∀ w ∈ md_w4, w ∈ v_MOD := fun _ h => List.mem_append_right _ (List.mem_append_right _ (List.mem_append_right _ (List.mem_append_right _ (List.mem_append_left _ h))))
theorem md_wi5 : ∀ w ∈ md_w5, w ∈ v_MOD := fun _ h => List.mem_append_right _ (List.mem_append_right _ (List.mem_append_right _ (List.mem_append_right _ (List.mem_append_right _ (List.mem_append_left _ h)))))
theorem md_wi6 : ∀ w ∈ md_w6, w ∈ v_MOD := fun _ h => List.mem_append_right _ (List.mem_append_right _ (List.mem_append_right _ (List.mem_append_right _ (List.mem_append_right _ (List.mem_append_right _ (List.mem_append_left _ h))))))
theorem md_wi7 : ∀ w ∈ md_w7, w ∈ v_MOD := fun _ h => List.mem_append_right _ (List.mem_append_right _ (List.mem_append_right _ (List.mem_append_right _ (List.mem_append_right _ (List.mem_append_right _ (List.mem_append_right _ (List.mem_append_left _ h)))))))
theorem md_wi8 : ∀ w ∈ md_w8, w ∈ v_MOD := fun _ h => List.mem_append_right _ (List.mem_append_right _ (List.mem_append_right _ (List.mem_append_right _ (List.mem_append_right _ (List.mem_append_right _ (List.mem_append_right _ (List.mem_append_right _ (List.mem_append_left _ h))))))))
theorem md_wi9 : ∀ w ∈ md_w9, w ∈ v_MOD := fun _ h => List.mem_append_right _ (List.mem_append_right _ (List.mem_append_right _ (List.mem_append_right _ (List.mem_append_right _ (List.mem_append_right _ (List.mem_append_right _ (List.mem_append_right _ (List.mem_append_right _ (List.mem_append_left _ h)))))))))
theorem md_wi10 : ∀ w ∈ md_w10, w ∈ v_MOD := fun _ h => List.mem_append_right _ (List.mem_append_right _ (List.mem_append_right _ (List.mem_append_right _ (List.mem_append_right _ (List.mem_append_right _ (List.mem_append_right _ (List.mem_append_right _ (List.mem_append_right _ (List.mem_append_right _ (List.mem_append_left _ h))))))))))
theorem md_wi11 : ∀ w ∈ md_w11, w ∈ v_MOD := fun _ h => List.mem_append_right _ (List.mem_append_right _ (List.mem_append_right _ (List.mem_append_right _ (List.mem_append_right _ (List.mem_append_right _ (List.mem_append_right _ (List.mem_append_right _ (List.mem_append_right _ (List.mem_append_right _ (List.mem_append_right _ (List.mem_append_left _ h)))))))))))
theorem md_wi12 : ∀ w ∈ md_w12, w ∈ v_MOD := fun _ h => List.mem_append_right _ (List.mem_append_right _ (List.mem_append_right _ (List.mem_append_right _ (List.mem_append_right _ (List.mem_append_right _ (List.mem_append_right _ (List.mem_append_right _ (List.mem_append_right _ (List.mem_append_right _ (List.mem_append_right _ (List.mem_append_right _ (List.mem_append_left _ h))))))))))))
theorem hin12 : ∀ w ∈ wsX120, w ∈ v_MOD := fun _ h => List.mem_append_right _ (List.mem_append_right _ (List.mem_append_right _ (List.mem_append_right _ (List.mem_append_right _ (List.mem_append_right _ (List.mem_append_right _ (List.mem_append_right _ (List.mem_append_right _ (List.mem_append_right _ (List.mem_append_right _ (List.mem_append_right _ (List.mem_append_right _ (List.mem_append_right _ (List.mem_append_right _ (List.mem_append_right _ (h))))))))))))))))
theorem hin12c {c : Cond} : ∀ w ∈ u_ws RX12 TX12 137, w ∈ c :: v_MOD := fun w h => List.mem_cons_of_mem _ (hin12 w h)
theorem mm_0 : Cond.fieldLink RX12 268 "WardenHouseModel" "thrown" "I" ∈ v_MOD := md_wi0 _ (List.mem_of_getElem? (i := 0) rfl)
theorem mm_1 : Cond.fieldLink RX12 271 "WardenHouseModel" "taped" "I" ∈ v_MOD := md_wi0 _ (List.mem_of_getElem? (i := 1) rfl)
theorem mm_2 : Cond.fieldLink RX12 9 "WardenHouseModel" "tape" "[I" ∈ v_MOD := md_wi0 _ (List.mem_of_getElem? (i := 2) rfl)
theorem mm_3 : Cond.methodLink RX12 274 yX12_in ∈ v_MOD := md_wi0 _ (List.mem_of_getElem? (i := 3) rfl)
theorem mm_4 : Cond.static yX12_in ∈ v_MOD := md_wi0 _ (List.mem_of_getElem? (i := 4) rfl)
theorem mm_5 : Cond.initialized RX12 ∈ v_MOD := md_wi0 _ (List.mem_of_getElem? (i := 5) rfl)
theorem mm_6 : Cond.code yX12_in cX12_in 6 (some .boolean) ∈ v_MOD := md_wi0 _ (List.mem_of_getElem? (i := 6) rfl)
theorem mm_7 : Cond.fieldLink RX12 278 "WardenHouseModel" "size" "I" ∈ v_MOD := md_wi0 _ (List.mem_of_getElem? (i := 7) rfl)
theorem mm_8 : Cond.fieldLink RX12 13 "WardenHouseModel" "text" "[I" ∈ v_MOD := md_wi0 _ (List.mem_of_getElem? (i := 8) rfl)
theorem mm_9 : Cond.constantLong RX12 281 (97) ∈ v_MOD := md_wi0 _ (List.mem_of_getElem? (i := 9) rfl)
theorem mm_10 : Cond.constantLong RX12 283 (122) ∈ v_MOD := md_wi0 _ (List.mem_of_getElem? (i := 10) rfl)
theorem mm_11 : Cond.constantLong RX12 285 (48) ∈ v_MOD := md_wi0 _ (List.mem_of_getElem? (i := 11) rfl)
theorem mm_12 : Cond.constantLong RX12 287 (57) ∈ v_MOD := md_wi0 _ (List.mem_of_getElem? (i := 12) rfl)
theorem mm_13 : Cond.fieldLink RX12 289 "WardenHouseModel" "fault" "I" ∈ v_MOD := md_wi0 _ (List.mem_of_getElem? (i := 13) rfl)
theorem mm_14 : Cond.fieldLink RX12 16 "WardenHouseModel" "faultPlace" "I" ∈ v_MOD := md_wi0 _ (List.mem_of_getElem? (i := 14) rfl)
theorem mm_15 : Cond.fieldLink RX12 292 "WardenHouseModel" "word" "I" ∈ v_MOD := md_wi0 _ (List.mem_of_getElem? (i := 15) rfl)
theorem mm_16 : Cond.fieldLink RX12 295 "WardenHouseModel" "from" "I" ∈ v_MOD := md_wi0 _ (List.mem_of_getElem? (i := 16) rfl)
theorem mm_17 : Cond.methodLink RX12 298 yX12_failsAt ∈ v_MOD := md_wi0 _ (List.mem_of_getElem? (i := 17) rfl)
theorem mm_18 : Cond.instanceMethod yX12_failsAt ∈ v_MOD := md_wi0 _ (List.mem_of_getElem? (i := 18) rfl)
theorem mm_19 : Cond.selects RX12 yX12_failsAt yX12_failsAt ∈ v_MOD := md_wi0 _ (List.mem_of_getElem? (i := 19) rfl)
theorem mm_20 : Cond.code yX12_failsAt cX12_failsAt 3 none ∈ v_MOD := md_wi0 _ (List.mem_of_getElem? (i := 20) rfl)
theorem mm_21 : Cond.methodLink RX12 302 yX12_isLetter ∈ v_MOD := md_wi0 _ (List.mem_of_getElem? (i := 21) rfl)
theorem mm_22 : Cond.static yX12_isLetter ∈ v_MOD := md_wi0 _ (List.mem_of_getElem? (i := 22) rfl)
theorem mm_23 : Cond.code yX12_isLetter cX12_isLetter 1 (some .boolean) ∈ v_MOD := md_wi0 _ (List.mem_of_getElem? (i := 23) rfl)
theorem mm_24 : Cond.constantLong RX12 306 (37) ∈ v_MOD := md_wi0 _ (List.mem_of_getElem? (i := 24) rfl)
theorem mm_25 : Cond.methodLink RX12 308 yJ0_charAt_5068e ∈ v_MOD := md_wi0 _ (List.mem_of_getElem? (i := 25) rfl)
theorem mm_26 : Cond.instanceMethod yJ0_charAt_5068e ∈ v_MOD := md_wi0 _ (List.mem_of_getElem? (i := 26) rfl)
theorem mm_27 : Cond.selects RJ0 yJ0_charAt_5068e yJ0_charAt_5068e ∈ v_MOD := md_wi0 _ (List.mem_of_getElem? (i := 27) rfl)
theorem mm_28 : Cond.initialized RJ0 ∈ v_MOD := md_wi0 _ (List.mem_of_getElem? (i := 28) rfl)
theorem mm_29 : Cond.methodLink RX12 314 yX12_digitOf ∈ v_MOD := md_wi0 _ (List.mem_of_getElem? (i := 29) rfl)
theorem mm_30 : Cond.static yX12_digitOf ∈ v_MOD := md_wi0 _ (List.mem_of_getElem? (i := 30) rfl)
theorem mm_31 : Cond.code yX12_digitOf cX12_digitOf 1 (some .int) ∈ v_MOD := md_wi0 _ (List.mem_of_getElem? (i := 31) rfl)
theorem mm_32 : Cond.methodLink RX12 320 yJ0_length_8abf5 ∈ v_MOD := md_wi0 _ (List.mem_of_getElem? (i := 32) rfl)
theorem mm_33 : Cond.instanceMethod yJ0_length_8abf5 ∈ v_MOD := md_wi0 _ (List.mem_of_getElem? (i := 33) rfl)
theorem mm_34 : Cond.selects RJ0 yJ0_length_8abf5 yJ0_length_8abf5 ∈ v_MOD := md_wi0 _ (List.mem_of_getElem? (i := 34) rfl)
theorem mm_35 : Cond.methodLink RX12 324 yJ0_indexOf_7cf53 ∈ v_MOD := md_wi0 _ (List.mem_of_getElem? (i := 35) rfl)
theorem mm_36 : Cond.instanceMethod yJ0_indexOf_7cf53 ∈ v_MOD := md_wi0 _ (List.mem_of_getElem? (i := 36) rfl)
theorem mm_37 : Cond.selects RJ0 yJ0_indexOf_7cf53 yJ0_indexOf_7cf53 ∈ v_MOD := md_wi0 _ (List.mem_of_getElem? (i := 37) rfl)
theorem mm_38 : Cond.methodLink RX12 328 yX12_codeOf ∈ v_MOD := md_wi0 _ (List.mem_of_getElem? (i := 38) rfl)
theorem mm_39 : Cond.static yX12_codeOf ∈ v_MOD := md_wi0 _ (List.mem_of_getElem? (i := 39) rfl)
theorem mm_40 : Cond.code yX12_codeOf cX12_codeOf 6 (some .long) ∈ v_MOD := md_wi0 _ (List.mem_of_getElem? (i := 40) rfl)
theorem mm_41 : Cond.fieldLink RX12 358 "WardenHouseModel" "name" "J" ∈ v_MOD := md_wi0 _ (List.mem_of_getElem? (i := 41) rfl)
theorem mm_42 : Cond.fieldLink RX12 336 "WardenHouseModel" "to" "I" ∈ v_MOD := md_wi0 _ (List.mem_of_getElem? (i := 42) rfl)
theorem mm_43 : Cond.methodLink RX12 339 yX12_at ∈ v_MOD := md_wi0 _ (List.mem_of_getElem? (i := 43) rfl)
theorem mm_44 : Cond.instanceMethod yX12_at ∈ v_MOD := md_wi0 _ (List.mem_of_getElem? (i := 44) rfl)
theorem mm_45 : Cond.selects RX12 yX12_at yX12_at ∈ v_MOD := md_wi0 _ (List.mem_of_getElem? (i := 45) rfl)
theorem mm_46 : Cond.code yX12_at cX12_at 2 (some .int) ∈ v_MOD := md_wi0 _ (List.mem_of_getElem? (i := 46) rfl)
theorem mm_47 : Cond.methodLink RX12 345 yX12_isDigit ∈ v_MOD := md_wi0 _ (List.mem_of_getElem? (i := 47) rfl)
theorem mm_48 : Cond.static yX12_isDigit ∈ v_MOD := md_wi0 _ (List.mem_of_getElem? (i := 48) rfl)
theorem mm_49 : Cond.code yX12_isDigit cX12_isDigit 1 (some .boolean) ∈ v_MOD := md_wi0 _ (List.mem_of_getElem? (i := 49) rfl)
theorem mm_50 : Cond.methodLink RX12 365 yX12_keywordOf ∈ v_MOD := md_wi0 _ (List.mem_of_getElem? (i := 50) rfl)
theorem mm_51 : Cond.static yX12_keywordOf ∈ v_MOD := md_wi0 _ (List.mem_of_getElem? (i := 51) rfl)
theorem mm_52 : Cond.code yX12_keywordOf cX12_keywordOf 5 (some .int) ∈ v_MOD := md_wi0 _ (List.mem_of_getElem? (i := 52) rfl)
theorem mm_53 : Cond.fieldLink RX12 369 "WardenHouseModel" "value" "I" ∈ v_MOD := md_wi0 _ (List.mem_of_getElem? (i := 53) rfl)
theorem mm_54 : Cond.methodLink RX12 362 yX12_fails ∈ v_MOD := md_wi0 _ (List.mem_of_getElem? (i := 54) rfl)
theorem mm_55 : Cond.instanceMethod yX12_fails ∈ v_MOD := md_wi0 _ (List.mem_of_getElem? (i := 55) rfl)
theorem mm_56 : Cond.selects RX12 yX12_fails yX12_fails ∈ v_MOD := md_wi0 _ (List.mem_of_getElem? (i := 56) rfl)
theorem mm_57 : Cond.code yX12_fails cX12_fails 2 none ∈ v_MOD := md_wi0 _ (List.mem_of_getElem? (i := 57) rfl)
theorem mm_58 : Cond.constantLong RX12 372 (2147483647) ∈ v_MOD := md_wi0 _ (List.mem_of_getElem? (i := 58) rfl)
theorem mm_59 : Cond.constantLong RX12 374 (10) ∈ v_MOD := md_wi0 _ (List.mem_of_getElem? (i := 59) rfl)
theorem mm_60 : Cond.fieldLink RX12 376 "WardenHouseModel" "steps" "I" ∈ v_MOD := md_wi1 _ (List.mem_of_getElem? (i := 0) rfl)
theorem mm_61 : Cond.fieldLink RX12 379 "WardenHouseModel" "tail" "I" ∈ v_MOD := md_wi1 _ (List.mem_of_getElem? (i := 1) rfl)
theorem mm_62 : Cond.fieldLink RX12 382 "WardenHouseModel" "stepsMost" "I" ∈ v_MOD := md_wi1 _ (List.mem_of_getElem? (i := 2) rfl)
theorem mm_63 : Cond.fieldLink RX12 20 "WardenHouseModel" "step" "[J" ∈ v_MOD := md_wi1 _ (List.mem_of_getElem? (i := 3) rfl)
theorem mm_64 : Cond.methodLink RX12 332 yX12_isFine ∈ v_MOD := md_wi1 _ (List.mem_of_getElem? (i := 4) rfl)
theorem mm_65 : Cond.instanceMethod yX12_isFine ∈ v_MOD := md_wi1 _ (List.mem_of_getElem? (i := 5) rfl)
theorem mm_66 : Cond.selects RX12 yX12_isFine yX12_isFine ∈ v_MOD := md_wi1 _ (List.mem_of_getElem? (i := 6) rfl)
theorem mm_67 : Cond.code yX12_isFine cX12_isFine 1 (some .boolean) ∈ v_MOD := md_wi1 _ (List.mem_of_getElem? (i := 7) rfl)
theorem mm_68 : Cond.methodLink RX12 354 yX12_nextSign ∈ v_MOD := md_wi1 _ (List.mem_of_getElem? (i := 8) rfl)
theorem mm_69 : Cond.instanceMethod yX12_nextSign ∈ v_MOD := md_wi1 _ (List.mem_of_getElem? (i := 9) rfl)
theorem mm_70 : Cond.selects RX12 yX12_nextSign yX12_nextSign ∈ v_MOD := md_wi1 _ (List.mem_of_getElem? (i := 10) rfl)
theorem mm_71 : Cond.code yX12_nextSign cX12_nextSign 3 none ∈ v_MOD := md_wi1 _ (List.mem_of_getElem? (i := 11) rfl)
theorem mm_72 : Cond.methodLink RX12 351 yX12_nextPattern ∈ v_MOD := md_wi1 _ (List.mem_of_getElem? (i := 12) rfl)
theorem mm_73 : Cond.instanceMethod yX12_nextPattern ∈ v_MOD := md_wi1 _ (List.mem_of_getElem? (i := 13) rfl)
theorem mm_74 : Cond.selects RX12 yX12_nextPattern yX12_nextPattern ∈ v_MOD := md_wi1 _ (List.mem_of_getElem? (i := 14) rfl)
theorem mm_75 : Cond.code yX12_nextPattern cX12_nextPattern 8 none ∈ v_MOD := md_wi1 _ (List.mem_of_getElem? (i := 15) rfl)
theorem mm_76 : Cond.methodLink RX12 348 yX12_nextNumber ∈ v_MOD := md_wi1 _ (List.mem_of_getElem? (i := 16) rfl)
theorem mm_77 : Cond.instanceMethod yX12_nextNumber ∈ v_MOD := md_wi1 _ (List.mem_of_getElem? (i := 17) rfl)
theorem mm_78 : Cond.selects RX12 yX12_nextNumber yX12_nextNumber ∈ v_MOD := md_wi1 _ (List.mem_of_getElem? (i := 18) rfl)
theorem mm_79 : Cond.code yX12_nextNumber cX12_nextNumber 3 none ∈ v_MOD := md_wi1 _ (List.mem_of_getElem? (i := 19) rfl)
theorem mm_80 : Cond.methodLink RX12 342 yX12_nextName ∈ v_MOD := md_wi1 _ (List.mem_of_getElem? (i := 20) rfl)
theorem mm_81 : Cond.instanceMethod yX12_nextName ∈ v_MOD := md_wi1 _ (List.mem_of_getElem? (i := 21) rfl)
theorem mm_82 : Cond.selects RX12 yX12_nextName yX12_nextName ∈ v_MOD := md_wi1 _ (List.mem_of_getElem? (i := 22) rfl)
theorem mm_83 : Cond.code yX12_nextName cX12_nextName 1 none ∈ v_MOD := md_wi1 _ (List.mem_of_getElem? (i := 23) rfl)
theorem mm_84 : Cond.methodLink RX12 385 yX12_isSign ∈ v_MOD := md_wi1 _ (List.mem_of_getElem? (i := 24) rfl)
theorem mm_85 : Cond.instanceMethod yX12_isSign ∈ v_MOD := md_wi1 _ (List.mem_of_getElem? (i := 25) rfl)
theorem mm_86 : Cond.selects RX12 yX12_isSign yX12_isSign ∈ v_MOD := md_wi1 _ (List.mem_of_getElem? (i := 26) rfl)
theorem mm_87 : Cond.code yX12_isSign cX12_isSign 2 (some .boolean) ∈ v_MOD := md_wi1 _ (List.mem_of_getElem? (i := 27) rfl)
theorem mm_88 : Cond.methodLink RX12 391 yX12_misfit ∈ v_MOD := md_wi1 _ (List.mem_of_getElem? (i := 28) rfl)
theorem mm_89 : Cond.instanceMethod yX12_misfit ∈ v_MOD := md_wi1 _ (List.mem_of_getElem? (i := 29) rfl)
theorem mm_90 : Cond.selects RX12 yX12_misfit yX12_misfit ∈ v_MOD := md_wi1 _ (List.mem_of_getElem? (i := 30) rfl)
theorem mm_91 : Cond.code yX12_misfit cX12_misfit 1 none ∈ v_MOD := md_wi1 _ (List.mem_of_getElem? (i := 31) rfl)
theorem mm_92 : Cond.methodLink RX12 388 yX12_next ∈ v_MOD := md_wi1 _ (List.mem_of_getElem? (i := 32) rfl)
theorem mm_93 : Cond.instanceMethod yX12_next ∈ v_MOD := md_wi1 _ (List.mem_of_getElem? (i := 33) rfl)
theorem mm_94 : Cond.selects RX12 yX12_next yX12_next ∈ v_MOD := md_wi1 _ (List.mem_of_getElem? (i := 34) rfl)
theorem mm_95 : Cond.code yX12_next cX12_next 3 none ∈ v_MOD := md_wi1 _ (List.mem_of_getElem? (i := 35) rfl)
theorem mm_96 : Cond.methodLink RX12 394 yX12_isKey ∈ v_MOD := md_wi1 _ (List.mem_of_getElem? (i := 36) rfl)
theorem mm_97 : Cond.instanceMethod yX12_isKey ∈ v_MOD := md_wi1 _ (List.mem_of_getElem? (i := 37) rfl)
theorem mm_98 : Cond.selects RX12 yX12_isKey yX12_isKey ∈ v_MOD := md_wi1 _ (List.mem_of_getElem? (i := 38) rfl)
theorem mm_99 : Cond.code yX12_isKey cX12_isKey 2 (some .boolean) ∈ v_MOD := md_wi1 _ (List.mem_of_getElem? (i := 39) rfl)
theorem mm_100 : Cond.fieldLink RX12 24 "WardenHouseModel" "patternStep" "[J" ∈ v_MOD := md_wi1 _ (List.mem_of_getElem? (i := 40) rfl)
theorem mm_101 : Cond.fieldLink RX12 27 "WardenHouseModel" "patternSteps" "[I" ∈ v_MOD := md_wi1 _ (List.mem_of_getElem? (i := 41) rfl)
theorem mm_102 : Cond.fieldLink RX12 30 "WardenHouseModel" "patternTail" "[I" ∈ v_MOD := md_wi1 _ (List.mem_of_getElem? (i := 42) rfl)
theorem mm_103 : Cond.methodLink RX12 397 yX12_keepPattern ∈ v_MOD := md_wi1 _ (List.mem_of_getElem? (i := 43) rfl)
theorem mm_104 : Cond.instanceMethod yX12_keepPattern ∈ v_MOD := md_wi1 _ (List.mem_of_getElem? (i := 44) rfl)
theorem mm_105 : Cond.selects RX12 yX12_keepPattern yX12_keepPattern ∈ v_MOD := md_wi1 _ (List.mem_of_getElem? (i := 45) rfl)
theorem mm_106 : Cond.code yX12_keepPattern cX12_keepPattern 3 none ∈ v_MOD := md_wi1 _ (List.mem_of_getElem? (i := 46) rfl)
theorem mm_107 : Cond.methodLink RX12 400 yX12_isName ∈ v_MOD := md_wi1 _ (List.mem_of_getElem? (i := 47) rfl)
theorem mm_108 : Cond.instanceMethod yX12_isName ∈ v_MOD := md_wi1 _ (List.mem_of_getElem? (i := 48) rfl)
theorem mm_109 : Cond.selects RX12 yX12_isName yX12_isName ∈ v_MOD := md_wi1 _ (List.mem_of_getElem? (i := 49) rfl)
theorem mm_110 : Cond.code yX12_isName cX12_isName 1 (some .boolean) ∈ v_MOD := md_wi1 _ (List.mem_of_getElem? (i := 50) rfl)
theorem mm_111 : Cond.fieldLink RX12 33 "WardenHouseModel" "rightMany" "[I" ∈ v_MOD := md_wi1 _ (List.mem_of_getElem? (i := 51) rfl)
theorem mm_112 : Cond.fieldLink RX12 36 "WardenHouseModel" "rightKind" "[J" ∈ v_MOD := md_wi1 _ (List.mem_of_getElem? (i := 52) rfl)
theorem mm_113 : Cond.methodLink RX12 403 yX12_pattern ∈ v_MOD := md_wi1 _ (List.mem_of_getElem? (i := 53) rfl)
theorem mm_114 : Cond.instanceMethod yX12_pattern ∈ v_MOD := md_wi1 _ (List.mem_of_getElem? (i := 54) rfl)
theorem mm_115 : Cond.selects RX12 yX12_pattern yX12_pattern ∈ v_MOD := md_wi1 _ (List.mem_of_getElem? (i := 55) rfl)
theorem mm_116 : Cond.code yX12_pattern cX12_pattern 3 none ∈ v_MOD := md_wi1 _ (List.mem_of_getElem? (i := 56) rfl)
theorem mm_117 : Cond.methodLink RX12 407 yX12_covers ∈ v_MOD := md_wi1 _ (List.mem_of_getElem? (i := 57) rfl)
theorem mm_118 : Cond.instanceMethod yX12_covers ∈ v_MOD := md_wi1 _ (List.mem_of_getElem? (i := 58) rfl)
theorem mm_119 : Cond.selects RX12 yX12_covers yX12_covers ∈ v_MOD := md_wi1 _ (List.mem_of_getElem? (i := 59) rfl)
theorem mm_120 : Cond.code yX12_covers cX12_covers 7 (some .boolean) ∈ v_MOD := md_wi2 _ (List.mem_of_getElem? (i := 0) rfl)
theorem mm_121 : Cond.fieldLink RX12 411 "WardenHouseModel" "grants" "I" ∈ v_MOD := md_wi2 _ (List.mem_of_getElem? (i := 1) rfl)
theorem mm_122 : Cond.fieldLink RX12 60 "WardenHouseModel" "domainSet" "[I" ∈ v_MOD := md_wi2 _ (List.mem_of_getElem? (i := 2) rfl)
theorem mm_123 : Cond.methodLink RX12 414 yX12_hasRight ∈ v_MOD := md_wi2 _ (List.mem_of_getElem? (i := 3) rfl)
theorem mm_124 : Cond.instanceMethod yX12_hasRight ∈ v_MOD := md_wi2 _ (List.mem_of_getElem? (i := 4) rfl)
theorem mm_125 : Cond.selects RX12 yX12_hasRight yX12_hasRight ∈ v_MOD := md_wi2 _ (List.mem_of_getElem? (i := 5) rfl)
theorem mm_126 : Cond.code yX12_hasRight cX12_hasRight 6 (some .boolean) ∈ v_MOD := md_wi2 _ (List.mem_of_getElem? (i := 6) rfl)
theorem mm_127 : Cond.fieldLink RX12 418 "WardenHouseModel" "nodes" "I" ∈ v_MOD := md_wi2 _ (List.mem_of_getElem? (i := 7) rfl)
theorem mm_128 : Cond.fieldLink RX12 127 "WardenHouseModel" "kind" "[I" ∈ v_MOD := md_wi2 _ (List.mem_of_getElem? (i := 8) rfl)
theorem mm_129 : Cond.fieldLink RX12 130 "WardenHouseModel" "nodeUnit" "[I" ∈ v_MOD := md_wi2 _ (List.mem_of_getElem? (i := 9) rfl)
theorem mm_130 : Cond.fieldLink RX12 421 "WardenHouseModel" "unit" "I" ∈ v_MOD := md_wi2 _ (List.mem_of_getElem? (i := 10) rfl)
theorem mm_131 : Cond.fieldLink RX12 133 "WardenHouseModel" "one" "[I" ∈ v_MOD := md_wi2 _ (List.mem_of_getElem? (i := 11) rfl)
theorem mm_132 : Cond.fieldLink RX12 136 "WardenHouseModel" "two" "[I" ∈ v_MOD := md_wi2 _ (List.mem_of_getElem? (i := 12) rfl)
theorem mm_133 : Cond.fieldLink RX12 139 "WardenHouseModel" "first" "[I" ∈ v_MOD := md_wi2 _ (List.mem_of_getElem? (i := 13) rfl)
theorem mm_134 : Cond.fieldLink RX12 142 "WardenHouseModel" "after" "[I" ∈ v_MOD := md_wi2 _ (List.mem_of_getElem? (i := 14) rfl)
theorem mm_135 : Cond.fieldLink RX12 145 "WardenHouseModel" "up" "[I" ∈ v_MOD := md_wi2 _ (List.mem_of_getElem? (i := 15) rfl)
theorem mm_136 : Cond.fieldLink RX12 629 "WardenHouseModel" "domains" "I" ∈ v_MOD := md_wi2 _ (List.mem_of_getElem? (i := 16) rfl)
theorem mm_137 : Cond.fieldLink RX12 434 "WardenHouseModel" "modules" "I" ∈ v_MOD := md_wi2 _ (List.mem_of_getElem? (i := 17) rfl)
theorem mm_138 : Cond.fieldLink RX12 57 "WardenHouseModel" "domain" "[I" ∈ v_MOD := md_wi2 _ (List.mem_of_getElem? (i := 18) rfl)
theorem mm_139 : Cond.fieldLink RX12 63 "WardenHouseModel" "sort" "[I" ∈ v_MOD := md_wi2 _ (List.mem_of_getElem? (i := 19) rfl)
theorem mm_140 : Cond.fieldLink RX12 72 "WardenHouseModel" "params" "[I" ∈ v_MOD := md_wi2 _ (List.mem_of_getElem? (i := 20) rfl)
theorem mm_141 : Cond.fieldLink RX12 84 "WardenHouseModel" "methodName" "[J" ∈ v_MOD := md_wi2 _ (List.mem_of_getElem? (i := 21) rfl)
theorem mm_142 : Cond.fieldLink RX12 124 "WardenHouseModel" "nameBehind" "[J" ∈ v_MOD := md_wi2 _ (List.mem_of_getElem? (i := 22) rfl)
theorem mm_143 : Cond.fieldLink RX12 437 "WardenHouseModel" "units" "I" ∈ v_MOD := md_wi2 _ (List.mem_of_getElem? (i := 23) rfl)
theorem mm_144 : Cond.fieldLink RX12 96 "WardenHouseModel" "needs" "[Z" ∈ v_MOD := md_wi2 _ (List.mem_of_getElem? (i := 24) rfl)
theorem mm_145 : Cond.methodLink RX12 632 yX12_isOfGroup ∈ v_MOD := md_wi2 _ (List.mem_of_getElem? (i := 25) rfl)
theorem mm_146 : Cond.instanceMethod yX12_isOfGroup ∈ v_MOD := md_wi2 _ (List.mem_of_getElem? (i := 26) rfl)
theorem mm_147 : Cond.selects RX12 yX12_isOfGroup yX12_isOfGroup ∈ v_MOD := md_wi2 _ (List.mem_of_getElem? (i := 27) rfl)
theorem mm_148 : Cond.code yX12_isOfGroup cX12_isOfGroup 3 (some .boolean) ∈ v_MOD := md_wi2 _ (List.mem_of_getElem? (i := 28) rfl)
theorem mm_149 : Cond.methodLink RX12 635 yX12_groupNeeds ∈ v_MOD := md_wi2 _ (List.mem_of_getElem? (i := 29) rfl)
theorem mm_150 : Cond.instanceMethod yX12_groupNeeds ∈ v_MOD := md_wi2 _ (List.mem_of_getElem? (i := 30) rfl)
theorem mm_151 : Cond.selects RX12 yX12_groupNeeds yX12_groupNeeds ∈ v_MOD := md_wi2 _ (List.mem_of_getElem? (i := 31) rfl)
theorem mm_152 : Cond.code yX12_groupNeeds cX12_groupNeeds 3 (some .boolean) ∈ v_MOD := md_wi2 _ (List.mem_of_getElem? (i := 32) rfl)
theorem mm_153 : Cond.methodLink RX12 638 yX12_nodeNeeds ∈ v_MOD := md_wi2 _ (List.mem_of_getElem? (i := 33) rfl)
theorem mm_154 : Cond.instanceMethod yX12_nodeNeeds ∈ v_MOD := md_wi2 _ (List.mem_of_getElem? (i := 34) rfl)
theorem mm_155 : Cond.selects RX12 yX12_nodeNeeds yX12_nodeNeeds ∈ v_MOD := md_wi2 _ (List.mem_of_getElem? (i := 35) rfl)
theorem mm_156 : Cond.code yX12_nodeNeeds cX12_nodeNeeds 3 (some .boolean) ∈ v_MOD := md_wi2 _ (List.mem_of_getElem? (i := 36) rfl)
theorem mm_157 : Cond.methodLink RX12 641 yX12_areOfOne ∈ v_MOD := md_wi2 _ (List.mem_of_getElem? (i := 37) rfl)
theorem mm_158 : Cond.instanceMethod yX12_areOfOne ∈ v_MOD := md_wi2 _ (List.mem_of_getElem? (i := 38) rfl)
theorem mm_159 : Cond.selects RX12 yX12_areOfOne yX12_areOfOne ∈ v_MOD := md_wi2 _ (List.mem_of_getElem? (i := 39) rfl)
theorem mm_160 : Cond.code yX12_areOfOne cX12_areOfOne 3 (some .boolean) ∈ v_MOD := md_wi2 _ (List.mem_of_getElem? (i := 40) rfl)
theorem mm_161 : Cond.methodLink RX12 479 yX12_sign ∈ v_MOD := md_wi2 _ (List.mem_of_getElem? (i := 41) rfl)
theorem mm_162 : Cond.instanceMethod yX12_sign ∈ v_MOD := md_wi2 _ (List.mem_of_getElem? (i := 42) rfl)
theorem mm_163 : Cond.selects RX12 yX12_sign yX12_sign ∈ v_MOD := md_wi2 _ (List.mem_of_getElem? (i := 43) rfl)
theorem mm_164 : Cond.code yX12_sign cX12_sign 2 none ∈ v_MOD := md_wi2 _ (List.mem_of_getElem? (i := 44) rfl)
theorem mm_165 : Cond.methodLink RX12 482 yX12_right ∈ v_MOD := md_wi2 _ (List.mem_of_getElem? (i := 45) rfl)
theorem mm_166 : Cond.instanceMethod yX12_right ∈ v_MOD := md_wi2 _ (List.mem_of_getElem? (i := 46) rfl)
theorem mm_167 : Cond.selects RX12 yX12_right yX12_right ∈ v_MOD := md_wi2 _ (List.mem_of_getElem? (i := 47) rfl)
theorem mm_168 : Cond.code yX12_right cX12_right 3 none ∈ v_MOD := md_wi2 _ (List.mem_of_getElem? (i := 48) rfl)
theorem mm_169 : Cond.fieldLink RX12 39 "WardenHouseModel" "moduleName" "[J" ∈ v_MOD := md_wi2 _ (List.mem_of_getElem? (i := 49) rfl)
theorem mm_170 : Cond.fieldLink RX12 42 "WardenHouseModel" "above" "[I" ∈ v_MOD := md_wi2 _ (List.mem_of_getElem? (i := 50) rfl)
theorem mm_171 : Cond.fieldLink RX12 45 "WardenHouseModel" "fields" "[I" ∈ v_MOD := md_wi2 _ (List.mem_of_getElem? (i := 51) rfl)
theorem mm_172 : Cond.fieldLink RX12 48 "WardenHouseModel" "field" "[J" ∈ v_MOD := md_wi2 _ (List.mem_of_getElem? (i := 52) rfl)
theorem mm_173 : Cond.methodLink RX12 501 yX12_fieldsAbove ∈ v_MOD := md_wi2 _ (List.mem_of_getElem? (i := 53) rfl)
theorem mm_174 : Cond.instanceMethod yX12_fieldsAbove ∈ v_MOD := md_wi2 _ (List.mem_of_getElem? (i := 54) rfl)
theorem mm_175 : Cond.selects RX12 yX12_fieldsAbove yX12_fieldsAbove ∈ v_MOD := md_wi2 _ (List.mem_of_getElem? (i := 55) rfl)
theorem mm_176 : Cond.code yX12_fieldsAbove cX12_fieldsAbove 4 (some .int) ∈ v_MOD := md_wi2 _ (List.mem_of_getElem? (i := 56) rfl)
theorem mm_177 : Cond.methodLink RX12 497 yX12_fieldOf ∈ v_MOD := md_wi2 _ (List.mem_of_getElem? (i := 57) rfl)
theorem mm_178 : Cond.instanceMethod yX12_fieldOf ∈ v_MOD := md_wi2 _ (List.mem_of_getElem? (i := 58) rfl)
theorem mm_179 : Cond.selects RX12 yX12_fieldOf yX12_fieldOf ∈ v_MOD := md_wi2 _ (List.mem_of_getElem? (i := 59) rfl)
theorem mm_180 : Cond.code yX12_fieldOf cX12_fieldOf 6 (some .int) ∈ v_MOD := md_wi3 _ (List.mem_of_getElem? (i := 0) rfl)
theorem mm_181 : Cond.methodLink RX12 518 yX12_beginsPrefix ∈ v_MOD := md_wi3 _ (List.mem_of_getElem? (i := 1) rfl)
theorem mm_182 : Cond.instanceMethod yX12_beginsPrefix ∈ v_MOD := md_wi3 _ (List.mem_of_getElem? (i := 2) rfl)
theorem mm_183 : Cond.selects RX12 yX12_beginsPrefix yX12_beginsPrefix ∈ v_MOD := md_wi3 _ (List.mem_of_getElem? (i := 3) rfl)
theorem mm_184 : Cond.code yX12_beginsPrefix cX12_beginsPrefix 1 (some .boolean) ∈ v_MOD := md_wi3 _ (List.mem_of_getElem? (i := 4) rfl)
theorem mm_185 : Cond.fieldLink RX12 458 "WardenHouseModel" "es" "I" ∈ v_MOD := md_wi3 _ (List.mem_of_getElem? (i := 5) rfl)
theorem mm_186 : Cond.fieldLink RX12 455 "WardenHouseModel" "parts" "I" ∈ v_MOD := md_wi3 _ (List.mem_of_getElem? (i := 6) rfl)
theorem mm_187 : Cond.methodLink RX12 552 yX12_countsPart ∈ v_MOD := md_wi3 _ (List.mem_of_getElem? (i := 7) rfl)
theorem mm_188 : Cond.instanceMethod yX12_countsPart ∈ v_MOD := md_wi3 _ (List.mem_of_getElem? (i := 8) rfl)
theorem mm_189 : Cond.selects RX12 yX12_countsPart yX12_countsPart ∈ v_MOD := md_wi3 _ (List.mem_of_getElem? (i := 9) rfl)
theorem mm_190 : Cond.code yX12_countsPart cX12_countsPart 1 (some .boolean) ∈ v_MOD := md_wi3 _ (List.mem_of_getElem? (i := 10) rfl)
theorem mm_191 : Cond.methodLink RX12 555 yX12_node ∈ v_MOD := md_wi3 _ (List.mem_of_getElem? (i := 11) rfl)
theorem mm_192 : Cond.instanceMethod yX12_node ∈ v_MOD := md_wi3 _ (List.mem_of_getElem? (i := 12) rfl)
theorem mm_193 : Cond.selects RX12 yX12_node yX12_node ∈ v_MOD := md_wi3 _ (List.mem_of_getElem? (i := 13) rfl)
theorem mm_194 : Cond.code yX12_node cX12_node 5 (some .int) ∈ v_MOD := md_wi3 _ (List.mem_of_getElem? (i := 14) rfl)
theorem mm_195 : Cond.methodLink RX12 515 yX12_e ∈ v_MOD := md_wi3 _ (List.mem_of_getElem? (i := 15) rfl)
theorem mm_196 : Cond.instanceMethod yX12_e ∈ v_MOD := md_wi3 _ (List.mem_of_getElem? (i := 16) rfl)
theorem mm_197 : Cond.selects RX12 yX12_e yX12_e ∈ v_MOD := md_wi3 _ (List.mem_of_getElem? (i := 17) rfl)
theorem mm_198 : Cond.code yX12_e cX12_e 2 (some .int) ∈ v_MOD := md_wi3 _ (List.mem_of_getElem? (i := 18) rfl)
theorem mm_199 : Cond.methodLink RX12 549 yX12_gets ∈ v_MOD := md_wi3 _ (List.mem_of_getElem? (i := 19) rfl)
theorem mm_200 : Cond.instanceMethod yX12_gets ∈ v_MOD := md_wi3 _ (List.mem_of_getElem? (i := 20) rfl)
theorem mm_201 : Cond.selects RX12 yX12_gets yX12_gets ∈ v_MOD := md_wi3 _ (List.mem_of_getElem? (i := 21) rfl)
theorem mm_202 : Cond.code yX12_gets cX12_gets 4 none ∈ v_MOD := md_wi3 _ (List.mem_of_getElem? (i := 22) rfl)
theorem mm_203 : Cond.methodLink RX12 485 yX12_key ∈ v_MOD := md_wi3 _ (List.mem_of_getElem? (i := 23) rfl)
theorem mm_204 : Cond.instanceMethod yX12_key ∈ v_MOD := md_wi3 _ (List.mem_of_getElem? (i := 24) rfl)
theorem mm_205 : Cond.selects RX12 yX12_key yX12_key ∈ v_MOD := md_wi3 _ (List.mem_of_getElem? (i := 25) rfl)
theorem mm_206 : Cond.code yX12_key cX12_key 2 none ∈ v_MOD := md_wi3 _ (List.mem_of_getElem? (i := 26) rfl)
theorem mm_207 : Cond.fieldLink RX12 118 "WardenHouseModel" "scope" "[I" ∈ v_MOD := md_wi3 _ (List.mem_of_getElem? (i := 27) rfl)
theorem mm_208 : Cond.fieldLink RX12 446 "WardenHouseModel" "scoped" "I" ∈ v_MOD := md_wi3 _ (List.mem_of_getElem? (i := 28) rfl)
theorem mm_209 : Cond.fieldLink RX12 443 "WardenHouseModel" "variables" "I" ∈ v_MOD := md_wi3 _ (List.mem_of_getElem? (i := 29) rfl)
theorem mm_210 : Cond.fieldLink RX12 103 "WardenHouseModel" "variableUnit" "[I" ∈ v_MOD := md_wi3 _ (List.mem_of_getElem? (i := 30) rfl)
theorem mm_211 : Cond.fieldLink RX12 106 "WardenHouseModel" "variableName" "[J" ∈ v_MOD := md_wi3 _ (List.mem_of_getElem? (i := 31) rfl)
theorem mm_212 : Cond.fieldLink RX12 109 "WardenHouseModel" "variableNumber" "[I" ∈ v_MOD := md_wi3 _ (List.mem_of_getElem? (i := 32) rfl)
theorem mm_213 : Cond.fieldLink RX12 112 "WardenHouseModel" "isLet" "[Z" ∈ v_MOD := md_wi3 _ (List.mem_of_getElem? (i := 33) rfl)
theorem mm_214 : Cond.methodLink RX12 508 yX12_newVariable ∈ v_MOD := md_wi3 _ (List.mem_of_getElem? (i := 34) rfl)
theorem mm_215 : Cond.instanceMethod yX12_newVariable ∈ v_MOD := md_wi3 _ (List.mem_of_getElem? (i := 35) rfl)
theorem mm_216 : Cond.selects RX12 yX12_newVariable yX12_newVariable ∈ v_MOD := md_wi3 _ (List.mem_of_getElem? (i := 36) rfl)
theorem mm_217 : Cond.code yX12_newVariable cX12_newVariable 7 (some .int) ∈ v_MOD := md_wi3 _ (List.mem_of_getElem? (i := 37) rfl)
theorem mm_218 : Cond.fieldLink RX12 563 "WardenHouseModel" "latest" "I" ∈ v_MOD := md_wi3 _ (List.mem_of_getElem? (i := 38) rfl)
theorem mm_219 : Cond.fieldLink RX12 93 "WardenHouseModel" "lets" "[I" ∈ v_MOD := md_wi3 _ (List.mem_of_getElem? (i := 39) rfl)
theorem mm_220 : Cond.methodLink RX12 566 yX12_binds ∈ v_MOD := md_wi3 _ (List.mem_of_getElem? (i := 40) rfl)
theorem mm_221 : Cond.instanceMethod yX12_binds ∈ v_MOD := md_wi3 _ (List.mem_of_getElem? (i := 41) rfl)
theorem mm_222 : Cond.selects RX12 yX12_binds yX12_binds ∈ v_MOD := md_wi3 _ (List.mem_of_getElem? (i := 42) rfl)
theorem mm_223 : Cond.code yX12_binds cX12_binds 2 none ∈ v_MOD := md_wi3 _ (List.mem_of_getElem? (i := 43) rfl)
theorem mm_224 : Cond.methodLink RX12 569 yX12_around ∈ v_MOD := md_wi3 _ (List.mem_of_getElem? (i := 44) rfl)
theorem mm_225 : Cond.instanceMethod yX12_around ∈ v_MOD := md_wi3 _ (List.mem_of_getElem? (i := 45) rfl)
theorem mm_226 : Cond.selects RX12 yX12_around yX12_around ∈ v_MOD := md_wi3 _ (List.mem_of_getElem? (i := 46) rfl)
theorem mm_227 : Cond.code yX12_around cX12_around 3 none ∈ v_MOD := md_wi3 _ (List.mem_of_getElem? (i := 47) rfl)
theorem mm_228 : Cond.methodLink RX12 524 yX12_deeper ∈ v_MOD := md_wi3 _ (List.mem_of_getElem? (i := 48) rfl)
theorem mm_229 : Cond.instanceMethod yX12_deeper ∈ v_MOD := md_wi3 _ (List.mem_of_getElem? (i := 49) rfl)
theorem mm_230 : Cond.selects RX12 yX12_deeper yX12_deeper ∈ v_MOD := md_wi3 _ (List.mem_of_getElem? (i := 50) rfl)
theorem mm_231 : Cond.code yX12_deeper cX12_deeper 2 (some .boolean) ∈ v_MOD := md_wi3 _ (List.mem_of_getElem? (i := 51) rfl)
theorem mm_232 : Cond.methodLink RX12 531 yX12_prefix ∈ v_MOD := md_wi3 _ (List.mem_of_getElem? (i := 52) rfl)
theorem mm_233 : Cond.instanceMethod yX12_prefix ∈ v_MOD := md_wi3 _ (List.mem_of_getElem? (i := 53) rfl)
theorem mm_234 : Cond.selects RX12 yX12_prefix yX12_prefix ∈ v_MOD := md_wi3 _ (List.mem_of_getElem? (i := 54) rfl)
theorem mm_235 : Cond.code yX12_prefix cX12_prefix 2 (some .int) ∈ v_MOD := md_wi3 _ (List.mem_of_getElem? (i := 55) rfl)
theorem mm_236 : Cond.methodLink RX12 521 yX12_beginsE ∈ v_MOD := md_wi3 _ (List.mem_of_getElem? (i := 56) rfl)
theorem mm_237 : Cond.instanceMethod yX12_beginsE ∈ v_MOD := md_wi3 _ (List.mem_of_getElem? (i := 57) rfl)
theorem mm_238 : Cond.selects RX12 yX12_beginsE yX12_beginsE ∈ v_MOD := md_wi3 _ (List.mem_of_getElem? (i := 58) rfl)
theorem mm_239 : Cond.code yX12_beginsE cX12_beginsE 1 (some .boolean) ∈ v_MOD := md_wi3 _ (List.mem_of_getElem? (i := 59) rfl)
theorem mm_240 : Cond.fieldLink RX12 440 "WardenHouseModel" "askings" "I" ∈ v_MOD := md_wi4 _ (List.mem_of_getElem? (i := 0) rfl)
theorem mm_241 : Cond.fieldLink RX12 100 "WardenHouseModel" "askingKind" "[J" ∈ v_MOD := md_wi4 _ (List.mem_of_getElem? (i := 1) rfl)
theorem mm_242 : Cond.fieldLink RX12 265 "WardenHouseModel" "askingWith" "[Z" ∈ v_MOD := md_wi4 _ (List.mem_of_getElem? (i := 2) rfl)
theorem mm_243 : Cond.fieldLink RX12 66 "WardenHouseModel" "module" "[I" ∈ v_MOD := md_wi4 _ (List.mem_of_getElem? (i := 3) rfl)
theorem mm_244 : Cond.fieldLink RX12 69 "WardenHouseModel" "place" "[I" ∈ v_MOD := md_wi4 _ (List.mem_of_getElem? (i := 4) rfl)
theorem mm_245 : Cond.fieldLink RX12 75 "WardenHouseModel" "inside" "[I" ∈ v_MOD := md_wi4 _ (List.mem_of_getElem? (i := 5) rfl)
theorem mm_246 : Cond.fieldLink RX12 87 "WardenHouseModel" "captured" "[I" ∈ v_MOD := md_wi4 _ (List.mem_of_getElem? (i := 6) rfl)
theorem mm_247 : Cond.fieldLink RX12 81 "WardenHouseModel" "limit" "[I" ∈ v_MOD := md_wi4 _ (List.mem_of_getElem? (i := 7) rfl)
theorem mm_248 : Cond.fieldLink RX12 115 "WardenHouseModel" "selfOf" "[I" ∈ v_MOD := md_wi4 _ (List.mem_of_getElem? (i := 8) rfl)
theorem mm_249 : Cond.methodLink RX12 504 yX12_newUnit ∈ v_MOD := md_wi4 _ (List.mem_of_getElem? (i := 9) rfl)
theorem mm_250 : Cond.instanceMethod yX12_newUnit ∈ v_MOD := md_wi4 _ (List.mem_of_getElem? (i := 10) rfl)
theorem mm_251 : Cond.selects RX12 yX12_newUnit yX12_newUnit ∈ v_MOD := md_wi4 _ (List.mem_of_getElem? (i := 11) rfl)
theorem mm_252 : Cond.code yX12_newUnit cX12_newUnit 5 (some .int) ∈ v_MOD := md_wi4 _ (List.mem_of_getElem? (i := 12) rfl)
theorem mm_253 : Cond.methodLink RX12 512 yX12_parameters ∈ v_MOD := md_wi4 _ (List.mem_of_getElem? (i := 13) rfl)
theorem mm_254 : Cond.instanceMethod yX12_parameters ∈ v_MOD := md_wi4 _ (List.mem_of_getElem? (i := 14) rfl)
theorem mm_255 : Cond.selects RX12 yX12_parameters yX12_parameters ∈ v_MOD := md_wi4 _ (List.mem_of_getElem? (i := 15) rfl)
theorem mm_256 : Cond.code yX12_parameters cX12_parameters 6 none ∈ v_MOD := md_wi4 _ (List.mem_of_getElem? (i := 16) rfl)
theorem mm_257 : Cond.methodLink RX12 620 yX12_row ∈ v_MOD := md_wi4 _ (List.mem_of_getElem? (i := 17) rfl)
theorem mm_258 : Cond.instanceMethod yX12_row ∈ v_MOD := md_wi4 _ (List.mem_of_getElem? (i := 18) rfl)
theorem mm_259 : Cond.selects RX12 yX12_row yX12_row ∈ v_MOD := md_wi4 _ (List.mem_of_getElem? (i := 19) rfl)
theorem mm_260 : Cond.code yX12_row cX12_row 3 (some .int) ∈ v_MOD := md_wi4 _ (List.mem_of_getElem? (i := 20) rfl)
theorem mm_261 : Cond.fieldLink RX12 78 "WardenHouseModel" "body" "[I" ∈ v_MOD := md_wi4 _ (List.mem_of_getElem? (i := 21) rfl)
theorem mm_262 : Cond.methodLink RX12 488 yX12_moduleOf ∈ v_MOD := md_wi4 _ (List.mem_of_getElem? (i := 22) rfl)
theorem mm_263 : Cond.instanceMethod yX12_moduleOf ∈ v_MOD := md_wi4 _ (List.mem_of_getElem? (i := 23) rfl)
theorem mm_264 : Cond.selects RX12 yX12_moduleOf yX12_moduleOf ∈ v_MOD := md_wi4 _ (List.mem_of_getElem? (i := 24) rfl)
theorem mm_265 : Cond.code yX12_moduleOf cX12_moduleOf 4 (some .int) ∈ v_MOD := md_wi4 _ (List.mem_of_getElem? (i := 25) rfl)
theorem mm_266 : Cond.fieldLink RX12 90 "WardenHouseModel" "capture" "[I" ∈ v_MOD := md_wi4 _ (List.mem_of_getElem? (i := 26) rfl)
theorem mm_267 : Cond.methodLink RX12 626 yX12_captures ∈ v_MOD := md_wi4 _ (List.mem_of_getElem? (i := 27) rfl)
theorem mm_268 : Cond.instanceMethod yX12_captures ∈ v_MOD := md_wi4 _ (List.mem_of_getElem? (i := 28) rfl)
theorem mm_269 : Cond.selects RX12 yX12_captures yX12_captures ∈ v_MOD := md_wi4 _ (List.mem_of_getElem? (i := 29) rfl)
theorem mm_270 : Cond.code yX12_captures cX12_captures 5 none ∈ v_MOD := md_wi4 _ (List.mem_of_getElem? (i := 30) rfl)
theorem mm_271 : Cond.methodLink RX12 605 yX12_simple ∈ v_MOD := md_wi4 _ (List.mem_of_getElem? (i := 31) rfl)
theorem mm_272 : Cond.instanceMethod yX12_simple ∈ v_MOD := md_wi4 _ (List.mem_of_getElem? (i := 32) rfl)
theorem mm_273 : Cond.selects RX12 yX12_simple yX12_simple ∈ v_MOD := md_wi4 _ (List.mem_of_getElem? (i := 33) rfl)
theorem mm_274 : Cond.code yX12_simple cX12_simple 5 (some .int) ∈ v_MOD := md_wi4 _ (List.mem_of_getElem? (i := 34) rfl)
theorem mm_275 : Cond.fieldLink RX12 449 "WardenHouseModel" "numbers" "I" ∈ v_MOD := md_wi4 _ (List.mem_of_getElem? (i := 35) rfl)
theorem mm_276 : Cond.fieldLink RX12 121 "WardenHouseModel" "number" "[I" ∈ v_MOD := md_wi4 _ (List.mem_of_getElem? (i := 36) rfl)
theorem mm_277 : Cond.methodLink RX12 623 yX12_numberOf ∈ v_MOD := md_wi4 _ (List.mem_of_getElem? (i := 37) rfl)
theorem mm_278 : Cond.instanceMethod yX12_numberOf ∈ v_MOD := md_wi4 _ (List.mem_of_getElem? (i := 38) rfl)
theorem mm_279 : Cond.selects RX12 yX12_numberOf yX12_numberOf ∈ v_MOD := md_wi4 _ (List.mem_of_getElem? (i := 39) rfl)
theorem mm_280 : Cond.code yX12_numberOf cX12_numberOf 3 (some .int) ∈ v_MOD := md_wi4 _ (List.mem_of_getElem? (i := 40) rfl)
theorem mm_281 : Cond.methodLink RX12 614 yX12_fun ∈ v_MOD := md_wi4 _ (List.mem_of_getElem? (i := 41) rfl)
theorem mm_282 : Cond.instanceMethod yX12_fun ∈ v_MOD := md_wi4 _ (List.mem_of_getElem? (i := 42) rfl)
theorem mm_283 : Cond.selects RX12 yX12_fun yX12_fun ∈ v_MOD := md_wi4 _ (List.mem_of_getElem? (i := 43) rfl)
theorem mm_284 : Cond.code yX12_fun cX12_fun 6 (some .int) ∈ v_MOD := md_wi4 _ (List.mem_of_getElem? (i := 44) rfl)
theorem mm_285 : Cond.methodLink RX12 611 yX12_newAtom ∈ v_MOD := md_wi4 _ (List.mem_of_getElem? (i := 45) rfl)
theorem mm_286 : Cond.instanceMethod yX12_newAtom ∈ v_MOD := md_wi4 _ (List.mem_of_getElem? (i := 46) rfl)
theorem mm_287 : Cond.selects RX12 yX12_newAtom yX12_newAtom ∈ v_MOD := md_wi4 _ (List.mem_of_getElem? (i := 47) rfl)
theorem mm_288 : Cond.code yX12_newAtom cX12_newAtom 3 (some .int) ∈ v_MOD := md_wi4 _ (List.mem_of_getElem? (i := 48) rfl)
theorem mm_289 : Cond.methodLink RX12 608 yX12_selfAtom ∈ v_MOD := md_wi4 _ (List.mem_of_getElem? (i := 49) rfl)
theorem mm_290 : Cond.instanceMethod yX12_selfAtom ∈ v_MOD := md_wi4 _ (List.mem_of_getElem? (i := 50) rfl)
theorem mm_291 : Cond.selects RX12 yX12_selfAtom yX12_selfAtom ∈ v_MOD := md_wi4 _ (List.mem_of_getElem? (i := 51) rfl)
theorem mm_292 : Cond.code yX12_selfAtom cX12_selfAtom 2 (some .int) ∈ v_MOD := md_wi4 _ (List.mem_of_getElem? (i := 52) rfl)
theorem mm_293 : Cond.methodLink RX12 602 yX12_variable ∈ v_MOD := md_wi4 _ (List.mem_of_getElem? (i := 53) rfl)
theorem mm_294 : Cond.instanceMethod yX12_variable ∈ v_MOD := md_wi4 _ (List.mem_of_getElem? (i := 54) rfl)
theorem mm_295 : Cond.selects RX12 yX12_variable yX12_variable ∈ v_MOD := md_wi4 _ (List.mem_of_getElem? (i := 55) rfl)
theorem mm_296 : Cond.code yX12_variable cX12_variable 3 (some .int) ∈ v_MOD := md_wi4 _ (List.mem_of_getElem? (i := 56) rfl)
theorem mm_297 : Cond.methodLink RX12 599 yX12_simpleNumber ∈ v_MOD := md_wi4 _ (List.mem_of_getElem? (i := 57) rfl)
theorem mm_298 : Cond.instanceMethod yX12_simpleNumber ∈ v_MOD := md_wi4 _ (List.mem_of_getElem? (i := 58) rfl)
theorem mm_299 : Cond.selects RX12 yX12_simpleNumber yX12_simpleNumber ∈ v_MOD := md_wi4 _ (List.mem_of_getElem? (i := 59) rfl)
theorem mm_300 : Cond.code yX12_simpleNumber cX12_simpleNumber 2 (some .int) ∈ v_MOD := md_wi5 _ (List.mem_of_getElem? (i := 0) rfl)
theorem mm_301 : Cond.methodLink RX12 617 yX12_asking ∈ v_MOD := md_wi5 _ (List.mem_of_getElem? (i := 1) rfl)
theorem mm_302 : Cond.instanceMethod yX12_asking ∈ v_MOD := md_wi5 _ (List.mem_of_getElem? (i := 2) rfl)
theorem mm_303 : Cond.selects RX12 yX12_asking yX12_asking ∈ v_MOD := md_wi5 _ (List.mem_of_getElem? (i := 3) rfl)
theorem mm_304 : Cond.code yX12_asking cX12_asking 3 (some .int) ∈ v_MOD := md_wi5 _ (List.mem_of_getElem? (i := 4) rfl)
theorem mm_305 : Cond.fieldLink RX12 452 "WardenHouseModel" "names" "I" ∈ v_MOD := md_wi5 _ (List.mem_of_getElem? (i := 5) rfl)
theorem mm_306 : Cond.methodLink RX12 596 yX12_nameOf ∈ v_MOD := md_wi5 _ (List.mem_of_getElem? (i := 6) rfl)
theorem mm_307 : Cond.instanceMethod yX12_nameOf ∈ v_MOD := md_wi5 _ (List.mem_of_getElem? (i := 7) rfl)
theorem mm_308 : Cond.selects RX12 yX12_nameOf yX12_nameOf ∈ v_MOD := md_wi5 _ (List.mem_of_getElem? (i := 8) rfl)
theorem mm_309 : Cond.code yX12_nameOf cX12_nameOf 4 (some .int) ∈ v_MOD := md_wi5 _ (List.mem_of_getElem? (i := 9) rfl)
theorem mm_310 : Cond.methodLink RX12 590 yX12_arguments ∈ v_MOD := md_wi5 _ (List.mem_of_getElem? (i := 10) rfl)
theorem mm_311 : Cond.instanceMethod yX12_arguments ∈ v_MOD := md_wi5 _ (List.mem_of_getElem? (i := 11) rfl)
theorem mm_312 : Cond.selects RX12 yX12_arguments yX12_arguments ∈ v_MOD := md_wi5 _ (List.mem_of_getElem? (i := 12) rfl)
theorem mm_313 : Cond.code yX12_arguments cX12_arguments 4 (some .int) ∈ v_MOD := md_wi5 _ (List.mem_of_getElem? (i := 13) rfl)
theorem mm_314 : Cond.methodLink RX12 572 yX12_innerPrefix ∈ v_MOD := md_wi5 _ (List.mem_of_getElem? (i := 14) rfl)
theorem mm_315 : Cond.instanceMethod yX12_innerPrefix ∈ v_MOD := md_wi5 _ (List.mem_of_getElem? (i := 15) rfl)
theorem mm_316 : Cond.selects RX12 yX12_innerPrefix yX12_innerPrefix ∈ v_MOD := md_wi5 _ (List.mem_of_getElem? (i := 16) rfl)
theorem mm_317 : Cond.code yX12_innerPrefix cX12_innerPrefix 2 (some .int) ∈ v_MOD := md_wi5 _ (List.mem_of_getElem? (i := 17) rfl)
theorem mm_318 : Cond.methodLink RX12 587 yX12_atom ∈ v_MOD := md_wi5 _ (List.mem_of_getElem? (i := 18) rfl)
theorem mm_319 : Cond.instanceMethod yX12_atom ∈ v_MOD := md_wi5 _ (List.mem_of_getElem? (i := 19) rfl)
theorem mm_320 : Cond.selects RX12 yX12_atom yX12_atom ∈ v_MOD := md_wi5 _ (List.mem_of_getElem? (i := 20) rfl)
theorem mm_321 : Cond.code yX12_atom cX12_atom 2 (some .int) ∈ v_MOD := md_wi5 _ (List.mem_of_getElem? (i := 21) rfl)
theorem mm_322 : Cond.methodLink RX12 593 yX12_dotted ∈ v_MOD := md_wi5 _ (List.mem_of_getElem? (i := 22) rfl)
theorem mm_323 : Cond.instanceMethod yX12_dotted ∈ v_MOD := md_wi5 _ (List.mem_of_getElem? (i := 23) rfl)
theorem mm_324 : Cond.selects RX12 yX12_dotted yX12_dotted ∈ v_MOD := md_wi5 _ (List.mem_of_getElem? (i := 24) rfl)
theorem mm_325 : Cond.code yX12_dotted cX12_dotted 5 (some .int) ∈ v_MOD := md_wi5 _ (List.mem_of_getElem? (i := 25) rfl)
theorem mm_326 : Cond.fieldLink RX12 431 "WardenHouseModel" "limits" "I" ∈ v_MOD := md_wi5 _ (List.mem_of_getElem? (i := 26) rfl)
theorem mm_327 : Cond.methodLink RX12 584 yX12_bodyOf ∈ v_MOD := md_wi5 _ (List.mem_of_getElem? (i := 27) rfl)
theorem mm_328 : Cond.instanceMethod yX12_bodyOf ∈ v_MOD := md_wi5 _ (List.mem_of_getElem? (i := 28) rfl)
theorem mm_329 : Cond.selects RX12 yX12_bodyOf yX12_bodyOf ∈ v_MOD := md_wi5 _ (List.mem_of_getElem? (i := 29) rfl)
theorem mm_330 : Cond.code yX12_bodyOf cX12_bodyOf 4 none ∈ v_MOD := md_wi5 _ (List.mem_of_getElem? (i := 30) rfl)
theorem mm_331 : Cond.methodLink RX12 581 yX12_postfix ∈ v_MOD := md_wi5 _ (List.mem_of_getElem? (i := 31) rfl)
theorem mm_332 : Cond.instanceMethod yX12_postfix ∈ v_MOD := md_wi5 _ (List.mem_of_getElem? (i := 32) rfl)
theorem mm_333 : Cond.selects RX12 yX12_postfix yX12_postfix ∈ v_MOD := md_wi5 _ (List.mem_of_getElem? (i := 33) rfl)
theorem mm_334 : Cond.code yX12_postfix cX12_postfix 4 (some .int) ∈ v_MOD := md_wi5 _ (List.mem_of_getElem? (i := 34) rfl)
theorem mm_335 : Cond.methodLink RX12 578 yX12_under ∈ v_MOD := md_wi5 _ (List.mem_of_getElem? (i := 35) rfl)
theorem mm_336 : Cond.instanceMethod yX12_under ∈ v_MOD := md_wi5 _ (List.mem_of_getElem? (i := 36) rfl)
theorem mm_337 : Cond.selects RX12 yX12_under yX12_under ∈ v_MOD := md_wi5 _ (List.mem_of_getElem? (i := 37) rfl)
theorem mm_338 : Cond.code yX12_under cX12_under 3 (some .int) ∈ v_MOD := md_wi5 _ (List.mem_of_getElem? (i := 38) rfl)
theorem mm_339 : Cond.methodLink RX12 575 yX12_priv ∈ v_MOD := md_wi5 _ (List.mem_of_getElem? (i := 39) rfl)
theorem mm_340 : Cond.instanceMethod yX12_priv ∈ v_MOD := md_wi5 _ (List.mem_of_getElem? (i := 40) rfl)
theorem mm_341 : Cond.selects RX12 yX12_priv yX12_priv ∈ v_MOD := md_wi5 _ (List.mem_of_getElem? (i := 41) rfl)
theorem mm_342 : Cond.code yX12_priv cX12_priv 5 (some .int) ∈ v_MOD := md_wi5 _ (List.mem_of_getElem? (i := 42) rfl)
theorem mm_343 : Cond.methodLink RX12 560 yX12_anyPrefix ∈ v_MOD := md_wi5 _ (List.mem_of_getElem? (i := 43) rfl)
theorem mm_344 : Cond.instanceMethod yX12_anyPrefix ∈ v_MOD := md_wi5 _ (List.mem_of_getElem? (i := 44) rfl)
theorem mm_345 : Cond.selects RX12 yX12_anyPrefix yX12_anyPrefix ∈ v_MOD := md_wi5 _ (List.mem_of_getElem? (i := 45) rfl)
theorem mm_346 : Cond.code yX12_anyPrefix cX12_anyPrefix 1 (some .int) ∈ v_MOD := md_wi5 _ (List.mem_of_getElem? (i := 46) rfl)
theorem mm_347 : Cond.methodLink RX12 546 yX12_operation ∈ v_MOD := md_wi5 _ (List.mem_of_getElem? (i := 47) rfl)
theorem mm_348 : Cond.instanceMethod yX12_operation ∈ v_MOD := md_wi5 _ (List.mem_of_getElem? (i := 48) rfl)
theorem mm_349 : Cond.selects RX12 yX12_operation yX12_operation ∈ v_MOD := md_wi5 _ (List.mem_of_getElem? (i := 49) rfl)
theorem mm_350 : Cond.code yX12_operation cX12_operation 4 (some .int) ∈ v_MOD := md_wi5 _ (List.mem_of_getElem? (i := 50) rfl)
theorem mm_351 : Cond.methodLink RX12 558 yX12_product ∈ v_MOD := md_wi5 _ (List.mem_of_getElem? (i := 51) rfl)
theorem mm_352 : Cond.instanceMethod yX12_product ∈ v_MOD := md_wi5 _ (List.mem_of_getElem? (i := 52) rfl)
theorem mm_353 : Cond.selects RX12 yX12_product yX12_product ∈ v_MOD := md_wi5 _ (List.mem_of_getElem? (i := 53) rfl)
theorem mm_354 : Cond.code yX12_product cX12_product 2 (some .int) ∈ v_MOD := md_wi5 _ (List.mem_of_getElem? (i := 54) rfl)
theorem mm_355 : Cond.methodLink RX12 543 yX12_sum ∈ v_MOD := md_wi5 _ (List.mem_of_getElem? (i := 55) rfl)
theorem mm_356 : Cond.instanceMethod yX12_sum ∈ v_MOD := md_wi5 _ (List.mem_of_getElem? (i := 56) rfl)
theorem mm_357 : Cond.selects RX12 yX12_sum yX12_sum ∈ v_MOD := md_wi5 _ (List.mem_of_getElem? (i := 57) rfl)
theorem mm_358 : Cond.code yX12_sum cX12_sum 2 (some .int) ∈ v_MOD := md_wi5 _ (List.mem_of_getElem? (i := 58) rfl)
theorem mm_359 : Cond.methodLink RX12 540 yX12_tryE ∈ v_MOD := md_wi5 _ (List.mem_of_getElem? (i := 59) rfl)
theorem mm_360 : Cond.instanceMethod yX12_tryE ∈ v_MOD := md_wi6 _ (List.mem_of_getElem? (i := 0) rfl)
theorem mm_361 : Cond.selects RX12 yX12_tryE yX12_tryE ∈ v_MOD := md_wi6 _ (List.mem_of_getElem? (i := 1) rfl)
theorem mm_362 : Cond.code yX12_tryE cX12_tryE 4 (some .int) ∈ v_MOD := md_wi6 _ (List.mem_of_getElem? (i := 2) rfl)
theorem mm_363 : Cond.methodLink RX12 537 yX12_ifE ∈ v_MOD := md_wi6 _ (List.mem_of_getElem? (i := 3) rfl)
theorem mm_364 : Cond.instanceMethod yX12_ifE ∈ v_MOD := md_wi6 _ (List.mem_of_getElem? (i := 4) rfl)
theorem mm_365 : Cond.selects RX12 yX12_ifE yX12_ifE ∈ v_MOD := md_wi6 _ (List.mem_of_getElem? (i := 5) rfl)
theorem mm_366 : Cond.code yX12_ifE cX12_ifE 2 (some .int) ∈ v_MOD := md_wi6 _ (List.mem_of_getElem? (i := 6) rfl)
theorem mm_367 : Cond.methodLink RX12 534 yX12_letE ∈ v_MOD := md_wi6 _ (List.mem_of_getElem? (i := 7) rfl)
theorem mm_368 : Cond.instanceMethod yX12_letE ∈ v_MOD := md_wi6 _ (List.mem_of_getElem? (i := 8) rfl)
theorem mm_369 : Cond.selects RX12 yX12_letE yX12_letE ∈ v_MOD := md_wi6 _ (List.mem_of_getElem? (i := 9) rfl)
theorem mm_370 : Cond.code yX12_letE cX12_letE 4 (some .int) ∈ v_MOD := md_wi6 _ (List.mem_of_getElem? (i := 10) rfl)
theorem mm_371 : Cond.methodLink RX12 528 yX12_wholeE ∈ v_MOD := md_wi6 _ (List.mem_of_getElem? (i := 11) rfl)
theorem mm_372 : Cond.instanceMethod yX12_wholeE ∈ v_MOD := md_wi6 _ (List.mem_of_getElem? (i := 12) rfl)
theorem mm_373 : Cond.selects RX12 yX12_wholeE yX12_wholeE ∈ v_MOD := md_wi6 _ (List.mem_of_getElem? (i := 13) rfl)
theorem mm_374 : Cond.code yX12_wholeE cX12_wholeE 2 (some .int) ∈ v_MOD := md_wi6 _ (List.mem_of_getElem? (i := 14) rfl)
theorem mm_375 : Cond.fieldLink RX12 51 "WardenHouseModel" "methods" "[I" ∈ v_MOD := md_wi6 _ (List.mem_of_getElem? (i := 15) rfl)
theorem mm_376 : Cond.fieldLink RX12 54 "WardenHouseModel" "method" "[I" ∈ v_MOD := md_wi6 _ (List.mem_of_getElem? (i := 16) rfl)
theorem mm_377 : Cond.methodLink RX12 491 yX12_readField ∈ v_MOD := md_wi6 _ (List.mem_of_getElem? (i := 17) rfl)
theorem mm_378 : Cond.instanceMethod yX12_readField ∈ v_MOD := md_wi6 _ (List.mem_of_getElem? (i := 18) rfl)
theorem mm_379 : Cond.selects RX12 yX12_readField yX12_readField ∈ v_MOD := md_wi6 _ (List.mem_of_getElem? (i := 19) rfl)
theorem mm_380 : Cond.code yX12_readField cX12_readField 2 none ∈ v_MOD := md_wi6 _ (List.mem_of_getElem? (i := 20) rfl)
theorem mm_381 : Cond.methodLink RX12 494 yX12_readMethod ∈ v_MOD := md_wi6 _ (List.mem_of_getElem? (i := 21) rfl)
theorem mm_382 : Cond.instanceMethod yX12_readMethod ∈ v_MOD := md_wi6 _ (List.mem_of_getElem? (i := 22) rfl)
theorem mm_383 : Cond.selects RX12 yX12_readMethod yX12_readMethod ∈ v_MOD := md_wi6 _ (List.mem_of_getElem? (i := 23) rfl)
theorem mm_384 : Cond.code yX12_readMethod cX12_readMethod 7 none ∈ v_MOD := md_wi6 _ (List.mem_of_getElem? (i := 24) rfl)
theorem mm_385 : Cond.methodLink RX12 473 yX12_grant ∈ v_MOD := md_wi6 _ (List.mem_of_getElem? (i := 25) rfl)
theorem mm_386 : Cond.instanceMethod yX12_grant ∈ v_MOD := md_wi6 _ (List.mem_of_getElem? (i := 26) rfl)
theorem mm_387 : Cond.selects RX12 yX12_grant yX12_grant ∈ v_MOD := md_wi6 _ (List.mem_of_getElem? (i := 27) rfl)
theorem mm_388 : Cond.code yX12_grant cX12_grant 1 none ∈ v_MOD := md_wi6 _ (List.mem_of_getElem? (i := 28) rfl)
theorem mm_389 : Cond.methodLink RX12 476 yX12_readModule ∈ v_MOD := md_wi6 _ (List.mem_of_getElem? (i := 29) rfl)
theorem mm_390 : Cond.instanceMethod yX12_readModule ∈ v_MOD := md_wi6 _ (List.mem_of_getElem? (i := 30) rfl)
theorem mm_391 : Cond.selects RX12 yX12_readModule yX12_readModule ∈ v_MOD := md_wi6 _ (List.mem_of_getElem? (i := 31) rfl)
theorem mm_392 : Cond.code yX12_readModule cX12_readModule 2 none ∈ v_MOD := md_wi6 _ (List.mem_of_getElem? (i := 32) rfl)
theorem mm_393 : Cond.fieldLink RX12 149 "WardenHouseModel" "code" "[B" ∈ v_MOD := md_wi6 _ (List.mem_of_getElem? (i := 33) rfl)
theorem mm_394 : Cond.fieldLink RX12 644 "WardenHouseModel" "written" "I" ∈ v_MOD := md_wi6 _ (List.mem_of_getElem? (i := 34) rfl)
theorem mm_395 : Cond.methodLink RX12 647 yX12_put ∈ v_MOD := md_wi6 _ (List.mem_of_getElem? (i := 35) rfl)
theorem mm_396 : Cond.instanceMethod yX12_put ∈ v_MOD := md_wi6 _ (List.mem_of_getElem? (i := 36) rfl)
theorem mm_397 : Cond.selects RX12 yX12_put yX12_put ∈ v_MOD := md_wi6 _ (List.mem_of_getElem? (i := 37) rfl)
theorem mm_398 : Cond.code yX12_put cX12_put 2 none ∈ v_MOD := md_wi6 _ (List.mem_of_getElem? (i := 38) rfl)
theorem mm_399 : Cond.methodLink RX12 650 yX12_putNumber ∈ v_MOD := md_wi6 _ (List.mem_of_getElem? (i := 39) rfl)
theorem mm_400 : Cond.instanceMethod yX12_putNumber ∈ v_MOD := md_wi6 _ (List.mem_of_getElem? (i := 40) rfl)
theorem mm_401 : Cond.selects RX12 yX12_putNumber yX12_putNumber ∈ v_MOD := md_wi6 _ (List.mem_of_getElem? (i := 41) rfl)
theorem mm_402 : Cond.code yX12_putNumber cX12_putNumber 2 none ∈ v_MOD := md_wi6 _ (List.mem_of_getElem? (i := 42) rfl)
theorem mm_403 : Cond.methodLink RX12 665 yX12_put_ ∈ v_MOD := md_wi6 _ (List.mem_of_getElem? (i := 43) rfl)
theorem mm_404 : Cond.instanceMethod yX12_put_ ∈ v_MOD := md_wi6 _ (List.mem_of_getElem? (i := 44) rfl)
theorem mm_405 : Cond.selects RX12 yX12_put_ yX12_put_ ∈ v_MOD := md_wi6 _ (List.mem_of_getElem? (i := 45) rfl)
theorem mm_406 : Cond.code yX12_put_ cX12_put_ 3 none ∈ v_MOD := md_wi6 _ (List.mem_of_getElem? (i := 46) rfl)
theorem mm_407 : Cond.constantLong RX12 667 (11) ∈ v_MOD := md_wi6 _ (List.mem_of_getElem? (i := 47) rfl)
theorem mm_408 : Cond.constantLong RX12 669 (15) ∈ v_MOD := md_wi6 _ (List.mem_of_getElem? (i := 48) rfl)
theorem mm_409 : Cond.fieldLink RX12 656 "WardenHouseModel" "rewrites" "Z" ∈ v_MOD := md_wi6 _ (List.mem_of_getElem? (i := 49) rfl)
theorem mm_410 : Cond.fieldLink RX12 653 "WardenHouseModel" "codeUnit" "I" ∈ v_MOD := md_wi6 _ (List.mem_of_getElem? (i := 50) rfl)
theorem mm_411 : Cond.methodLink RX12 680 yX12_localsOf ∈ v_MOD := md_wi6 _ (List.mem_of_getElem? (i := 51) rfl)
theorem mm_412 : Cond.instanceMethod yX12_localsOf ∈ v_MOD := md_wi6 _ (List.mem_of_getElem? (i := 52) rfl)
theorem mm_413 : Cond.selects RX12 yX12_localsOf yX12_localsOf ∈ v_MOD := md_wi6 _ (List.mem_of_getElem? (i := 53) rfl)
theorem mm_414 : Cond.code yX12_localsOf cX12_localsOf 2 (some .int) ∈ v_MOD := md_wi6 _ (List.mem_of_getElem? (i := 54) rfl)
theorem mm_415 : Cond.fieldLink RX12 153 "WardenHouseModel" "codeFrom" "[I" ∈ v_MOD := md_wi6 _ (List.mem_of_getElem? (i := 55) rfl)
theorem mm_416 : Cond.methodLink RX12 698 yX12_codeBegin ∈ v_MOD := md_wi6 _ (List.mem_of_getElem? (i := 56) rfl)
theorem mm_417 : Cond.instanceMethod yX12_codeBegin ∈ v_MOD := md_wi6 _ (List.mem_of_getElem? (i := 57) rfl)
theorem mm_418 : Cond.selects RX12 yX12_codeBegin yX12_codeBegin ∈ v_MOD := md_wi6 _ (List.mem_of_getElem? (i := 58) rfl)
theorem mm_419 : Cond.code yX12_codeBegin cX12_codeBegin 1 (some .int) ∈ v_MOD := md_wi6 _ (List.mem_of_getElem? (i := 59) rfl)
theorem mm_420 : Cond.methodLink RX12 662 yX12_write ∈ v_MOD := md_wi7 _ (List.mem_of_getElem? (i := 0) rfl)
theorem mm_421 : Cond.instanceMethod yX12_write ∈ v_MOD := md_wi7 _ (List.mem_of_getElem? (i := 1) rfl)
theorem mm_422 : Cond.selects RX12 yX12_write yX12_write ∈ v_MOD := md_wi7 _ (List.mem_of_getElem? (i := 2) rfl)
theorem mm_423 : Cond.code yX12_write cX12_write 4 none ∈ v_MOD := md_wi7 _ (List.mem_of_getElem? (i := 3) rfl)
theorem mm_424 : Cond.methodLink RX12 701 yX12_gap ∈ v_MOD := md_wi7 _ (List.mem_of_getElem? (i := 4) rfl)
theorem mm_425 : Cond.instanceMethod yX12_gap ∈ v_MOD := md_wi7 _ (List.mem_of_getElem? (i := 5) rfl)
theorem mm_426 : Cond.selects RX12 yX12_gap yX12_gap ∈ v_MOD := md_wi7 _ (List.mem_of_getElem? (i := 6) rfl)
theorem mm_427 : Cond.code yX12_gap cX12_gap 2 (some .int) ∈ v_MOD := md_wi7 _ (List.mem_of_getElem? (i := 7) rfl)
theorem mm_428 : Cond.methodLink RX12 704 yX12_fill ∈ v_MOD := md_wi7 _ (List.mem_of_getElem? (i := 8) rfl)
theorem mm_429 : Cond.instanceMethod yX12_fill ∈ v_MOD := md_wi7 _ (List.mem_of_getElem? (i := 9) rfl)
theorem mm_430 : Cond.selects RX12 yX12_fill yX12_fill ∈ v_MOD := md_wi7 _ (List.mem_of_getElem? (i := 10) rfl)
theorem mm_431 : Cond.code yX12_fill cX12_fill 3 none ∈ v_MOD := md_wi7 _ (List.mem_of_getElem? (i := 11) rfl)
theorem mm_432 : Cond.methodLink RX12 686 yX12_localOf ∈ v_MOD := md_wi7 _ (List.mem_of_getElem? (i := 12) rfl)
theorem mm_433 : Cond.instanceMethod yX12_localOf ∈ v_MOD := md_wi7 _ (List.mem_of_getElem? (i := 13) rfl)
theorem mm_434 : Cond.selects RX12 yX12_localOf yX12_localOf ∈ v_MOD := md_wi7 _ (List.mem_of_getElem? (i := 14) rfl)
theorem mm_435 : Cond.code yX12_localOf cX12_localOf 4 (some .int) ∈ v_MOD := md_wi7 _ (List.mem_of_getElem? (i := 15) rfl)
theorem mm_436 : Cond.methodLink RX12 683 yX12_begins ∈ v_MOD := md_wi7 _ (List.mem_of_getElem? (i := 16) rfl)
theorem mm_437 : Cond.instanceMethod yX12_begins ∈ v_MOD := md_wi7 _ (List.mem_of_getElem? (i := 17) rfl)
theorem mm_438 : Cond.selects RX12 yX12_begins yX12_begins ∈ v_MOD := md_wi7 _ (List.mem_of_getElem? (i := 18) rfl)
theorem mm_439 : Cond.code yX12_begins cX12_begins 3 none ∈ v_MOD := md_wi7 _ (List.mem_of_getElem? (i := 19) rfl)
theorem mm_440 : Cond.methodLink RX12 689 yX12_writeUnit ∈ v_MOD := md_wi7 _ (List.mem_of_getElem? (i := 20) rfl)
theorem mm_441 : Cond.instanceMethod yX12_writeUnit ∈ v_MOD := md_wi7 _ (List.mem_of_getElem? (i := 21) rfl)
theorem mm_442 : Cond.selects RX12 yX12_writeUnit yX12_writeUnit ∈ v_MOD := md_wi7 _ (List.mem_of_getElem? (i := 22) rfl)
theorem mm_443 : Cond.code yX12_writeUnit cX12_writeUnit 4 none ∈ v_MOD := md_wi7 _ (List.mem_of_getElem? (i := 23) rfl)
theorem mm_444 : Cond.methodLink RX12 695 yX12_writeTry ∈ v_MOD := md_wi7 _ (List.mem_of_getElem? (i := 24) rfl)
theorem mm_445 : Cond.instanceMethod yX12_writeTry ∈ v_MOD := md_wi7 _ (List.mem_of_getElem? (i := 25) rfl)
theorem mm_446 : Cond.selects RX12 yX12_writeTry yX12_writeTry ∈ v_MOD := md_wi7 _ (List.mem_of_getElem? (i := 26) rfl)
theorem mm_447 : Cond.code yX12_writeTry cX12_writeTry 5 none ∈ v_MOD := md_wi7 _ (List.mem_of_getElem? (i := 27) rfl)
theorem mm_448 : Cond.methodLink RX12 692 yX12_writeIf ∈ v_MOD := md_wi7 _ (List.mem_of_getElem? (i := 28) rfl)
theorem mm_449 : Cond.instanceMethod yX12_writeIf ∈ v_MOD := md_wi7 _ (List.mem_of_getElem? (i := 29) rfl)
theorem mm_450 : Cond.selects RX12 yX12_writeIf yX12_writeIf ∈ v_MOD := md_wi7 _ (List.mem_of_getElem? (i := 30) rfl)
theorem mm_451 : Cond.code yX12_writeIf cX12_writeIf 4 none ∈ v_MOD := md_wi7 _ (List.mem_of_getElem? (i := 31) rfl)
theorem mm_452 : Cond.methodLink RX12 671 yX12_isSpine ∈ v_MOD := md_wi7 _ (List.mem_of_getElem? (i := 32) rfl)
theorem mm_453 : Cond.static yX12_isSpine ∈ v_MOD := md_wi7 _ (List.mem_of_getElem? (i := 33) rfl)
theorem mm_454 : Cond.code yX12_isSpine cX12_isSpine 1 (some .boolean) ∈ v_MOD := md_wi7 _ (List.mem_of_getElem? (i := 34) rfl)
theorem mm_455 : Cond.methodLink RX12 674 yX12_writeOne ∈ v_MOD := md_wi7 _ (List.mem_of_getElem? (i := 35) rfl)
theorem mm_456 : Cond.instanceMethod yX12_writeOne ∈ v_MOD := md_wi7 _ (List.mem_of_getElem? (i := 36) rfl)
theorem mm_457 : Cond.selects RX12 yX12_writeOne yX12_writeOne ∈ v_MOD := md_wi7 _ (List.mem_of_getElem? (i := 37) rfl)
theorem mm_458 : Cond.code yX12_writeOne cX12_writeOne 4 none ∈ v_MOD := md_wi7 _ (List.mem_of_getElem? (i := 38) rfl)
theorem mm_459 : Cond.methodLink RX12 677 yX12_writeSpine ∈ v_MOD := md_wi7 _ (List.mem_of_getElem? (i := 39) rfl)
theorem mm_460 : Cond.instanceMethod yX12_writeSpine ∈ v_MOD := md_wi7 _ (List.mem_of_getElem? (i := 40) rfl)
theorem mm_461 : Cond.selects RX12 yX12_writeSpine yX12_writeSpine ∈ v_MOD := md_wi7 _ (List.mem_of_getElem? (i := 41) rfl)
theorem mm_462 : Cond.code yX12_writeSpine cX12_writeSpine 3 none ∈ v_MOD := md_wi7 _ (List.mem_of_getElem? (i := 42) rfl)
theorem mm_463 : Cond.methodLink RX12 659 yX12_opening ∈ v_MOD := md_wi7 _ (List.mem_of_getElem? (i := 43) rfl)
theorem mm_464 : Cond.instanceMethod yX12_opening ∈ v_MOD := md_wi7 _ (List.mem_of_getElem? (i := 44) rfl)
theorem mm_465 : Cond.selects RX12 yX12_opening yX12_opening ∈ v_MOD := md_wi7 _ (List.mem_of_getElem? (i := 45) rfl)
theorem mm_466 : Cond.code yX12_opening cX12_opening 3 none ∈ v_MOD := md_wi7 _ (List.mem_of_getElem? (i := 46) rfl)
theorem mm_467 : Cond.fieldLink RX12 156 "WardenHouseModel" "codeTo" "[I" ∈ v_MOD := md_wi7 _ (List.mem_of_getElem? (i := 47) rfl)
theorem mm_468 : Cond.fieldLink RX12 424 "WardenHouseModel" "hasRun" "Z" ∈ v_MOD := md_wi7 _ (List.mem_of_getElem? (i := 48) rfl)
theorem mm_469 : Cond.fieldLink RX12 428 "WardenHouseModel" "hasProgram" "Z" ∈ v_MOD := md_wi7 _ (List.mem_of_getElem? (i := 49) rfl)
theorem mm_470 : Cond.methodLink RX12 461 yX12_readAll ∈ v_MOD := md_wi7 _ (List.mem_of_getElem? (i := 50) rfl)
theorem mm_471 : Cond.instanceMethod yX12_readAll ∈ v_MOD := md_wi7 _ (List.mem_of_getElem? (i := 51) rfl)
theorem mm_472 : Cond.selects RX12 yX12_readAll yX12_readAll ∈ v_MOD := md_wi7 _ (List.mem_of_getElem? (i := 52) rfl)
theorem mm_473 : Cond.code yX12_readAll cX12_readAll 1 none ∈ v_MOD := md_wi7 _ (List.mem_of_getElem? (i := 53) rfl)
theorem mm_474 : Cond.methodLink RX12 464 yX12_findDomains ∈ v_MOD := md_wi7 _ (List.mem_of_getElem? (i := 54) rfl)
theorem mm_475 : Cond.instanceMethod yX12_findDomains ∈ v_MOD := md_wi7 _ (List.mem_of_getElem? (i := 55) rfl)
theorem mm_476 : Cond.selects RX12 yX12_findDomains yX12_findDomains ∈ v_MOD := md_wi7 _ (List.mem_of_getElem? (i := 56) rfl)
theorem mm_477 : Cond.code yX12_findDomains cX12_findDomains 4 none ∈ v_MOD := md_wi7 _ (List.mem_of_getElem? (i := 57) rfl)
theorem mm_478 : Cond.methodLink RX12 467 yX12_findNeeds ∈ v_MOD := md_wi7 _ (List.mem_of_getElem? (i := 58) rfl)
theorem mm_479 : Cond.instanceMethod yX12_findNeeds ∈ v_MOD := md_wi7 _ (List.mem_of_getElem? (i := 59) rfl)
theorem mm_480 : Cond.selects RX12 yX12_findNeeds yX12_findNeeds ∈ v_MOD := md_wi8 _ (List.mem_of_getElem? (i := 0) rfl)
theorem mm_481 : Cond.code yX12_findNeeds cX12_findNeeds 4 none ∈ v_MOD := md_wi8 _ (List.mem_of_getElem? (i := 1) rfl)
theorem mm_482 : Cond.methodLink RX12 470 yX12_writeAll ∈ v_MOD := md_wi8 _ (List.mem_of_getElem? (i := 2) rfl)
theorem mm_483 : Cond.instanceMethod yX12_writeAll ∈ v_MOD := md_wi8 _ (List.mem_of_getElem? (i := 3) rfl)
theorem mm_484 : Cond.selects RX12 yX12_writeAll yX12_writeAll ∈ v_MOD := md_wi8 _ (List.mem_of_getElem? (i := 4) rfl)
theorem mm_485 : Cond.code yX12_writeAll cX12_writeAll 3 none ∈ v_MOD := md_wi8 _ (List.mem_of_getElem? (i := 5) rfl)
theorem mm_486 : Cond.constantLong RX12 707 (8) ∈ v_MOD := md_wi8 _ (List.mem_of_getElem? (i := 6) rfl)
theorem mm_487 : Cond.fieldLink RX12 159 "WardenHouseModel" "counts" "[I" ∈ v_MOD := md_wi8 _ (List.mem_of_getElem? (i := 7) rfl)
theorem mm_488 : Cond.methodLink RX12 709 yX12_isUnit ∈ v_MOD := md_wi8 _ (List.mem_of_getElem? (i := 8) rfl)
theorem mm_489 : Cond.instanceMethod yX12_isUnit ∈ v_MOD := md_wi8 _ (List.mem_of_getElem? (i := 9) rfl)
theorem mm_490 : Cond.selects RX12 yX12_isUnit yX12_isUnit ∈ v_MOD := md_wi8 _ (List.mem_of_getElem? (i := 10) rfl)
theorem mm_491 : Cond.code yX12_isUnit cX12_isUnit 2 (some .boolean) ∈ v_MOD := md_wi8 _ (List.mem_of_getElem? (i := 11) rfl)
theorem mm_492 : Cond.fieldLink RX12 712 "WardenHouseModel" "askedKind" "J" ∈ v_MOD := md_wi8 _ (List.mem_of_getElem? (i := 12) rfl)
theorem mm_493 : Cond.fieldLink RX12 715 "WardenHouseModel" "isAsked" "Z" ∈ v_MOD := md_wi8 _ (List.mem_of_getElem? (i := 13) rfl)
theorem mm_494 : Cond.methodLink RX12 721 yX12_hasDomain ∈ v_MOD := md_wi8 _ (List.mem_of_getElem? (i := 14) rfl)
theorem mm_495 : Cond.instanceMethod yX12_hasDomain ∈ v_MOD := md_wi8 _ (List.mem_of_getElem? (i := 15) rfl)
theorem mm_496 : Cond.selects RX12 yX12_hasDomain yX12_hasDomain ∈ v_MOD := md_wi8 _ (List.mem_of_getElem? (i := 16) rfl)
theorem mm_497 : Cond.code yX12_hasDomain cX12_hasDomain 6 (some .boolean) ∈ v_MOD := md_wi8 _ (List.mem_of_getElem? (i := 17) rfl)
theorem mm_498 : Cond.methodLink RX12 718 yX12_hasLimit ∈ v_MOD := md_wi8 _ (List.mem_of_getElem? (i := 18) rfl)
theorem mm_499 : Cond.instanceMethod yX12_hasLimit ∈ v_MOD := md_wi8 _ (List.mem_of_getElem? (i := 19) rfl)
theorem mm_500 : Cond.selects RX12 yX12_hasLimit yX12_hasLimit ∈ v_MOD := md_wi8 _ (List.mem_of_getElem? (i := 20) rfl)
theorem mm_501 : Cond.code yX12_hasLimit cX12_hasLimit 5 (some .boolean) ∈ v_MOD := md_wi8 _ (List.mem_of_getElem? (i := 21) rfl)
theorem mm_502 : Cond.fieldLink RX12 724 "WardenHouseModel" "askedBits" "I" ∈ v_MOD := md_wi8 _ (List.mem_of_getElem? (i := 22) rfl)
theorem mm_503 : Cond.fieldLink RX12 162 "WardenHouseModel" "may" "[I" ∈ v_MOD := md_wi8 _ (List.mem_of_getElem? (i := 23) rfl)
theorem mm_504 : Cond.fieldLink RX12 734 "WardenHouseModel" "mayContext" "I" ∈ v_MOD := md_wi8 _ (List.mem_of_getElem? (i := 24) rfl)
theorem mm_505 : Cond.methodLink RX12 727 yX12_own ∈ v_MOD := md_wi8 _ (List.mem_of_getElem? (i := 25) rfl)
theorem mm_506 : Cond.instanceMethod yX12_own ∈ v_MOD := md_wi8 _ (List.mem_of_getElem? (i := 26) rfl)
theorem mm_507 : Cond.selects RX12 yX12_own yX12_own ∈ v_MOD := md_wi8 _ (List.mem_of_getElem? (i := 27) rfl)
theorem mm_508 : Cond.code yX12_own cX12_own 2 (some .boolean) ∈ v_MOD := md_wi8 _ (List.mem_of_getElem? (i := 28) rfl)
theorem mm_509 : Cond.methodLink RX12 730 yX12_adds ∈ v_MOD := md_wi8 _ (List.mem_of_getElem? (i := 29) rfl)
theorem mm_510 : Cond.instanceMethod yX12_adds ∈ v_MOD := md_wi8 _ (List.mem_of_getElem? (i := 30) rfl)
theorem mm_511 : Cond.selects RX12 yX12_adds yX12_adds ∈ v_MOD := md_wi8 _ (List.mem_of_getElem? (i := 31) rfl)
theorem mm_512 : Cond.code yX12_adds cX12_adds 5 (some .boolean) ∈ v_MOD := md_wi8 _ (List.mem_of_getElem? (i := 32) rfl)
theorem mm_513 : Cond.methodLink RX12 737 yX12_bitsOf ∈ v_MOD := md_wi8 _ (List.mem_of_getElem? (i := 33) rfl)
theorem mm_514 : Cond.instanceMethod yX12_bitsOf ∈ v_MOD := md_wi8 _ (List.mem_of_getElem? (i := 34) rfl)
theorem mm_515 : Cond.selects RX12 yX12_bitsOf yX12_bitsOf ∈ v_MOD := md_wi8 _ (List.mem_of_getElem? (i := 35) rfl)
theorem mm_516 : Cond.code yX12_bitsOf cX12_bitsOf 6 (some .int) ∈ v_MOD := md_wi8 _ (List.mem_of_getElem? (i := 36) rfl)
theorem mm_517 : Cond.methodLink RX12 741 yX12_goesOn ∈ v_MOD := md_wi8 _ (List.mem_of_getElem? (i := 37) rfl)
theorem mm_518 : Cond.instanceMethod yX12_goesOn ∈ v_MOD := md_wi8 _ (List.mem_of_getElem? (i := 38) rfl)
theorem mm_519 : Cond.selects RX12 yX12_goesOn yX12_goesOn ∈ v_MOD := md_wi8 _ (List.mem_of_getElem? (i := 39) rfl)
theorem mm_520 : Cond.code yX12_goesOn cX12_goesOn 7 (some .boolean) ∈ v_MOD := md_wi8 _ (List.mem_of_getElem? (i := 40) rfl)
theorem mm_521 : Cond.fieldLink RX12 744 "WardenHouseModel" "madeMany" "I" ∈ v_MOD := md_wi8 _ (List.mem_of_getElem? (i := 41) rfl)
theorem mm_522 : Cond.fieldLink RX12 262 "WardenHouseModel" "made" "[I" ∈ v_MOD := md_wi8 _ (List.mem_of_getElem? (i := 42) rfl)
theorem mm_523 : Cond.fieldLink RX12 747 "WardenHouseModel" "contexts" "I" ∈ v_MOD := md_wi8 _ (List.mem_of_getElem? (i := 43) rfl)
theorem mm_524 : Cond.fieldLink RX12 255 "WardenHouseModel" "productMany" "[I" ∈ v_MOD := md_wi8 _ (List.mem_of_getElem? (i := 44) rfl)
theorem mm_525 : Cond.fieldLink RX12 259 "WardenHouseModel" "product" "[I" ∈ v_MOD := md_wi8 _ (List.mem_of_getElem? (i := 45) rfl)
theorem mm_526 : Cond.methodLink RX12 750 yX12_addProduct ∈ v_MOD := md_wi8 _ (List.mem_of_getElem? (i := 46) rfl)
theorem mm_527 : Cond.instanceMethod yX12_addProduct ∈ v_MOD := md_wi8 _ (List.mem_of_getElem? (i := 47) rfl)
theorem mm_528 : Cond.selects RX12 yX12_addProduct yX12_addProduct ∈ v_MOD := md_wi8 _ (List.mem_of_getElem? (i := 48) rfl)
theorem mm_529 : Cond.code yX12_addProduct cX12_addProduct 4 none ∈ v_MOD := md_wi8 _ (List.mem_of_getElem? (i := 49) rfl)
theorem mm_530 : Cond.methodLink RX12 753 yX12_keepMade ∈ v_MOD := md_wi8 _ (List.mem_of_getElem? (i := 50) rfl)
theorem mm_531 : Cond.instanceMethod yX12_keepMade ∈ v_MOD := md_wi8 _ (List.mem_of_getElem? (i := 51) rfl)
theorem mm_532 : Cond.selects RX12 yX12_keepMade yX12_keepMade ∈ v_MOD := md_wi8 _ (List.mem_of_getElem? (i := 52) rfl)
theorem mm_533 : Cond.code yX12_keepMade cX12_keepMade 4 (some .int) ∈ v_MOD := md_wi8 _ (List.mem_of_getElem? (i := 53) rfl)
theorem mm_534 : Cond.fieldLink RX12 756 "WardenHouseModel" "looked" "I" ∈ v_MOD := md_wi8 _ (List.mem_of_getElem? (i := 54) rfl)
theorem mm_535 : Cond.fieldLink RX12 181 "WardenHouseModel" "frameUnit" "[I" ∈ v_MOD := md_wi8 _ (List.mem_of_getElem? (i := 55) rfl)
theorem mm_536 : Cond.fieldLink RX12 184 "WardenHouseModel" "below" "[I" ∈ v_MOD := md_wi8 _ (List.mem_of_getElem? (i := 56) rfl)
theorem mm_537 : Cond.fieldLink RX12 187 "WardenHouseModel" "given" "[I" ∈ v_MOD := md_wi8 _ (List.mem_of_getElem? (i := 57) rfl)
theorem mm_538 : Cond.fieldLink RX12 759 "WardenHouseModel" "me" "I" ∈ v_MOD := md_wi8 _ (List.mem_of_getElem? (i := 58) rfl)
theorem mm_539 : Cond.fieldLink RX12 205 "WardenHouseModel" "deep" "[I" ∈ v_MOD := md_wi8 _ (List.mem_of_getElem? (i := 59) rfl)
theorem mm_540 : Cond.fieldLink RX12 233 "WardenHouseModel" "top" "[I" ∈ v_MOD := md_wi9 _ (List.mem_of_getElem? (i := 0) rfl)
theorem mm_541 : Cond.fieldLink RX12 237 "WardenHouseModel" "stackSort" "[I" ∈ v_MOD := md_wi9 _ (List.mem_of_getElem? (i := 1) rfl)
theorem mm_542 : Cond.fieldLink RX12 240 "WardenHouseModel" "stack" "[I" ∈ v_MOD := md_wi9 _ (List.mem_of_getElem? (i := 2) rfl)
theorem mm_543 : Cond.fieldLink RX12 762 "WardenHouseModel" "popped" "I" ∈ v_MOD := md_wi9 _ (List.mem_of_getElem? (i := 3) rfl)
theorem mm_544 : Cond.fieldLink RX12 765 "WardenHouseModel" "events" "I" ∈ v_MOD := md_wi9 _ (List.mem_of_getElem? (i := 4) rfl)
theorem mm_545 : Cond.fieldLink RX12 165 "WardenHouseModel" "event" "[I" ∈ v_MOD := md_wi9 _ (List.mem_of_getElem? (i := 5) rfl)
theorem mm_546 : Cond.fieldLink RX12 243 "WardenHouseModel" "tries" "[I" ∈ v_MOD := md_wi9 _ (List.mem_of_getElem? (i := 6) rfl)
theorem mm_547 : Cond.fieldLink RX12 246 "WardenHouseModel" "tryDeep" "[I" ∈ v_MOD := md_wi9 _ (List.mem_of_getElem? (i := 7) rfl)
theorem mm_548 : Cond.fieldLink RX12 249 "WardenHouseModel" "tryTop" "[I" ∈ v_MOD := md_wi9 _ (List.mem_of_getElem? (i := 8) rfl)
theorem mm_549 : Cond.fieldLink RX12 223 "WardenHouseModel" "localTop" "[I" ∈ v_MOD := md_wi9 _ (List.mem_of_getElem? (i := 9) rfl)
theorem mm_550 : Cond.fieldLink RX12 214 "WardenHouseModel" "fLocals" "[I" ∈ v_MOD := md_wi9 _ (List.mem_of_getElem? (i := 10) rfl)
theorem mm_551 : Cond.methodLink RX12 775 yX12_frameAt ∈ v_MOD := md_wi9 _ (List.mem_of_getElem? (i := 11) rfl)
theorem mm_552 : Cond.instanceMethod yX12_frameAt ∈ v_MOD := md_wi9 _ (List.mem_of_getElem? (i := 12) rfl)
theorem mm_553 : Cond.selects RX12 yX12_frameAt yX12_frameAt ∈ v_MOD := md_wi9 _ (List.mem_of_getElem? (i := 13) rfl)
theorem mm_554 : Cond.code yX12_frameAt cX12_frameAt 1 (some .int) ∈ v_MOD := md_wi9 _ (List.mem_of_getElem? (i := 14) rfl)
theorem mm_555 : Cond.fieldLink RX12 208 "WardenHouseModel" "fUnit" "[I" ∈ v_MOD := md_wi9 _ (List.mem_of_getElem? (i := 15) rfl)
theorem mm_556 : Cond.fieldLink RX12 211 "WardenHouseModel" "fAt" "[I" ∈ v_MOD := md_wi9 _ (List.mem_of_getElem? (i := 16) rfl)
theorem mm_557 : Cond.fieldLink RX12 252 "WardenHouseModel" "tryPlace" "[I" ∈ v_MOD := md_wi9 _ (List.mem_of_getElem? (i := 17) rfl)
theorem mm_558 : Cond.methodLink RX12 778 yX12_push ∈ v_MOD := md_wi9 _ (List.mem_of_getElem? (i := 18) rfl)
theorem mm_559 : Cond.instanceMethod yX12_push ∈ v_MOD := md_wi9 _ (List.mem_of_getElem? (i := 19) rfl)
theorem mm_560 : Cond.selects RX12 yX12_push yX12_push ∈ v_MOD := md_wi9 _ (List.mem_of_getElem? (i := 20) rfl)
theorem mm_561 : Cond.code yX12_push cX12_push 4 none ∈ v_MOD := md_wi9 _ (List.mem_of_getElem? (i := 21) rfl)
theorem mm_562 : Cond.fieldLink RX12 190 "WardenHouseModel" "state" "[I" ∈ v_MOD := md_wi9 _ (List.mem_of_getElem? (i := 22) rfl)
theorem mm_563 : Cond.fieldLink RX12 202 "WardenHouseModel" "result" "[I" ∈ v_MOD := md_wi9 _ (List.mem_of_getElem? (i := 23) rfl)
theorem mm_564 : Cond.fieldLink RX12 199 "WardenHouseModel" "resultSort" "[I" ∈ v_MOD := md_wi9 _ (List.mem_of_getElem? (i := 24) rfl)
theorem mm_565 : Cond.methodLink RX12 768 yX12_tells ∈ v_MOD := md_wi9 _ (List.mem_of_getElem? (i := 25) rfl)
theorem mm_566 : Cond.instanceMethod yX12_tells ∈ v_MOD := md_wi9 _ (List.mem_of_getElem? (i := 26) rfl)
theorem mm_567 : Cond.selects RX12 yX12_tells yX12_tells ∈ v_MOD := md_wi9 _ (List.mem_of_getElem? (i := 27) rfl)
theorem mm_568 : Cond.code yX12_tells cX12_tells 6 none ∈ v_MOD := md_wi9 _ (List.mem_of_getElem? (i := 28) rfl)
theorem mm_569 : Cond.fieldLink RX12 772 "WardenHouseModel" "goes" "Z" ∈ v_MOD := md_wi9 _ (List.mem_of_getElem? (i := 29) rfl)
theorem mm_570 : Cond.fieldLink RX12 227 "WardenHouseModel" "localSort" "[I" ∈ v_MOD := md_wi9 _ (List.mem_of_getElem? (i := 30) rfl)
theorem mm_571 : Cond.fieldLink RX12 230 "WardenHouseModel" "local" "[I" ∈ v_MOD := md_wi9 _ (List.mem_of_getElem? (i := 31) rfl)
theorem mm_572 : Cond.fieldLink RX12 781 "WardenHouseModel" "stepsDone" "I" ∈ v_MOD := md_wi9 _ (List.mem_of_getElem? (i := 32) rfl)
theorem mm_573 : Cond.fieldLink RX12 784 "WardenHouseModel" "stepsMay" "I" ∈ v_MOD := md_wi9 _ (List.mem_of_getElem? (i := 33) rfl)
theorem mm_574 : Cond.fieldLink RX12 793 "WardenHouseModel" "frames" "I" ∈ v_MOD := md_wi9 _ (List.mem_of_getElem? (i := 34) rfl)
theorem mm_575 : Cond.methodLink RX12 790 yX12_failure ∈ v_MOD := md_wi9 _ (List.mem_of_getElem? (i := 35) rfl)
theorem mm_576 : Cond.instanceMethod yX12_failure ∈ v_MOD := md_wi9 _ (List.mem_of_getElem? (i := 36) rfl)
theorem mm_577 : Cond.selects RX12 yX12_failure yX12_failure ∈ v_MOD := md_wi9 _ (List.mem_of_getElem? (i := 37) rfl)
theorem mm_578 : Cond.code yX12_failure cX12_failure 3 none ∈ v_MOD := md_wi9 _ (List.mem_of_getElem? (i := 38) rfl)
theorem mm_579 : Cond.fieldLink RX12 787 "WardenHouseModel" "isCut" "Z" ∈ v_MOD := md_wi9 _ (List.mem_of_getElem? (i := 39) rfl)
theorem mm_580 : Cond.fieldLink RX12 217 "WardenHouseModel" "fFrame" "[I" ∈ v_MOD := md_wi9 _ (List.mem_of_getElem? (i := 40) rfl)
theorem mm_581 : Cond.fieldLink RX12 220 "WardenHouseModel" "fContext" "[I" ∈ v_MOD := md_wi9 _ (List.mem_of_getElem? (i := 41) rfl)
theorem mm_582 : Cond.fieldLink RX12 796 "WardenHouseModel" "isRewritten" "Z" ∈ v_MOD := md_wi9 _ (List.mem_of_getElem? (i := 42) rfl)
theorem mm_583 : Cond.methodLink RX12 799 yX12_contextOf ∈ v_MOD := md_wi9 _ (List.mem_of_getElem? (i := 43) rfl)
theorem mm_584 : Cond.instanceMethod yX12_contextOf ∈ v_MOD := md_wi9 _ (List.mem_of_getElem? (i := 44) rfl)
theorem mm_585 : Cond.selects RX12 yX12_contextOf yX12_contextOf ∈ v_MOD := md_wi9 _ (List.mem_of_getElem? (i := 45) rfl)
theorem mm_586 : Cond.code yX12_contextOf cX12_contextOf 7 (some .int) ∈ v_MOD := md_wi9 _ (List.mem_of_getElem? (i := 46) rfl)
theorem mm_587 : Cond.fieldLink RX12 196 "WardenHouseModel" "began" "[I" ∈ v_MOD := md_wi9 _ (List.mem_of_getElem? (i := 47) rfl)
theorem mm_588 : Cond.fieldLink RX12 802 "WardenHouseModel" "mostFrames" "I" ∈ v_MOD := md_wi9 _ (List.mem_of_getElem? (i := 48) rfl)
theorem mm_589 : Cond.methodLink RX12 805 yX12_setLocal ∈ v_MOD := md_wi9 _ (List.mem_of_getElem? (i := 49) rfl)
theorem mm_590 : Cond.instanceMethod yX12_setLocal ∈ v_MOD := md_wi9 _ (List.mem_of_getElem? (i := 50) rfl)
theorem mm_591 : Cond.selects RX12 yX12_setLocal yX12_setLocal ∈ v_MOD := md_wi9 _ (List.mem_of_getElem? (i := 51) rfl)
theorem mm_592 : Cond.code yX12_setLocal cX12_setLocal 6 none ∈ v_MOD := md_wi9 _ (List.mem_of_getElem? (i := 52) rfl)
theorem mm_593 : Cond.fieldLink RX12 168 "WardenHouseModel" "thingOf" "[I" ∈ v_MOD := md_wi9 _ (List.mem_of_getElem? (i := 53) rfl)
theorem mm_594 : Cond.fieldLink RX12 809 "WardenHouseModel" "things" "I" ∈ v_MOD := md_wi9 _ (List.mem_of_getElem? (i := 54) rfl)
theorem mm_595 : Cond.fieldLink RX12 171 "WardenHouseModel" "thingAt" "[I" ∈ v_MOD := md_wi9 _ (List.mem_of_getElem? (i := 55) rfl)
theorem mm_596 : Cond.fieldLink RX12 812 "WardenHouseModel" "had" "I" ∈ v_MOD := md_wi9 _ (List.mem_of_getElem? (i := 56) rfl)
theorem mm_597 : Cond.fieldLink RX12 175 "WardenHouseModel" "haveSort" "[I" ∈ v_MOD := md_wi9 _ (List.mem_of_getElem? (i := 57) rfl)
theorem mm_598 : Cond.fieldLink RX12 178 "WardenHouseModel" "have" "[I" ∈ v_MOD := md_wi9 _ (List.mem_of_getElem? (i := 58) rfl)
theorem mm_599 : Cond.methodLink RX12 815 yX12_newThing ∈ v_MOD := md_wi9 _ (List.mem_of_getElem? (i := 59) rfl)
theorem mm_600 : Cond.instanceMethod yX12_newThing ∈ v_MOD := md_wi10 _ (List.mem_of_getElem? (i := 0) rfl)
theorem mm_601 : Cond.selects RX12 yX12_newThing yX12_newThing ∈ v_MOD := md_wi10 _ (List.mem_of_getElem? (i := 1) rfl)
theorem mm_602 : Cond.code yX12_newThing cX12_newThing 4 (some .int) ∈ v_MOD := md_wi10 _ (List.mem_of_getElem? (i := 2) rfl)
theorem mm_603 : Cond.fieldLink RX12 193 "WardenHouseModel" "waits" "[I" ∈ v_MOD := md_wi10 _ (List.mem_of_getElem? (i := 3) rfl)
theorem mm_604 : Cond.methodLink RX12 848 yX12_canGo ∈ v_MOD := md_wi10 _ (List.mem_of_getElem? (i := 4) rfl)
theorem mm_605 : Cond.instanceMethod yX12_canGo ∈ v_MOD := md_wi10 _ (List.mem_of_getElem? (i := 5) rfl)
theorem mm_606 : Cond.selects RX12 yX12_canGo yX12_canGo ∈ v_MOD := md_wi10 _ (List.mem_of_getElem? (i := 6) rfl)
theorem mm_607 : Cond.code yX12_canGo cX12_canGo 2 (some .boolean) ∈ v_MOD := md_wi10 _ (List.mem_of_getElem? (i := 7) rfl)
theorem mm_608 : Cond.methodLink RX12 851 yX12_hasWaited ∈ v_MOD := md_wi10 _ (List.mem_of_getElem? (i := 8) rfl)
theorem mm_609 : Cond.instanceMethod yX12_hasWaited ∈ v_MOD := md_wi10 _ (List.mem_of_getElem? (i := 9) rfl)
theorem mm_610 : Cond.selects RX12 yX12_hasWaited yX12_hasWaited ∈ v_MOD := md_wi10 _ (List.mem_of_getElem? (i := 10) rfl)
theorem mm_611 : Cond.code yX12_hasWaited cX12_hasWaited 2 none ∈ v_MOD := md_wi10 _ (List.mem_of_getElem? (i := 11) rfl)
theorem mm_612 : Cond.fieldLink RX12 820 "WardenHouseModel" "threads" "I" ∈ v_MOD := md_wi10 _ (List.mem_of_getElem? (i := 12) rfl)
theorem mm_613 : Cond.methodLink RX12 857 yX12_pop ∈ v_MOD := md_wi10 _ (List.mem_of_getElem? (i := 13) rfl)
theorem mm_614 : Cond.instanceMethod yX12_pop ∈ v_MOD := md_wi10 _ (List.mem_of_getElem? (i := 14) rfl)
theorem mm_615 : Cond.selects RX12 yX12_pop yX12_pop ∈ v_MOD := md_wi10 _ (List.mem_of_getElem? (i := 15) rfl)
theorem mm_616 : Cond.code yX12_pop cX12_pop 1 (some .int) ∈ v_MOD := md_wi10 _ (List.mem_of_getElem? (i := 16) rfl)
theorem mm_617 : Cond.methodLink RX12 826 yX12_begin ∈ v_MOD := md_wi10 _ (List.mem_of_getElem? (i := 17) rfl)
theorem mm_618 : Cond.instanceMethod yX12_begin ∈ v_MOD := md_wi10 _ (List.mem_of_getElem? (i := 18) rfl)
theorem mm_619 : Cond.selects RX12 yX12_begin yX12_begin ∈ v_MOD := md_wi10 _ (List.mem_of_getElem? (i := 19) rfl)
theorem mm_620 : Cond.code yX12_begin cX12_begin 10 (some .boolean) ∈ v_MOD := md_wi10 _ (List.mem_of_getElem? (i := 20) rfl)
theorem mm_621 : Cond.methodLink RX12 902 yX12_takeCaptured ∈ v_MOD := md_wi10 _ (List.mem_of_getElem? (i := 21) rfl)
theorem mm_622 : Cond.instanceMethod yX12_takeCaptured ∈ v_MOD := md_wi10 _ (List.mem_of_getElem? (i := 22) rfl)
theorem mm_623 : Cond.selects RX12 yX12_takeCaptured yX12_takeCaptured ∈ v_MOD := md_wi10 _ (List.mem_of_getElem? (i := 23) rfl)
theorem mm_624 : Cond.code yX12_takeCaptured cX12_takeCaptured 5 none ∈ v_MOD := md_wi10 _ (List.mem_of_getElem? (i := 24) rfl)
theorem mm_625 : Cond.constantLong RX12 905 (999) ∈ v_MOD := md_wi10 _ (List.mem_of_getElem? (i := 25) rfl)
theorem mm_626 : Cond.methodLink RX12 907 yX12_placeWith ∈ v_MOD := md_wi10 _ (List.mem_of_getElem? (i := 26) rfl)
theorem mm_627 : Cond.instanceMethod yX12_placeWith ∈ v_MOD := md_wi10 _ (List.mem_of_getElem? (i := 27) rfl)
theorem mm_628 : Cond.selects RX12 yX12_placeWith yX12_placeWith ∈ v_MOD := md_wi10 _ (List.mem_of_getElem? (i := 28) rfl)
theorem mm_629 : Cond.code yX12_placeWith cX12_placeWith 7 none ∈ v_MOD := md_wi10 _ (List.mem_of_getElem? (i := 29) rfl)
theorem mm_630 : Cond.methodLink RX12 913 yX12_isGrantedIn ∈ v_MOD := md_wi10 _ (List.mem_of_getElem? (i := 30) rfl)
theorem mm_631 : Cond.instanceMethod yX12_isGrantedIn ∈ v_MOD := md_wi10 _ (List.mem_of_getElem? (i := 31) rfl)
theorem mm_632 : Cond.selects RX12 yX12_isGrantedIn yX12_isGrantedIn ∈ v_MOD := md_wi10 _ (List.mem_of_getElem? (i := 32) rfl)
theorem mm_633 : Cond.code yX12_isGrantedIn cX12_isGrantedIn 5 (some .boolean) ∈ v_MOD := md_wi10 _ (List.mem_of_getElem? (i := 33) rfl)
theorem mm_634 : Cond.methodLink RX12 910 yX12_isGrantedBy ∈ v_MOD := md_wi10 _ (List.mem_of_getElem? (i := 34) rfl)
theorem mm_635 : Cond.instanceMethod yX12_isGrantedBy ∈ v_MOD := md_wi10 _ (List.mem_of_getElem? (i := 35) rfl)
theorem mm_636 : Cond.selects RX12 yX12_isGrantedBy yX12_isGrantedBy ∈ v_MOD := md_wi10 _ (List.mem_of_getElem? (i := 36) rfl)
theorem mm_637 : Cond.code yX12_isGrantedBy cX12_isGrantedBy 4 (some .boolean) ∈ v_MOD := md_wi10 _ (List.mem_of_getElem? (i := 37) rfl)
theorem mm_638 : Cond.methodLink RX12 898 yX12_methodOf ∈ v_MOD := md_wi10 _ (List.mem_of_getElem? (i := 38) rfl)
theorem mm_639 : Cond.instanceMethod yX12_methodOf ∈ v_MOD := md_wi10 _ (List.mem_of_getElem? (i := 39) rfl)
theorem mm_640 : Cond.selects RX12 yX12_methodOf yX12_methodOf ∈ v_MOD := md_wi10 _ (List.mem_of_getElem? (i := 40) rfl)
theorem mm_641 : Cond.code yX12_methodOf cX12_methodOf 8 (some .int) ∈ v_MOD := md_wi10 _ (List.mem_of_getElem? (i := 41) rfl)
theorem mm_642 : Cond.methodLink RX12 823 yX12_newThread ∈ v_MOD := md_wi10 _ (List.mem_of_getElem? (i := 42) rfl)
theorem mm_643 : Cond.instanceMethod yX12_newThread ∈ v_MOD := md_wi10 _ (List.mem_of_getElem? (i := 43) rfl)
theorem mm_644 : Cond.selects RX12 yX12_newThread yX12_newThread ∈ v_MOD := md_wi10 _ (List.mem_of_getElem? (i := 44) rfl)
theorem mm_645 : Cond.code yX12_newThread cX12_newThread 2 (some .int) ∈ v_MOD := md_wi10 _ (List.mem_of_getElem? (i := 45) rfl)
theorem mm_646 : Cond.methodLink RX12 916 yX12_spawns ∈ v_MOD := md_wi10 _ (List.mem_of_getElem? (i := 46) rfl)
theorem mm_647 : Cond.instanceMethod yX12_spawns ∈ v_MOD := md_wi10 _ (List.mem_of_getElem? (i := 47) rfl)
theorem mm_648 : Cond.selects RX12 yX12_spawns yX12_spawns ∈ v_MOD := md_wi10 _ (List.mem_of_getElem? (i := 48) rfl)
theorem mm_649 : Cond.code yX12_spawns cX12_spawns 4 none ∈ v_MOD := md_wi10 _ (List.mem_of_getElem? (i := 49) rfl)
theorem mm_650 : Cond.methodLink RX12 830 yX12_newObject ∈ v_MOD := md_wi10 _ (List.mem_of_getElem? (i := 50) rfl)
theorem mm_651 : Cond.instanceMethod yX12_newObject ∈ v_MOD := md_wi10 _ (List.mem_of_getElem? (i := 51) rfl)
theorem mm_652 : Cond.selects RX12 yX12_newObject yX12_newObject ∈ v_MOD := md_wi10 _ (List.mem_of_getElem? (i := 52) rfl)
theorem mm_653 : Cond.code yX12_newObject cX12_newObject 2 (some .int) ∈ v_MOD := md_wi10 _ (List.mem_of_getElem? (i := 53) rfl)
theorem mm_654 : Cond.methodLink RX12 854 yX12_wordAt ∈ v_MOD := md_wi10 _ (List.mem_of_getElem? (i := 54) rfl)
theorem mm_655 : Cond.instanceMethod yX12_wordAt ∈ v_MOD := md_wi10 _ (List.mem_of_getElem? (i := 55) rfl)
theorem mm_656 : Cond.selects RX12 yX12_wordAt yX12_wordAt ∈ v_MOD := md_wi10 _ (List.mem_of_getElem? (i := 56) rfl)
theorem mm_657 : Cond.code yX12_wordAt cX12_wordAt 2 (some .int) ∈ v_MOD := md_wi10 _ (List.mem_of_getElem? (i := 57) rfl)
theorem mm_658 : Cond.methodLink RX12 879 yX12_sends ∈ v_MOD := md_wi10 _ (List.mem_of_getElem? (i := 58) rfl)
theorem mm_659 : Cond.instanceMethod yX12_sends ∈ v_MOD := md_wi10 _ (List.mem_of_getElem? (i := 59) rfl)
theorem mm_660 : Cond.selects RX12 yX12_sends yX12_sends ∈ v_MOD := md_wi11 _ (List.mem_of_getElem? (i := 0) rfl)
theorem mm_661 : Cond.code yX12_sends cX12_sends 7 none ∈ v_MOD := md_wi11 _ (List.mem_of_getElem? (i := 1) rfl)
theorem mm_662 : Cond.methodLink RX12 883 yX12_applies ∈ v_MOD := md_wi11 _ (List.mem_of_getElem? (i := 2) rfl)
theorem mm_663 : Cond.instanceMethod yX12_applies ∈ v_MOD := md_wi11 _ (List.mem_of_getElem? (i := 3) rfl)
theorem mm_664 : Cond.selects RX12 yX12_applies yX12_applies ∈ v_MOD := md_wi11 _ (List.mem_of_getElem? (i := 4) rfl)
theorem mm_665 : Cond.code yX12_applies cX12_applies 6 none ∈ v_MOD := md_wi11 _ (List.mem_of_getElem? (i := 5) rfl)
theorem mm_666 : Cond.methodLink RX12 886 yX12_closes ∈ v_MOD := md_wi11 _ (List.mem_of_getElem? (i := 6) rfl)
theorem mm_667 : Cond.instanceMethod yX12_closes ∈ v_MOD := md_wi11 _ (List.mem_of_getElem? (i := 7) rfl)
theorem mm_668 : Cond.selects RX12 yX12_closes yX12_closes ∈ v_MOD := md_wi11 _ (List.mem_of_getElem? (i := 8) rfl)
theorem mm_669 : Cond.code yX12_closes cX12_closes 4 none ∈ v_MOD := md_wi11 _ (List.mem_of_getElem? (i := 9) rfl)
theorem mm_670 : Cond.methodLink RX12 889 yX12_stepPart ∈ v_MOD := md_wi11 _ (List.mem_of_getElem? (i := 10) rfl)
theorem mm_671 : Cond.instanceMethod yX12_stepPart ∈ v_MOD := md_wi11 _ (List.mem_of_getElem? (i := 11) rfl)
theorem mm_672 : Cond.selects RX12 yX12_stepPart yX12_stepPart ∈ v_MOD := md_wi11 _ (List.mem_of_getElem? (i := 12) rfl)
theorem mm_673 : Cond.code yX12_stepPart cX12_stepPart 5 none ∈ v_MOD := md_wi11 _ (List.mem_of_getElem? (i := 13) rfl)
theorem mm_674 : Cond.methodLink RX12 872 yX12_reckons ∈ v_MOD := md_wi11 _ (List.mem_of_getElem? (i := 14) rfl)
theorem mm_675 : Cond.instanceMethod yX12_reckons ∈ v_MOD := md_wi11 _ (List.mem_of_getElem? (i := 15) rfl)
theorem mm_676 : Cond.selects RX12 yX12_reckons yX12_reckons ∈ v_MOD := md_wi11 _ (List.mem_of_getElem? (i := 16) rfl)
theorem mm_677 : Cond.code yX12_reckons cX12_reckons 6 none ∈ v_MOD := md_wi11 _ (List.mem_of_getElem? (i := 17) rfl)
theorem mm_678 : Cond.methodLink RX12 895 yX12_stepWord ∈ v_MOD := md_wi11 _ (List.mem_of_getElem? (i := 18) rfl)
theorem mm_679 : Cond.instanceMethod yX12_stepWord ∈ v_MOD := md_wi11 _ (List.mem_of_getElem? (i := 19) rfl)
theorem mm_680 : Cond.selects RX12 yX12_stepWord yX12_stepWord ∈ v_MOD := md_wi11 _ (List.mem_of_getElem? (i := 20) rfl)
theorem mm_681 : Cond.code yX12_stepWord cX12_stepWord 4 none ∈ v_MOD := md_wi11 _ (List.mem_of_getElem? (i := 21) rfl)
theorem mm_682 : Cond.methodLink RX12 892 yX12_asks_ ∈ v_MOD := md_wi11 _ (List.mem_of_getElem? (i := 22) rfl)
theorem mm_683 : Cond.instanceMethod yX12_asks_ ∈ v_MOD := md_wi11 _ (List.mem_of_getElem? (i := 23) rfl)
theorem mm_684 : Cond.selects RX12 yX12_asks_ yX12_asks_ ∈ v_MOD := md_wi11 _ (List.mem_of_getElem? (i := 24) rfl)
theorem mm_685 : Cond.code yX12_asks_ cX12_asks_ 8 none ∈ v_MOD := md_wi11 _ (List.mem_of_getElem? (i := 25) rfl)
theorem mm_686 : Cond.methodLink RX12 875 yX12_stepField ∈ v_MOD := md_wi11 _ (List.mem_of_getElem? (i := 26) rfl)
theorem mm_687 : Cond.instanceMethod yX12_stepField ∈ v_MOD := md_wi11 _ (List.mem_of_getElem? (i := 27) rfl)
theorem mm_688 : Cond.selects RX12 yX12_stepField yX12_stepField ∈ v_MOD := md_wi11 _ (List.mem_of_getElem? (i := 28) rfl)
theorem mm_689 : Cond.code yX12_stepField cX12_stepField 9 none ∈ v_MOD := md_wi11 _ (List.mem_of_getElem? (i := 29) rfl)
theorem mm_690 : Cond.methodLink RX12 860 yX12_stepIf ∈ v_MOD := md_wi11 _ (List.mem_of_getElem? (i := 30) rfl)
theorem mm_691 : Cond.instanceMethod yX12_stepIf ∈ v_MOD := md_wi11 _ (List.mem_of_getElem? (i := 31) rfl)
theorem mm_692 : Cond.selects RX12 yX12_stepIf yX12_stepIf ∈ v_MOD := md_wi11 _ (List.mem_of_getElem? (i := 32) rfl)
theorem mm_693 : Cond.code yX12_stepIf cX12_stepIf 3 none ∈ v_MOD := md_wi11 _ (List.mem_of_getElem? (i := 33) rfl)
theorem mm_694 : Cond.methodLink RX12 863 yX12_stepTry ∈ v_MOD := md_wi11 _ (List.mem_of_getElem? (i := 34) rfl)
theorem mm_695 : Cond.instanceMethod yX12_stepTry ∈ v_MOD := md_wi11 _ (List.mem_of_getElem? (i := 35) rfl)
theorem mm_696 : Cond.selects RX12 yX12_stepTry yX12_stepTry ∈ v_MOD := md_wi11 _ (List.mem_of_getElem? (i := 36) rfl)
theorem mm_697 : Cond.code yX12_stepTry cX12_stepTry 4 none ∈ v_MOD := md_wi11 _ (List.mem_of_getElem? (i := 37) rfl)
theorem mm_698 : Cond.methodLink RX12 866 yX12_stepBack ∈ v_MOD := md_wi11 _ (List.mem_of_getElem? (i := 38) rfl)
theorem mm_699 : Cond.instanceMethod yX12_stepBack ∈ v_MOD := md_wi11 _ (List.mem_of_getElem? (i := 39) rfl)
theorem mm_700 : Cond.selects RX12 yX12_stepBack yX12_stepBack ∈ v_MOD := md_wi11 _ (List.mem_of_getElem? (i := 40) rfl)
theorem mm_701 : Cond.code yX12_stepBack cX12_stepBack 2 none ∈ v_MOD := md_wi11 _ (List.mem_of_getElem? (i := 41) rfl)
theorem mm_702 : Cond.methodLink RX12 869 yX12_stepOther ∈ v_MOD := md_wi11 _ (List.mem_of_getElem? (i := 42) rfl)
theorem mm_703 : Cond.instanceMethod yX12_stepOther ∈ v_MOD := md_wi11 _ (List.mem_of_getElem? (i := 43) rfl)
theorem mm_704 : Cond.selects RX12 yX12_stepOther yX12_stepOther ∈ v_MOD := md_wi11 _ (List.mem_of_getElem? (i := 44) rfl)
theorem mm_705 : Cond.code yX12_stepOther cX12_stepOther 5 none ∈ v_MOD := md_wi11 _ (List.mem_of_getElem? (i := 45) rfl)
theorem mm_706 : Cond.constantLong RX12 818 (4000) ∈ v_MOD := md_wi11 _ (List.mem_of_getElem? (i := 46) rfl)
theorem mm_707 : Cond.methodLink RX12 833 yX12_step ∈ v_MOD := md_wi11 _ (List.mem_of_getElem? (i := 47) rfl)
theorem mm_708 : Cond.instanceMethod yX12_step ∈ v_MOD := md_wi11 _ (List.mem_of_getElem? (i := 48) rfl)
theorem mm_709 : Cond.selects RX12 yX12_step yX12_step ∈ v_MOD := md_wi11 _ (List.mem_of_getElem? (i := 49) rfl)
theorem mm_710 : Cond.code yX12_step cX12_step 7 none ∈ v_MOD := md_wi11 _ (List.mem_of_getElem? (i := 50) rfl)
theorem mm_711 : Cond.methodLink RX12 835 yX12_ready ∈ v_MOD := md_wi11 _ (List.mem_of_getElem? (i := 51) rfl)
theorem mm_712 : Cond.instanceMethod yX12_ready ∈ v_MOD := md_wi11 _ (List.mem_of_getElem? (i := 52) rfl)
theorem mm_713 : Cond.selects RX12 yX12_ready yX12_ready ∈ v_MOD := md_wi11 _ (List.mem_of_getElem? (i := 53) rfl)
theorem mm_714 : Cond.code yX12_ready cX12_ready 3 (some .int) ∈ v_MOD := md_wi11 _ (List.mem_of_getElem? (i := 54) rfl)
theorem mm_715 : Cond.constant RX12 838 (1103515245) ∈ v_MOD := md_wi11 _ (List.mem_of_getElem? (i := 55) rfl)
theorem mm_716 : Cond.methodLink RX12 839 yX12_choose ∈ v_MOD := md_wi11 _ (List.mem_of_getElem? (i := 56) rfl)
theorem mm_717 : Cond.instanceMethod yX12_choose ∈ v_MOD := md_wi11 _ (List.mem_of_getElem? (i := 57) rfl)
theorem mm_718 : Cond.selects RX12 yX12_choose yX12_choose ∈ v_MOD := md_wi11 _ (List.mem_of_getElem? (i := 58) rfl)
theorem mm_719 : Cond.code yX12_choose cX12_choose 5 none ∈ v_MOD := md_wi11 _ (List.mem_of_getElem? (i := 59) rfl)
theorem mm_720 : Cond.methodLink RX12 842 yX12_going ∈ v_MOD := md_wi12 _ (List.mem_of_getElem? (i := 0) rfl)
theorem mm_721 : Cond.instanceMethod yX12_going ∈ v_MOD := md_wi12 _ (List.mem_of_getElem? (i := 1) rfl)
theorem mm_722 : Cond.selects RX12 yX12_going yX12_going ∈ v_MOD := md_wi12 _ (List.mem_of_getElem? (i := 2) rfl)
theorem mm_723 : Cond.code yX12_going cX12_going 3 (some .int) ∈ v_MOD := md_wi12 _ (List.mem_of_getElem? (i := 3) rfl)
theorem mm_724 : Cond.fieldLink RX12 845 "WardenHouseModel" "ended" "I" ∈ v_MOD := md_wi12 _ (List.mem_of_getElem? (i := 4) rfl)
theorem mm_725 : Cond.constantLong RX12 919 (4) ∈ v_MOD := md_wi12 _ (List.mem_of_getElem? (i := 5) rfl)
theorem mm_726 : Cond.code yX12_thrown cX12_thrown 1 (some .int) ∈ v_MOD := md_wi12 _ (List.mem_of_getElem? (i := 6) rfl)
theorem mm_727 : Cond.code yX12_feed cX12_feed 8 (some .boolean) ∈ v_MOD := md_wi12 _ (List.mem_of_getElem? (i := 7) rfl)
theorem mm_728 : Cond.code yX12_end cX12_end 2 (some .boolean) ∈ v_MOD := md_wi12 _ (List.mem_of_getElem? (i := 8) rfl)
theorem mm_729 : Cond.code yX12_program cX12_program 2 (some .int) ∈ v_MOD := md_wi12 _ (List.mem_of_getElem? (i := 9) rfl)
theorem mm_730 : Cond.code yX12_fault cX12_fault 2 (some .int) ∈ v_MOD := md_wi12 _ (List.mem_of_getElem? (i := 10) rfl)
theorem mm_731 : Cond.code yX12_count cX12_count 4 (some .int) ∈ v_MOD := md_wi12 _ (List.mem_of_getElem? (i := 11) rfl)
theorem mm_732 : Cond.code yX12_unit cX12_unit 3 (some .int) ∈ v_MOD := md_wi12 _ (List.mem_of_getElem? (i := 12) rfl)
theorem mm_733 : Cond.code yX12_code cX12_code 5 (some .int) ∈ v_MOD := md_wi12 _ (List.mem_of_getElem? (i := 13) rfl)
theorem mm_734 : Cond.code yX12_number cX12_number 2 (some .int) ∈ v_MOD := md_wi12 _ (List.mem_of_getElem? (i := 14) rfl)
theorem mm_735 : Cond.code yX12_domain cX12_domain 2 (some .int) ∈ v_MOD := md_wi12 _ (List.mem_of_getElem? (i := 15) rfl)
theorem mm_736 : Cond.code yX12_asks cX12_asks 8 (some .boolean) ∈ v_MOD := md_wi12 _ (List.mem_of_getElem? (i := 16) rfl)
theorem mm_737 : Cond.code yX12_has cX12_has 4 (some .int) ∈ v_MOD := md_wi12 _ (List.mem_of_getElem? (i := 17) rfl)
theorem mm_738 : Cond.code yX12_may cX12_may 5 (some .int) ∈ v_MOD := md_wi12 _ (List.mem_of_getElem? (i := 18) rfl)
theorem mm_739 : Cond.code yX12_run cX12_run 11 (some .int) ∈ v_MOD := md_wi12 _ (List.mem_of_getElem? (i := 19) rfl)
theorem mm_740 : Cond.code yX12_result cX12_result 2 (some .int) ∈ v_MOD := md_wi12 _ (List.mem_of_getElem? (i := 20) rfl)
theorem mm_741 : Cond.code yX12_event cX12_event 4 (some .int) ∈ v_MOD := md_wi12 _ (List.mem_of_getElem? (i := 21) rfl)
theorem mm_742 : Cond.code yX12_thread cX12_thread 3 (some .int) ∈ v_MOD := md_wi12 _ (List.mem_of_getElem? (i := 22) rfl)
theorem mm_743 : Cond.code yX12_context cX12_context 4 (some .int) ∈ v_MOD := md_wi12 _ (List.mem_of_getElem? (i := 23) rfl)
theorem gd_md_w0 : ∀ w ∈ md_w0, gdW w := gdW_of (by decide +kernel)
theorem gd_md_w1 : ∀ w ∈ md_w1, gdW w := gdW_of (by decide +kernel)
theorem gd_md_w2 : ∀ w ∈ md_w2, gdW w := gdW_of (by decide +kernel)
theorem gd_md_w3 : ∀ w ∈ md_w3, gdW w := gdW_of (by decide +kernel)
theorem gd_md_w4 : ∀ w ∈ md_w4, gdW w := gdW_of (by decide +kernel)
theorem gd_md_w5 : ∀ w ∈ md_w5, gdW w := gdW_of (by decide +kernel)
theorem gd_md_w6 : ∀ w ∈ md_w6, gdW w := gdW_of (by decide +kernel)
theorem gd_md_w7 : ∀ w ∈ md_w7, gdW w := gdW_of (by decide +kernel)
theorem gd_md_w8 : ∀ w ∈ md_w8, gdW w := gdW_of (by decide +kernel)
theorem gd_md_w9 : ∀ w ∈ md_w9, gdW w := gdW_of (by decide +kernel)
theorem gd_md_w10 : ∀ w ∈ md_w10, gdW w := gdW_of (by decide +kernel)
theorem gd_md_w11 : ∀ w ∈ md_w11, gdW w := gdW_of (by decide +kernel)
theorem gd_md_w12 : ∀ w ∈ md_w12, gdW w := gdW_of (by decide +kernel)
theorem gd_wsJ0_indexOf_7cf53 : ∀ w ∈ wsJ0_indexOf_7cf53, gdW w := gdW_of (by decide +kernel)
theorem gd_wsJ0_charAt_5068e : ∀ w ∈ wsJ0_charAt_5068e, gdW w := gdW_of (by decide +kernel)
theorem gd_wsJ0_length_8abf5 : ∀ w ∈ wsJ0_length_8abf5, gdW w := gdW_of (by decide +kernel)
theorem hin_J0_length_8abf5 : ∀ w ∈ wsJ0_length_8abf5, w ∈ v_MOD := fun _ h => List.mem_append_right _ (List.mem_append_right _ (List.mem_append_right _ (List.mem_append_right _ (List.mem_append_right _ (List.mem_append_right _ (List.mem_append_right _ (List.mem_append_right _ (List.mem_append_right _ (List.mem_append_right _ (List.mem_append_right _ (List.mem_append_right _ (List.mem_append_right _ (List.mem_append_left _ h)))))))))))))
theorem hin_J0_charAt_5068e : ∀ w ∈ wsJ0_charAt_5068e, w ∈ v_MOD := fun _ h => List.mem_append_right _ (List.mem_append_right _ (List.mem_append_right _ (List.mem_append_right _ (List.mem_append_right _ (List.mem_append_right _ (List.mem_append_right _ (List.mem_append_right _ (List.mem_append_right _ (List.mem_append_right _ (List.mem_append_right _ (List.mem_append_right _ (List.mem_append_right _ (List.mem_append_right _ (List.mem_append_left _ h))))))))))))))
theorem hin_J0_indexOf_7cf53 : ∀ w ∈ wsJ0_indexOf_7cf53, w ∈ v_MOD := fun _ h => List.mem_append_right _ (List.mem_append_right _ (List.mem_append_right _ (List.mem_append_right _ (List.mem_append_right _ (List.mem_append_right _ (List.mem_append_right _ (List.mem_append_right _ (List.mem_append_right _ (List.mem_append_right _ (List.mem_append_right _ (List.mem_append_right _ (List.mem_append_right _ (List.mem_append_right _ (List.mem_append_right _ (List.mem_append_left _ h)))))))))))))))
theorem gd_MOD : ∀ w ∈ v_MOD, gdW w := fun w h => (fun h => (List.mem_append.mp h).elim (gd_md_w0 w) (fun h => (List.mem_append.mp h).elim (gd_md_w1 w) (fun h => (List.mem_append.mp h).elim (gd_md_w2 w) (fun h => (List.mem_append.mp h).elim (gd_md_w3 w) (fun h => (List.mem_append.mp h).elim (gd_md_w4 w) (fun h => (List.mem_append.mp h).elim (gd_md_w5 w) (fun h => (List.mem_append.mp h).elim (gd_md_w6 w) (fun h => (List.mem_append.mp h).elim (gd_md_w7 w) (fun h => (List.mem_append.mp h).elim (gd_md_w8 w) (fun h => (List.mem_append.mp h).elim (gd_md_w9 w) (fun h => (List.mem_append.mp h).elim (gd_md_w10 w) (fun h => (List.mem_append.mp h).elim (gd_md_w11 w) (fun h => (List.mem_append.mp h).elim (gd_md_w12 w) (fun h => (List.mem_append.mp h).elim (gd_wsJ0_length_8abf5 w) (fun h => (List.mem_append.mp h).elim (gd_wsJ0_charAt_5068e w) (fun h => (List.mem_append.mp h).elim (gd_wsJ0_indexOf_7cf53 w) (gd_wsX120 w))))))))))))))))) h
theorem md_giV {c a1 a2 a3 a4 a5 : Cond} (h1 : a1 ∈ v_MOD) (h2 : a2 ∈ v_MOD) (h3 : a3 ∈ v_MOD) (h4 : a4 ∈ v_MOD) (h5 : a5 ∈ v_MOD) : GoodIn (c :: v_MOD) (([a1, a2, a3, a4] : List Cond) ++ (a5 :: v_MOD)) := fun w h => by
  have hm : w ∈ v_MOD := by
    rcases List.mem_append.mp h with h | h
    · rcases List.mem_cons.mp h with h | h
      · rw [h]; exact h1
      rcases List.mem_cons.mp h with h | h
      · rw [h]; exact h2
      rcases List.mem_cons.mp h with h | h
      · rw [h]; exact h3
      rcases List.mem_cons.mp h with h | h
      · rw [h]; exact h4
      exact nomatch h
    · rcases List.mem_cons.mp h with h | h
      · rw [h]; exact h5
      · exact h
  exact ⟨List.mem_cons_of_mem _ hm, gd_MOD w hm⟩
theorem md_giS {c a1 a2 a3 a5 : Cond} (h1 : a1 ∈ v_MOD) (h2 : a2 ∈ v_MOD) (h3 : a3 ∈ v_MOD) (h5 : a5 ∈ v_MOD) : GoodIn (c :: v_MOD) (([a1, a2, a3] : List Cond) ++ (a5 :: v_MOD)) := fun w h => by
  have hm : w ∈ v_MOD := by
    rcases List.mem_append.mp h with h | h
    · rcases List.mem_cons.mp h with h | h
      · rw [h]; exact h1
      rcases List.mem_cons.mp h with h | h
      · rw [h]; exact h2
      rcases List.mem_cons.mp h with h | h
      · rw [h]; exact h3
      exact nomatch h
    · rcases List.mem_cons.mp h with h | h
      · rw [h]; exact h5
      · exact h
  exact ⟨List.mem_cons_of_mem _ hm, gd_MOD w hm⟩
theorem hd_X12_addProduct : yX12_addProduct.cls = RX12 ∧ yX12_addProduct.cls ≠ "java/lang/invoke/MethodHandle" ∧ yX12_addProduct.cls ≠ "java/lang/invoke/VarHandle" ∧ (parseMethodDescriptor yX12_addProduct.desc).map (fun d => d.parameters.length) = some 1 := by decide +kernel
theorem hd_X12_adds : yX12_adds.cls = RX12 ∧ yX12_adds.cls ≠ "java/lang/invoke/MethodHandle" ∧ yX12_adds.cls ≠ "java/lang/invoke/VarHandle" ∧ (parseMethodDescriptor yX12_adds.desc).map (fun d => d.parameters.length) = some 2 := by decide +kernel
theorem hd_X12_anyPrefix : yX12_anyPrefix.cls = RX12 ∧ yX12_anyPrefix.cls ≠ "java/lang/invoke/MethodHandle" ∧ yX12_anyPrefix.cls ≠ "java/lang/invoke/VarHandle" ∧ (parseMethodDescriptor yX12_anyPrefix.desc).map (fun d => d.parameters.length) = some 0 := by decide +kernel
theorem hd_X12_applies : yX12_applies.cls = RX12 ∧ yX12_applies.cls ≠ "java/lang/invoke/MethodHandle" ∧ yX12_applies.cls ≠ "java/lang/invoke/VarHandle" ∧ (parseMethodDescriptor yX12_applies.desc).map (fun d => d.parameters.length) = some 1 := by decide +kernel
theorem hd_X12_areOfOne : yX12_areOfOne.cls = RX12 ∧ yX12_areOfOne.cls ≠ "java/lang/invoke/MethodHandle" ∧ yX12_areOfOne.cls ≠ "java/lang/invoke/VarHandle" ∧ (parseMethodDescriptor yX12_areOfOne.desc).map (fun d => d.parameters.length) = some 2 := by decide +kernel
theorem hd_X12_arguments : yX12_arguments.cls = RX12 ∧ yX12_arguments.cls ≠ "java/lang/invoke/MethodHandle" ∧ yX12_arguments.cls ≠ "java/lang/invoke/VarHandle" ∧ (parseMethodDescriptor yX12_arguments.desc).map (fun d => d.parameters.length) = some 1 := by decide +kernel
theorem hd_X12_around : yX12_around.cls = RX12 ∧ yX12_around.cls ≠ "java/lang/invoke/MethodHandle" ∧ yX12_around.cls ≠ "java/lang/invoke/VarHandle" ∧ (parseMethodDescriptor yX12_around.desc).map (fun d => d.parameters.length) = some 2 := by decide +kernel
theorem hd_X12_asking : yX12_asking.cls = RX12 ∧ yX12_asking.cls ≠ "java/lang/invoke/MethodHandle" ∧ yX12_asking.cls ≠ "java/lang/invoke/VarHandle" ∧ (parseMethodDescriptor yX12_asking.desc).map (fun d => d.parameters.length) = some 0 := by decide +kernel
theorem hd_X12_asks_ : yX12_asks_.cls = RX12 ∧ yX12_asks_.cls ≠ "java/lang/invoke/MethodHandle" ∧ yX12_asks_.cls ≠ "java/lang/invoke/VarHandle" ∧ (parseMethodDescriptor yX12_asks_.desc).map (fun d => d.parameters.length) = some 2 := by decide +kernel
theorem hd_X12_at : yX12_at.cls = RX12 ∧ yX12_at.cls ≠ "java/lang/invoke/MethodHandle" ∧ yX12_at.cls ≠ "java/lang/invoke/VarHandle" ∧ (parseMethodDescriptor yX12_at.desc).map (fun d => d.parameters.length) = some 1 := by decide +kernel
theorem hd_X12_atom : yX12_atom.cls = RX12 ∧ yX12_atom.cls ≠ "java/lang/invoke/MethodHandle" ∧ yX12_atom.cls ≠ "java/lang/invoke/VarHandle" ∧ (parseMethodDescriptor yX12_atom.desc).map (fun d => d.parameters.length) = some 0 := by decide +kernel
theorem hd_X12_begin : yX12_begin.cls = RX12 ∧ yX12_begin.cls ≠ "java/lang/invoke/MethodHandle" ∧ yX12_begin.cls ≠ "java/lang/invoke/VarHandle" ∧ (parseMethodDescriptor yX12_begin.desc).map (fun d => d.parameters.length) = some 3 := by decide +kernel
theorem hd_X12_begins : yX12_begins.cls = RX12 ∧ yX12_begins.cls ≠ "java/lang/invoke/MethodHandle" ∧ yX12_begins.cls ≠ "java/lang/invoke/VarHandle" ∧ (parseMethodDescriptor yX12_begins.desc).map (fun d => d.parameters.length) = some 2 := by decide +kernel
theorem hd_X12_beginsE : yX12_beginsE.cls = RX12 ∧ yX12_beginsE.cls ≠ "java/lang/invoke/MethodHandle" ∧ yX12_beginsE.cls ≠ "java/lang/invoke/VarHandle" ∧ (parseMethodDescriptor yX12_beginsE.desc).map (fun d => d.parameters.length) = some 0 := by decide +kernel
theorem hd_X12_beginsPrefix : yX12_beginsPrefix.cls = RX12 ∧ yX12_beginsPrefix.cls ≠ "java/lang/invoke/MethodHandle" ∧ yX12_beginsPrefix.cls ≠ "java/lang/invoke/VarHandle" ∧ (parseMethodDescriptor yX12_beginsPrefix.desc).map (fun d => d.parameters.length) = some 0 := by decide +kernel
theorem hd_X12_binds : yX12_binds.cls = RX12 ∧ yX12_binds.cls ≠ "java/lang/invoke/MethodHandle" ∧ yX12_binds.cls ≠ "java/lang/invoke/VarHandle" ∧ (parseMethodDescriptor yX12_binds.desc).map (fun d => d.parameters.length) = some 1 := by decide +kernel
theorem hd_X12_bitsOf : yX12_bitsOf.cls = RX12 ∧ yX12_bitsOf.cls ≠ "java/lang/invoke/MethodHandle" ∧ yX12_bitsOf.cls ≠ "java/lang/invoke/VarHandle" ∧ (parseMethodDescriptor yX12_bitsOf.desc).map (fun d => d.parameters.length) = some 2 := by decide +kernel
theorem hd_X12_bodyOf : yX12_bodyOf.cls = RX12 ∧ yX12_bodyOf.cls ≠ "java/lang/invoke/MethodHandle" ∧ yX12_bodyOf.cls ≠ "java/lang/invoke/VarHandle" ∧ (parseMethodDescriptor yX12_bodyOf.desc).map (fun d => d.parameters.length) = some 1 := by decide +kernel
theorem hd_X12_canGo : yX12_canGo.cls = RX12 ∧ yX12_canGo.cls ≠ "java/lang/invoke/MethodHandle" ∧ yX12_canGo.cls ≠ "java/lang/invoke/VarHandle" ∧ (parseMethodDescriptor yX12_canGo.desc).map (fun d => d.parameters.length) = some 1 := by decide +kernel
theorem hd_X12_captures : yX12_captures.cls = RX12 ∧ yX12_captures.cls ≠ "java/lang/invoke/MethodHandle" ∧ yX12_captures.cls ≠ "java/lang/invoke/VarHandle" ∧ (parseMethodDescriptor yX12_captures.desc).map (fun d => d.parameters.length) = some 1 := by decide +kernel
theorem hd_X12_choose : yX12_choose.cls = RX12 ∧ yX12_choose.cls ≠ "java/lang/invoke/MethodHandle" ∧ yX12_choose.cls ≠ "java/lang/invoke/VarHandle" ∧ (parseMethodDescriptor yX12_choose.desc).map (fun d => d.parameters.length) = some 1 := by decide +kernel
theorem hd_X12_closes : yX12_closes.cls = RX12 ∧ yX12_closes.cls ≠ "java/lang/invoke/MethodHandle" ∧ yX12_closes.cls ≠ "java/lang/invoke/VarHandle" ∧ (parseMethodDescriptor yX12_closes.desc).map (fun d => d.parameters.length) = some 1 := by decide +kernel
theorem hd_X12_codeBegin : yX12_codeBegin.cls = RX12 ∧ yX12_codeBegin.cls ≠ "java/lang/invoke/MethodHandle" ∧ yX12_codeBegin.cls ≠ "java/lang/invoke/VarHandle" ∧ (parseMethodDescriptor yX12_codeBegin.desc).map (fun d => d.parameters.length) = some 0 := by decide +kernel
theorem hd_X12_codeOf : yX12_codeOf.cls = RX12 ∧ yX12_codeOf.cls ≠ "java/lang/invoke/MethodHandle" ∧ yX12_codeOf.cls ≠ "java/lang/invoke/VarHandle" ∧ (parseMethodDescriptor yX12_codeOf.desc).map (fun d => d.parameters.length) = some 3 := by decide +kernel
theorem hd_X12_contextOf : yX12_contextOf.cls = RX12 ∧ yX12_contextOf.cls ≠ "java/lang/invoke/MethodHandle" ∧ yX12_contextOf.cls ≠ "java/lang/invoke/VarHandle" ∧ (parseMethodDescriptor yX12_contextOf.desc).map (fun d => d.parameters.length) = some 2 := by decide +kernel
theorem hd_X12_countsPart : yX12_countsPart.cls = RX12 ∧ yX12_countsPart.cls ≠ "java/lang/invoke/MethodHandle" ∧ yX12_countsPart.cls ≠ "java/lang/invoke/VarHandle" ∧ (parseMethodDescriptor yX12_countsPart.desc).map (fun d => d.parameters.length) = some 0 := by decide +kernel
theorem hd_X12_covers : yX12_covers.cls = RX12 ∧ yX12_covers.cls ≠ "java/lang/invoke/MethodHandle" ∧ yX12_covers.cls ≠ "java/lang/invoke/VarHandle" ∧ (parseMethodDescriptor yX12_covers.desc).map (fun d => d.parameters.length) = some 2 := by decide +kernel
theorem hd_X12_deeper : yX12_deeper.cls = RX12 ∧ yX12_deeper.cls ≠ "java/lang/invoke/MethodHandle" ∧ yX12_deeper.cls ≠ "java/lang/invoke/VarHandle" ∧ (parseMethodDescriptor yX12_deeper.desc).map (fun d => d.parameters.length) = some 1 := by decide +kernel
theorem hd_X12_digitOf : yX12_digitOf.cls = RX12 ∧ yX12_digitOf.cls ≠ "java/lang/invoke/MethodHandle" ∧ yX12_digitOf.cls ≠ "java/lang/invoke/VarHandle" ∧ (parseMethodDescriptor yX12_digitOf.desc).map (fun d => d.parameters.length) = some 1 := by decide +kernel
theorem hd_X12_dotted : yX12_dotted.cls = RX12 ∧ yX12_dotted.cls ≠ "java/lang/invoke/MethodHandle" ∧ yX12_dotted.cls ≠ "java/lang/invoke/VarHandle" ∧ (parseMethodDescriptor yX12_dotted.desc).map (fun d => d.parameters.length) = some 1 := by decide +kernel
theorem hd_X12_e : yX12_e.cls = RX12 ∧ yX12_e.cls ≠ "java/lang/invoke/MethodHandle" ∧ yX12_e.cls ≠ "java/lang/invoke/VarHandle" ∧ (parseMethodDescriptor yX12_e.desc).map (fun d => d.parameters.length) = some 0 := by decide +kernel
theorem hd_X12_fails : yX12_fails.cls = RX12 ∧ yX12_fails.cls ≠ "java/lang/invoke/MethodHandle" ∧ yX12_fails.cls ≠ "java/lang/invoke/VarHandle" ∧ (parseMethodDescriptor yX12_fails.desc).map (fun d => d.parameters.length) = some 1 := by decide +kernel
theorem hd_X12_failsAt : yX12_failsAt.cls = RX12 ∧ yX12_failsAt.cls ≠ "java/lang/invoke/MethodHandle" ∧ yX12_failsAt.cls ≠ "java/lang/invoke/VarHandle" ∧ (parseMethodDescriptor yX12_failsAt.desc).map (fun d => d.parameters.length) = some 2 := by decide +kernel
theorem hd_X12_failure : yX12_failure.cls = RX12 ∧ yX12_failure.cls ≠ "java/lang/invoke/MethodHandle" ∧ yX12_failure.cls ≠ "java/lang/invoke/VarHandle" ∧ (parseMethodDescriptor yX12_failure.desc).map (fun d => d.parameters.length) = some 1 := by decide +kernel
theorem hd_X12_fieldOf : yX12_fieldOf.cls = RX12 ∧ yX12_fieldOf.cls ≠ "java/lang/invoke/MethodHandle" ∧ yX12_fieldOf.cls ≠ "java/lang/invoke/VarHandle" ∧ (parseMethodDescriptor yX12_fieldOf.desc).map (fun d => d.parameters.length) = some 2 := by decide +kernel
theorem hd_X12_fieldsAbove : yX12_fieldsAbove.cls = RX12 ∧ yX12_fieldsAbove.cls ≠ "java/lang/invoke/MethodHandle" ∧ yX12_fieldsAbove.cls ≠ "java/lang/invoke/VarHandle" ∧ (parseMethodDescriptor yX12_fieldsAbove.desc).map (fun d => d.parameters.length) = some 1 := by decide +kernel
theorem hd_X12_fill : yX12_fill.cls = RX12 ∧ yX12_fill.cls ≠ "java/lang/invoke/MethodHandle" ∧ yX12_fill.cls ≠ "java/lang/invoke/VarHandle" ∧ (parseMethodDescriptor yX12_fill.desc).map (fun d => d.parameters.length) = some 1 := by decide +kernel
theorem hd_X12_findDomains : yX12_findDomains.cls = RX12 ∧ yX12_findDomains.cls ≠ "java/lang/invoke/MethodHandle" ∧ yX12_findDomains.cls ≠ "java/lang/invoke/VarHandle" ∧ (parseMethodDescriptor yX12_findDomains.desc).map (fun d => d.parameters.length) = some 0 := by decide +kernel
theorem hd_X12_findNeeds : yX12_findNeeds.cls = RX12 ∧ yX12_findNeeds.cls ≠ "java/lang/invoke/MethodHandle" ∧ yX12_findNeeds.cls ≠ "java/lang/invoke/VarHandle" ∧ (parseMethodDescriptor yX12_findNeeds.desc).map (fun d => d.parameters.length) = some 0 := by decide +kernel
theorem hd_X12_frameAt : yX12_frameAt.cls = RX12 ∧ yX12_frameAt.cls ≠ "java/lang/invoke/MethodHandle" ∧ yX12_frameAt.cls ≠ "java/lang/invoke/VarHandle" ∧ (parseMethodDescriptor yX12_frameAt.desc).map (fun d => d.parameters.length) = some 0 := by decide +kernel
theorem hd_X12_fun : yX12_fun.cls = RX12 ∧ yX12_fun.cls ≠ "java/lang/invoke/MethodHandle" ∧ yX12_fun.cls ≠ "java/lang/invoke/VarHandle" ∧ (parseMethodDescriptor yX12_fun.desc).map (fun d => d.parameters.length) = some 0 := by decide +kernel
theorem hd_X12_gap : yX12_gap.cls = RX12 ∧ yX12_gap.cls ≠ "java/lang/invoke/MethodHandle" ∧ yX12_gap.cls ≠ "java/lang/invoke/VarHandle" ∧ (parseMethodDescriptor yX12_gap.desc).map (fun d => d.parameters.length) = some 1 := by decide +kernel
theorem hd_X12_gets : yX12_gets.cls = RX12 ∧ yX12_gets.cls ≠ "java/lang/invoke/MethodHandle" ∧ yX12_gets.cls ≠ "java/lang/invoke/VarHandle" ∧ (parseMethodDescriptor yX12_gets.desc).map (fun d => d.parameters.length) = some 2 := by decide +kernel
theorem hd_X12_goesOn : yX12_goesOn.cls = RX12 ∧ yX12_goesOn.cls ≠ "java/lang/invoke/MethodHandle" ∧ yX12_goesOn.cls ≠ "java/lang/invoke/VarHandle" ∧ (parseMethodDescriptor yX12_goesOn.desc).map (fun d => d.parameters.length) = some 2 := by decide +kernel
theorem hd_X12_going : yX12_going.cls = RX12 ∧ yX12_going.cls ≠ "java/lang/invoke/MethodHandle" ∧ yX12_going.cls ≠ "java/lang/invoke/VarHandle" ∧ (parseMethodDescriptor yX12_going.desc).map (fun d => d.parameters.length) = some 0 := by decide +kernel
theorem hd_X12_grant : yX12_grant.cls = RX12 ∧ yX12_grant.cls ≠ "java/lang/invoke/MethodHandle" ∧ yX12_grant.cls ≠ "java/lang/invoke/VarHandle" ∧ (parseMethodDescriptor yX12_grant.desc).map (fun d => d.parameters.length) = some 0 := by decide +kernel
theorem hd_X12_groupNeeds : yX12_groupNeeds.cls = RX12 ∧ yX12_groupNeeds.cls ≠ "java/lang/invoke/MethodHandle" ∧ yX12_groupNeeds.cls ≠ "java/lang/invoke/VarHandle" ∧ (parseMethodDescriptor yX12_groupNeeds.desc).map (fun d => d.parameters.length) = some 1 := by decide +kernel
theorem hd_X12_hasDomain : yX12_hasDomain.cls = RX12 ∧ yX12_hasDomain.cls ≠ "java/lang/invoke/MethodHandle" ∧ yX12_hasDomain.cls ≠ "java/lang/invoke/VarHandle" ∧ (parseMethodDescriptor yX12_hasDomain.desc).map (fun d => d.parameters.length) = some 3 := by decide +kernel
theorem hd_X12_hasLimit : yX12_hasLimit.cls = RX12 ∧ yX12_hasLimit.cls ≠ "java/lang/invoke/MethodHandle" ∧ yX12_hasLimit.cls ≠ "java/lang/invoke/VarHandle" ∧ (parseMethodDescriptor yX12_hasLimit.desc).map (fun d => d.parameters.length) = some 3 := by decide +kernel
theorem hd_X12_hasRight : yX12_hasRight.cls = RX12 ∧ yX12_hasRight.cls ≠ "java/lang/invoke/MethodHandle" ∧ yX12_hasRight.cls ≠ "java/lang/invoke/VarHandle" ∧ (parseMethodDescriptor yX12_hasRight.desc).map (fun d => d.parameters.length) = some 3 := by decide +kernel
theorem hd_X12_hasWaited : yX12_hasWaited.cls = RX12 ∧ yX12_hasWaited.cls ≠ "java/lang/invoke/MethodHandle" ∧ yX12_hasWaited.cls ≠ "java/lang/invoke/VarHandle" ∧ (parseMethodDescriptor yX12_hasWaited.desc).map (fun d => d.parameters.length) = some 1 := by decide +kernel
theorem hd_X12_ifE : yX12_ifE.cls = RX12 ∧ yX12_ifE.cls ≠ "java/lang/invoke/MethodHandle" ∧ yX12_ifE.cls ≠ "java/lang/invoke/VarHandle" ∧ (parseMethodDescriptor yX12_ifE.desc).map (fun d => d.parameters.length) = some 0 := by decide +kernel
theorem hd_X12_in : yX12_in.cls = RX12 ∧ yX12_in.cls ≠ "java/lang/invoke/MethodHandle" ∧ yX12_in.cls ≠ "java/lang/invoke/VarHandle" ∧ (parseMethodDescriptor yX12_in.desc).map (fun d => d.parameters.length) = some 3 := by decide +kernel
theorem hd_X12_innerPrefix : yX12_innerPrefix.cls = RX12 ∧ yX12_innerPrefix.cls ≠ "java/lang/invoke/MethodHandle" ∧ yX12_innerPrefix.cls ≠ "java/lang/invoke/VarHandle" ∧ (parseMethodDescriptor yX12_innerPrefix.desc).map (fun d => d.parameters.length) = some 0 := by decide +kernel
theorem hd_X12_isDigit : yX12_isDigit.cls = RX12 ∧ yX12_isDigit.cls ≠ "java/lang/invoke/MethodHandle" ∧ yX12_isDigit.cls ≠ "java/lang/invoke/VarHandle" ∧ (parseMethodDescriptor yX12_isDigit.desc).map (fun d => d.parameters.length) = some 1 := by decide +kernel
theorem hd_X12_isFine : yX12_isFine.cls = RX12 ∧ yX12_isFine.cls ≠ "java/lang/invoke/MethodHandle" ∧ yX12_isFine.cls ≠ "java/lang/invoke/VarHandle" ∧ (parseMethodDescriptor yX12_isFine.desc).map (fun d => d.parameters.length) = some 0 := by decide +kernel
theorem hd_X12_isGrantedBy : yX12_isGrantedBy.cls = RX12 ∧ yX12_isGrantedBy.cls ≠ "java/lang/invoke/MethodHandle" ∧ yX12_isGrantedBy.cls ≠ "java/lang/invoke/VarHandle" ∧ (parseMethodDescriptor yX12_isGrantedBy.desc).map (fun d => d.parameters.length) = some 2 := by decide +kernel
theorem hd_X12_isGrantedIn : yX12_isGrantedIn.cls = RX12 ∧ yX12_isGrantedIn.cls ≠ "java/lang/invoke/MethodHandle" ∧ yX12_isGrantedIn.cls ≠ "java/lang/invoke/VarHandle" ∧ (parseMethodDescriptor yX12_isGrantedIn.desc).map (fun d => d.parameters.length) = some 2 := by decide +kernel
theorem hd_X12_isKey : yX12_isKey.cls = RX12 ∧ yX12_isKey.cls ≠ "java/lang/invoke/MethodHandle" ∧ yX12_isKey.cls ≠ "java/lang/invoke/VarHandle" ∧ (parseMethodDescriptor yX12_isKey.desc).map (fun d => d.parameters.length) = some 1 := by decide +kernel
theorem hd_X12_isLetter : yX12_isLetter.cls = RX12 ∧ yX12_isLetter.cls ≠ "java/lang/invoke/MethodHandle" ∧ yX12_isLetter.cls ≠ "java/lang/invoke/VarHandle" ∧ (parseMethodDescriptor yX12_isLetter.desc).map (fun d => d.parameters.length) = some 1 := by decide +kernel
theorem hd_X12_isName : yX12_isName.cls = RX12 ∧ yX12_isName.cls ≠ "java/lang/invoke/MethodHandle" ∧ yX12_isName.cls ≠ "java/lang/invoke/VarHandle" ∧ (parseMethodDescriptor yX12_isName.desc).map (fun d => d.parameters.length) = some 0 := by decide +kernel
theorem hd_X12_isOfGroup : yX12_isOfGroup.cls = RX12 ∧ yX12_isOfGroup.cls ≠ "java/lang/invoke/MethodHandle" ∧ yX12_isOfGroup.cls ≠ "java/lang/invoke/VarHandle" ∧ (parseMethodDescriptor yX12_isOfGroup.desc).map (fun d => d.parameters.length) = some 2 := by decide +kernel
theorem hd_X12_isSign : yX12_isSign.cls = RX12 ∧ yX12_isSign.cls ≠ "java/lang/invoke/MethodHandle" ∧ yX12_isSign.cls ≠ "java/lang/invoke/VarHandle" ∧ (parseMethodDescriptor yX12_isSign.desc).map (fun d => d.parameters.length) = some 1 := by decide +kernel
theorem hd_X12_isSpine : yX12_isSpine.cls = RX12 ∧ yX12_isSpine.cls ≠ "java/lang/invoke/MethodHandle" ∧ yX12_isSpine.cls ≠ "java/lang/invoke/VarHandle" ∧ (parseMethodDescriptor yX12_isSpine.desc).map (fun d => d.parameters.length) = some 1 := by decide +kernel
theorem hd_X12_isUnit : yX12_isUnit.cls = RX12 ∧ yX12_isUnit.cls ≠ "java/lang/invoke/MethodHandle" ∧ yX12_isUnit.cls ≠ "java/lang/invoke/VarHandle" ∧ (parseMethodDescriptor yX12_isUnit.desc).map (fun d => d.parameters.length) = some 1 := by decide +kernel
theorem hd_X12_keepMade : yX12_keepMade.cls = RX12 ∧ yX12_keepMade.cls ≠ "java/lang/invoke/MethodHandle" ∧ yX12_keepMade.cls ≠ "java/lang/invoke/VarHandle" ∧ (parseMethodDescriptor yX12_keepMade.desc).map (fun d => d.parameters.length) = some 0 := by decide +kernel
theorem hd_X12_keepPattern : yX12_keepPattern.cls = RX12 ∧ yX12_keepPattern.cls ≠ "java/lang/invoke/MethodHandle" ∧ yX12_keepPattern.cls ≠ "java/lang/invoke/VarHandle" ∧ (parseMethodDescriptor yX12_keepPattern.desc).map (fun d => d.parameters.length) = some 1 := by decide +kernel
theorem hd_X12_key : yX12_key.cls = RX12 ∧ yX12_key.cls ≠ "java/lang/invoke/MethodHandle" ∧ yX12_key.cls ≠ "java/lang/invoke/VarHandle" ∧ (parseMethodDescriptor yX12_key.desc).map (fun d => d.parameters.length) = some 1 := by decide +kernel
theorem hd_X12_keywordOf : yX12_keywordOf.cls = RX12 ∧ yX12_keywordOf.cls ≠ "java/lang/invoke/MethodHandle" ∧ yX12_keywordOf.cls ≠ "java/lang/invoke/VarHandle" ∧ (parseMethodDescriptor yX12_keywordOf.desc).map (fun d => d.parameters.length) = some 1 := by decide +kernel
theorem hd_X12_letE : yX12_letE.cls = RX12 ∧ yX12_letE.cls ≠ "java/lang/invoke/MethodHandle" ∧ yX12_letE.cls ≠ "java/lang/invoke/VarHandle" ∧ (parseMethodDescriptor yX12_letE.desc).map (fun d => d.parameters.length) = some 0 := by decide +kernel
theorem hd_X12_localOf : yX12_localOf.cls = RX12 ∧ yX12_localOf.cls ≠ "java/lang/invoke/MethodHandle" ∧ yX12_localOf.cls ≠ "java/lang/invoke/VarHandle" ∧ (parseMethodDescriptor yX12_localOf.desc).map (fun d => d.parameters.length) = some 2 := by decide +kernel
theorem hd_X12_localsOf : yX12_localsOf.cls = RX12 ∧ yX12_localsOf.cls ≠ "java/lang/invoke/MethodHandle" ∧ yX12_localsOf.cls ≠ "java/lang/invoke/VarHandle" ∧ (parseMethodDescriptor yX12_localsOf.desc).map (fun d => d.parameters.length) = some 1 := by decide +kernel
theorem hd_X12_methodOf : yX12_methodOf.cls = RX12 ∧ yX12_methodOf.cls ≠ "java/lang/invoke/MethodHandle" ∧ yX12_methodOf.cls ≠ "java/lang/invoke/VarHandle" ∧ (parseMethodDescriptor yX12_methodOf.desc).map (fun d => d.parameters.length) = some 3 := by decide +kernel
theorem hd_X12_misfit : yX12_misfit.cls = RX12 ∧ yX12_misfit.cls ≠ "java/lang/invoke/MethodHandle" ∧ yX12_misfit.cls ≠ "java/lang/invoke/VarHandle" ∧ (parseMethodDescriptor yX12_misfit.desc).map (fun d => d.parameters.length) = some 0 := by decide +kernel
theorem hd_X12_moduleOf : yX12_moduleOf.cls = RX12 ∧ yX12_moduleOf.cls ≠ "java/lang/invoke/MethodHandle" ∧ yX12_moduleOf.cls ≠ "java/lang/invoke/VarHandle" ∧ (parseMethodDescriptor yX12_moduleOf.desc).map (fun d => d.parameters.length) = some 1 := by decide +kernel
theorem hd_X12_nameOf : yX12_nameOf.cls = RX12 ∧ yX12_nameOf.cls ≠ "java/lang/invoke/MethodHandle" ∧ yX12_nameOf.cls ≠ "java/lang/invoke/VarHandle" ∧ (parseMethodDescriptor yX12_nameOf.desc).map (fun d => d.parameters.length) = some 1 := by decide +kernel
theorem hd_X12_newAtom : yX12_newAtom.cls = RX12 ∧ yX12_newAtom.cls ≠ "java/lang/invoke/MethodHandle" ∧ yX12_newAtom.cls ≠ "java/lang/invoke/VarHandle" ∧ (parseMethodDescriptor yX12_newAtom.desc).map (fun d => d.parameters.length) = some 0 := by decide +kernel
theorem hd_X12_newObject : yX12_newObject.cls = RX12 ∧ yX12_newObject.cls ≠ "java/lang/invoke/MethodHandle" ∧ yX12_newObject.cls ≠ "java/lang/invoke/VarHandle" ∧ (parseMethodDescriptor yX12_newObject.desc).map (fun d => d.parameters.length) = some 1 := by decide +kernel
theorem hd_X12_newThing : yX12_newThing.cls = RX12 ∧ yX12_newThing.cls ≠ "java/lang/invoke/MethodHandle" ∧ yX12_newThing.cls ≠ "java/lang/invoke/VarHandle" ∧ (parseMethodDescriptor yX12_newThing.desc).map (fun d => d.parameters.length) = some 2 := by decide +kernel
theorem hd_X12_newThread : yX12_newThread.cls = RX12 ∧ yX12_newThread.cls ≠ "java/lang/invoke/MethodHandle" ∧ yX12_newThread.cls ≠ "java/lang/invoke/VarHandle" ∧ (parseMethodDescriptor yX12_newThread.desc).map (fun d => d.parameters.length) = some 0 := by decide +kernel
theorem hd_X12_newUnit : yX12_newUnit.cls = RX12 ∧ yX12_newUnit.cls ≠ "java/lang/invoke/MethodHandle" ∧ yX12_newUnit.cls ≠ "java/lang/invoke/VarHandle" ∧ (parseMethodDescriptor yX12_newUnit.desc).map (fun d => d.parameters.length) = some 3 := by decide +kernel
theorem hd_X12_newVariable : yX12_newVariable.cls = RX12 ∧ yX12_newVariable.cls ≠ "java/lang/invoke/MethodHandle" ∧ yX12_newVariable.cls ≠ "java/lang/invoke/VarHandle" ∧ (parseMethodDescriptor yX12_newVariable.desc).map (fun d => d.parameters.length) = some 4 := by decide +kernel
theorem hd_X12_next : yX12_next.cls = RX12 ∧ yX12_next.cls ≠ "java/lang/invoke/MethodHandle" ∧ yX12_next.cls ≠ "java/lang/invoke/VarHandle" ∧ (parseMethodDescriptor yX12_next.desc).map (fun d => d.parameters.length) = some 0 := by decide +kernel
theorem hd_X12_nextName : yX12_nextName.cls = RX12 ∧ yX12_nextName.cls ≠ "java/lang/invoke/MethodHandle" ∧ yX12_nextName.cls ≠ "java/lang/invoke/VarHandle" ∧ (parseMethodDescriptor yX12_nextName.desc).map (fun d => d.parameters.length) = some 0 := by decide +kernel
theorem hd_X12_nextNumber : yX12_nextNumber.cls = RX12 ∧ yX12_nextNumber.cls ≠ "java/lang/invoke/MethodHandle" ∧ yX12_nextNumber.cls ≠ "java/lang/invoke/VarHandle" ∧ (parseMethodDescriptor yX12_nextNumber.desc).map (fun d => d.parameters.length) = some 0 := by decide +kernel
theorem hd_X12_nextPattern : yX12_nextPattern.cls = RX12 ∧ yX12_nextPattern.cls ≠ "java/lang/invoke/MethodHandle" ∧ yX12_nextPattern.cls ≠ "java/lang/invoke/VarHandle" ∧ (parseMethodDescriptor yX12_nextPattern.desc).map (fun d => d.parameters.length) = some 0 := by decide +kernel
theorem hd_X12_nextSign : yX12_nextSign.cls = RX12 ∧ yX12_nextSign.cls ≠ "java/lang/invoke/MethodHandle" ∧ yX12_nextSign.cls ≠ "java/lang/invoke/VarHandle" ∧ (parseMethodDescriptor yX12_nextSign.desc).map (fun d => d.parameters.length) = some 1 := by decide +kernel
theorem hd_X12_node : yX12_node.cls = RX12 ∧ yX12_node.cls ≠ "java/lang/invoke/MethodHandle" ∧ yX12_node.cls ≠ "java/lang/invoke/VarHandle" ∧ (parseMethodDescriptor yX12_node.desc).map (fun d => d.parameters.length) = some 3 := by decide +kernel
theorem hd_X12_nodeNeeds : yX12_nodeNeeds.cls = RX12 ∧ yX12_nodeNeeds.cls ≠ "java/lang/invoke/MethodHandle" ∧ yX12_nodeNeeds.cls ≠ "java/lang/invoke/VarHandle" ∧ (parseMethodDescriptor yX12_nodeNeeds.desc).map (fun d => d.parameters.length) = some 1 := by decide +kernel
theorem hd_X12_numberOf : yX12_numberOf.cls = RX12 ∧ yX12_numberOf.cls ≠ "java/lang/invoke/MethodHandle" ∧ yX12_numberOf.cls ≠ "java/lang/invoke/VarHandle" ∧ (parseMethodDescriptor yX12_numberOf.desc).map (fun d => d.parameters.length) = some 1 := by decide +kernel
theorem hd_X12_opening : yX12_opening.cls = RX12 ∧ yX12_opening.cls ≠ "java/lang/invoke/MethodHandle" ∧ yX12_opening.cls ≠ "java/lang/invoke/VarHandle" ∧ (parseMethodDescriptor yX12_opening.desc).map (fun d => d.parameters.length) = some 1 := by decide +kernel
theorem hd_X12_operation : yX12_operation.cls = RX12 ∧ yX12_operation.cls ≠ "java/lang/invoke/MethodHandle" ∧ yX12_operation.cls ≠ "java/lang/invoke/VarHandle" ∧ (parseMethodDescriptor yX12_operation.desc).map (fun d => d.parameters.length) = some 2 := by decide +kernel
theorem hd_X12_own : yX12_own.cls = RX12 ∧ yX12_own.cls ≠ "java/lang/invoke/MethodHandle" ∧ yX12_own.cls ≠ "java/lang/invoke/VarHandle" ∧ (parseMethodDescriptor yX12_own.desc).map (fun d => d.parameters.length) = some 1 := by decide +kernel
theorem hd_X12_parameters : yX12_parameters.cls = RX12 ∧ yX12_parameters.cls ≠ "java/lang/invoke/MethodHandle" ∧ yX12_parameters.cls ≠ "java/lang/invoke/VarHandle" ∧ (parseMethodDescriptor yX12_parameters.desc).map (fun d => d.parameters.length) = some 2 := by decide +kernel
theorem hd_X12_pattern : yX12_pattern.cls = RX12 ∧ yX12_pattern.cls ≠ "java/lang/invoke/MethodHandle" ∧ yX12_pattern.cls ≠ "java/lang/invoke/VarHandle" ∧ (parseMethodDescriptor yX12_pattern.desc).map (fun d => d.parameters.length) = some 2 := by decide +kernel
theorem hd_X12_placeWith : yX12_placeWith.cls = RX12 ∧ yX12_placeWith.cls ≠ "java/lang/invoke/MethodHandle" ∧ yX12_placeWith.cls ≠ "java/lang/invoke/VarHandle" ∧ (parseMethodDescriptor yX12_placeWith.desc).map (fun d => d.parameters.length) = some 2 := by decide +kernel
theorem hd_X12_pop : yX12_pop.cls = RX12 ∧ yX12_pop.cls ≠ "java/lang/invoke/MethodHandle" ∧ yX12_pop.cls ≠ "java/lang/invoke/VarHandle" ∧ (parseMethodDescriptor yX12_pop.desc).map (fun d => d.parameters.length) = some 0 := by decide +kernel
theorem hd_X12_postfix : yX12_postfix.cls = RX12 ∧ yX12_postfix.cls ≠ "java/lang/invoke/MethodHandle" ∧ yX12_postfix.cls ≠ "java/lang/invoke/VarHandle" ∧ (parseMethodDescriptor yX12_postfix.desc).map (fun d => d.parameters.length) = some 0 := by decide +kernel
theorem hd_X12_prefix : yX12_prefix.cls = RX12 ∧ yX12_prefix.cls ≠ "java/lang/invoke/MethodHandle" ∧ yX12_prefix.cls ≠ "java/lang/invoke/VarHandle" ∧ (parseMethodDescriptor yX12_prefix.desc).map (fun d => d.parameters.length) = some 0 := by decide +kernel
theorem hd_X12_priv : yX12_priv.cls = RX12 ∧ yX12_priv.cls ≠ "java/lang/invoke/MethodHandle" ∧ yX12_priv.cls ≠ "java/lang/invoke/VarHandle" ∧ (parseMethodDescriptor yX12_priv.desc).map (fun d => d.parameters.length) = some 0 := by decide +kernel
theorem hd_X12_product : yX12_product.cls = RX12 ∧ yX12_product.cls ≠ "java/lang/invoke/MethodHandle" ∧ yX12_product.cls ≠ "java/lang/invoke/VarHandle" ∧ (parseMethodDescriptor yX12_product.desc).map (fun d => d.parameters.length) = some 0 := by decide +kernel
theorem hd_X12_push : yX12_push.cls = RX12 ∧ yX12_push.cls ≠ "java/lang/invoke/MethodHandle" ∧ yX12_push.cls ≠ "java/lang/invoke/VarHandle" ∧ (parseMethodDescriptor yX12_push.desc).map (fun d => d.parameters.length) = some 2 := by decide +kernel
theorem hd_X12_put : yX12_put.cls = RX12 ∧ yX12_put.cls ≠ "java/lang/invoke/MethodHandle" ∧ yX12_put.cls ≠ "java/lang/invoke/VarHandle" ∧ (parseMethodDescriptor yX12_put.desc).map (fun d => d.parameters.length) = some 1 := by decide +kernel
theorem hd_X12_putNumber : yX12_putNumber.cls = RX12 ∧ yX12_putNumber.cls ≠ "java/lang/invoke/MethodHandle" ∧ yX12_putNumber.cls ≠ "java/lang/invoke/VarHandle" ∧ (parseMethodDescriptor yX12_putNumber.desc).map (fun d => d.parameters.length) = some 1 := by decide +kernel
theorem hd_X12_put_ : yX12_put_.cls = RX12 ∧ yX12_put_.cls ≠ "java/lang/invoke/MethodHandle" ∧ yX12_put_.cls ≠ "java/lang/invoke/VarHandle" ∧ (parseMethodDescriptor yX12_put_.desc).map (fun d => d.parameters.length) = some 2 := by decide +kernel
theorem hd_X12_readAll : yX12_readAll.cls = RX12 ∧ yX12_readAll.cls ≠ "java/lang/invoke/MethodHandle" ∧ yX12_readAll.cls ≠ "java/lang/invoke/VarHandle" ∧ (parseMethodDescriptor yX12_readAll.desc).map (fun d => d.parameters.length) = some 0 := by decide +kernel
theorem hd_X12_readField : yX12_readField.cls = RX12 ∧ yX12_readField.cls ≠ "java/lang/invoke/MethodHandle" ∧ yX12_readField.cls ≠ "java/lang/invoke/VarHandle" ∧ (parseMethodDescriptor yX12_readField.desc).map (fun d => d.parameters.length) = some 1 := by decide +kernel
theorem hd_X12_readMethod : yX12_readMethod.cls = RX12 ∧ yX12_readMethod.cls ≠ "java/lang/invoke/MethodHandle" ∧ yX12_readMethod.cls ≠ "java/lang/invoke/VarHandle" ∧ (parseMethodDescriptor yX12_readMethod.desc).map (fun d => d.parameters.length) = some 1 := by decide +kernel
theorem hd_X12_readModule : yX12_readModule.cls = RX12 ∧ yX12_readModule.cls ≠ "java/lang/invoke/MethodHandle" ∧ yX12_readModule.cls ≠ "java/lang/invoke/VarHandle" ∧ (parseMethodDescriptor yX12_readModule.desc).map (fun d => d.parameters.length) = some 0 := by decide +kernel
theorem hd_X12_ready : yX12_ready.cls = RX12 ∧ yX12_ready.cls ≠ "java/lang/invoke/MethodHandle" ∧ yX12_ready.cls ≠ "java/lang/invoke/VarHandle" ∧ (parseMethodDescriptor yX12_ready.desc).map (fun d => d.parameters.length) = some 0 := by decide +kernel
theorem hd_X12_reckons : yX12_reckons.cls = RX12 ∧ yX12_reckons.cls ≠ "java/lang/invoke/MethodHandle" ∧ yX12_reckons.cls ≠ "java/lang/invoke/VarHandle" ∧ (parseMethodDescriptor yX12_reckons.desc).map (fun d => d.parameters.length) = some 1 := by decide +kernel
theorem hd_X12_right : yX12_right.cls = RX12 ∧ yX12_right.cls ≠ "java/lang/invoke/MethodHandle" ∧ yX12_right.cls ≠ "java/lang/invoke/VarHandle" ∧ (parseMethodDescriptor yX12_right.desc).map (fun d => d.parameters.length) = some 1 := by decide +kernel
theorem hd_X12_row : yX12_row.cls = RX12 ∧ yX12_row.cls ≠ "java/lang/invoke/MethodHandle" ∧ yX12_row.cls ≠ "java/lang/invoke/VarHandle" ∧ (parseMethodDescriptor yX12_row.desc).map (fun d => d.parameters.length) = some 0 := by decide +kernel
theorem hd_X12_selfAtom : yX12_selfAtom.cls = RX12 ∧ yX12_selfAtom.cls ≠ "java/lang/invoke/MethodHandle" ∧ yX12_selfAtom.cls ≠ "java/lang/invoke/VarHandle" ∧ (parseMethodDescriptor yX12_selfAtom.desc).map (fun d => d.parameters.length) = some 0 := by decide +kernel
theorem hd_X12_sends : yX12_sends.cls = RX12 ∧ yX12_sends.cls ≠ "java/lang/invoke/MethodHandle" ∧ yX12_sends.cls ≠ "java/lang/invoke/VarHandle" ∧ (parseMethodDescriptor yX12_sends.desc).map (fun d => d.parameters.length) = some 2 := by decide +kernel
theorem hd_X12_setLocal : yX12_setLocal.cls = RX12 ∧ yX12_setLocal.cls ≠ "java/lang/invoke/MethodHandle" ∧ yX12_setLocal.cls ≠ "java/lang/invoke/VarHandle" ∧ (parseMethodDescriptor yX12_setLocal.desc).map (fun d => d.parameters.length) = some 5 := by decide +kernel
theorem hd_X12_sign : yX12_sign.cls = RX12 ∧ yX12_sign.cls ≠ "java/lang/invoke/MethodHandle" ∧ yX12_sign.cls ≠ "java/lang/invoke/VarHandle" ∧ (parseMethodDescriptor yX12_sign.desc).map (fun d => d.parameters.length) = some 1 := by decide +kernel
theorem hd_X12_simple : yX12_simple.cls = RX12 ∧ yX12_simple.cls ≠ "java/lang/invoke/MethodHandle" ∧ yX12_simple.cls ≠ "java/lang/invoke/VarHandle" ∧ (parseMethodDescriptor yX12_simple.desc).map (fun d => d.parameters.length) = some 3 := by decide +kernel
theorem hd_X12_simpleNumber : yX12_simpleNumber.cls = RX12 ∧ yX12_simpleNumber.cls ≠ "java/lang/invoke/MethodHandle" ∧ yX12_simpleNumber.cls ≠ "java/lang/invoke/VarHandle" ∧ (parseMethodDescriptor yX12_simpleNumber.desc).map (fun d => d.parameters.length) = some 0 := by decide +kernel
theorem hd_X12_spawns : yX12_spawns.cls = RX12 ∧ yX12_spawns.cls ≠ "java/lang/invoke/MethodHandle" ∧ yX12_spawns.cls ≠ "java/lang/invoke/VarHandle" ∧ (parseMethodDescriptor yX12_spawns.desc).map (fun d => d.parameters.length) = some 2 := by decide +kernel
theorem hd_X12_step : yX12_step.cls = RX12 ∧ yX12_step.cls ≠ "java/lang/invoke/MethodHandle" ∧ yX12_step.cls ≠ "java/lang/invoke/VarHandle" ∧ (parseMethodDescriptor yX12_step.desc).map (fun d => d.parameters.length) = some 0 := by decide +kernel
theorem hd_X12_stepBack : yX12_stepBack.cls = RX12 ∧ yX12_stepBack.cls ≠ "java/lang/invoke/MethodHandle" ∧ yX12_stepBack.cls ≠ "java/lang/invoke/VarHandle" ∧ (parseMethodDescriptor yX12_stepBack.desc).map (fun d => d.parameters.length) = some 1 := by decide +kernel
theorem hd_X12_stepField : yX12_stepField.cls = RX12 ∧ yX12_stepField.cls ≠ "java/lang/invoke/MethodHandle" ∧ yX12_stepField.cls ≠ "java/lang/invoke/VarHandle" ∧ (parseMethodDescriptor yX12_stepField.desc).map (fun d => d.parameters.length) = some 2 := by decide +kernel
theorem hd_X12_stepIf : yX12_stepIf.cls = RX12 ∧ yX12_stepIf.cls ≠ "java/lang/invoke/MethodHandle" ∧ yX12_stepIf.cls ≠ "java/lang/invoke/VarHandle" ∧ (parseMethodDescriptor yX12_stepIf.desc).map (fun d => d.parameters.length) = some 2 := by decide +kernel
theorem hd_X12_stepOther : yX12_stepOther.cls = RX12 ∧ yX12_stepOther.cls ≠ "java/lang/invoke/MethodHandle" ∧ yX12_stepOther.cls ≠ "java/lang/invoke/VarHandle" ∧ (parseMethodDescriptor yX12_stepOther.desc).map (fun d => d.parameters.length) = some 4 := by decide +kernel
theorem hd_X12_stepPart : yX12_stepPart.cls = RX12 ∧ yX12_stepPart.cls ≠ "java/lang/invoke/MethodHandle" ∧ yX12_stepPart.cls ≠ "java/lang/invoke/VarHandle" ∧ (parseMethodDescriptor yX12_stepPart.desc).map (fun d => d.parameters.length) = some 1 := by decide +kernel
theorem hd_X12_stepTry : yX12_stepTry.cls = RX12 ∧ yX12_stepTry.cls ≠ "java/lang/invoke/MethodHandle" ∧ yX12_stepTry.cls ≠ "java/lang/invoke/VarHandle" ∧ (parseMethodDescriptor yX12_stepTry.desc).map (fun d => d.parameters.length) = some 2 := by decide +kernel
theorem hd_X12_stepWord : yX12_stepWord.cls = RX12 ∧ yX12_stepWord.cls ≠ "java/lang/invoke/MethodHandle" ∧ yX12_stepWord.cls ≠ "java/lang/invoke/VarHandle" ∧ (parseMethodDescriptor yX12_stepWord.desc).map (fun d => d.parameters.length) = some 1 := by decide +kernel
theorem hd_X12_sum : yX12_sum.cls = RX12 ∧ yX12_sum.cls ≠ "java/lang/invoke/MethodHandle" ∧ yX12_sum.cls ≠ "java/lang/invoke/VarHandle" ∧ (parseMethodDescriptor yX12_sum.desc).map (fun d => d.parameters.length) = some 0 := by decide +kernel
theorem hd_X12_takeCaptured : yX12_takeCaptured.cls = RX12 ∧ yX12_takeCaptured.cls ≠ "java/lang/invoke/MethodHandle" ∧ yX12_takeCaptured.cls ≠ "java/lang/invoke/VarHandle" ∧ (parseMethodDescriptor yX12_takeCaptured.desc).map (fun d => d.parameters.length) = some 2 := by decide +kernel
theorem hd_X12_tells : yX12_tells.cls = RX12 ∧ yX12_tells.cls ≠ "java/lang/invoke/MethodHandle" ∧ yX12_tells.cls ≠ "java/lang/invoke/VarHandle" ∧ (parseMethodDescriptor yX12_tells.desc).map (fun d => d.parameters.length) = some 4 := by decide +kernel
theorem hd_X12_tryE : yX12_tryE.cls = RX12 ∧ yX12_tryE.cls ≠ "java/lang/invoke/MethodHandle" ∧ yX12_tryE.cls ≠ "java/lang/invoke/VarHandle" ∧ (parseMethodDescriptor yX12_tryE.desc).map (fun d => d.parameters.length) = some 0 := by decide +kernel
theorem hd_X12_under : yX12_under.cls = RX12 ∧ yX12_under.cls ≠ "java/lang/invoke/MethodHandle" ∧ yX12_under.cls ≠ "java/lang/invoke/VarHandle" ∧ (parseMethodDescriptor yX12_under.desc).map (fun d => d.parameters.length) = some 0 := by decide +kernel
theorem hd_X12_variable : yX12_variable.cls = RX12 ∧ yX12_variable.cls ≠ "java/lang/invoke/MethodHandle" ∧ yX12_variable.cls ≠ "java/lang/invoke/VarHandle" ∧ (parseMethodDescriptor yX12_variable.desc).map (fun d => d.parameters.length) = some 0 := by decide +kernel
theorem hd_X12_wholeE : yX12_wholeE.cls = RX12 ∧ yX12_wholeE.cls ≠ "java/lang/invoke/MethodHandle" ∧ yX12_wholeE.cls ≠ "java/lang/invoke/VarHandle" ∧ (parseMethodDescriptor yX12_wholeE.desc).map (fun d => d.parameters.length) = some 0 := by decide +kernel
theorem hd_X12_wordAt : yX12_wordAt.cls = RX12 ∧ yX12_wordAt.cls ≠ "java/lang/invoke/MethodHandle" ∧ yX12_wordAt.cls ≠ "java/lang/invoke/VarHandle" ∧ (parseMethodDescriptor yX12_wordAt.desc).map (fun d => d.parameters.length) = some 1 := by decide +kernel
theorem hd_X12_write : yX12_write.cls = RX12 ∧ yX12_write.cls ≠ "java/lang/invoke/MethodHandle" ∧ yX12_write.cls ≠ "java/lang/invoke/VarHandle" ∧ (parseMethodDescriptor yX12_write.desc).map (fun d => d.parameters.length) = some 1 := by decide +kernel
theorem hd_X12_writeAll : yX12_writeAll.cls = RX12 ∧ yX12_writeAll.cls ≠ "java/lang/invoke/MethodHandle" ∧ yX12_writeAll.cls ≠ "java/lang/invoke/VarHandle" ∧ (parseMethodDescriptor yX12_writeAll.desc).map (fun d => d.parameters.length) = some 0 := by decide +kernel
theorem hd_X12_writeIf : yX12_writeIf.cls = RX12 ∧ yX12_writeIf.cls ≠ "java/lang/invoke/MethodHandle" ∧ yX12_writeIf.cls ≠ "java/lang/invoke/VarHandle" ∧ (parseMethodDescriptor yX12_writeIf.desc).map (fun d => d.parameters.length) = some 1 := by decide +kernel
theorem hd_X12_writeOne : yX12_writeOne.cls = RX12 ∧ yX12_writeOne.cls ≠ "java/lang/invoke/MethodHandle" ∧ yX12_writeOne.cls ≠ "java/lang/invoke/VarHandle" ∧ (parseMethodDescriptor yX12_writeOne.desc).map (fun d => d.parameters.length) = some 1 := by decide +kernel
theorem hd_X12_writeSpine : yX12_writeSpine.cls = RX12 ∧ yX12_writeSpine.cls ≠ "java/lang/invoke/MethodHandle" ∧ yX12_writeSpine.cls ≠ "java/lang/invoke/VarHandle" ∧ (parseMethodDescriptor yX12_writeSpine.desc).map (fun d => d.parameters.length) = some 1 := by decide +kernel
theorem hd_X12_writeTry : yX12_writeTry.cls = RX12 ∧ yX12_writeTry.cls ≠ "java/lang/invoke/MethodHandle" ∧ yX12_writeTry.cls ≠ "java/lang/invoke/VarHandle" ∧ (parseMethodDescriptor yX12_writeTry.desc).map (fun d => d.parameters.length) = some 2 := by decide +kernel
theorem hd_X12_writeUnit : yX12_writeUnit.cls = RX12 ∧ yX12_writeUnit.cls ≠ "java/lang/invoke/MethodHandle" ∧ yX12_writeUnit.cls ≠ "java/lang/invoke/VarHandle" ∧ (parseMethodDescriptor yX12_writeUnit.desc).map (fun d => d.parameters.length) = some 2 := by decide +kernel
theorem md_giK {c a1 a2 a3 a4 : Cond} {ws : List Cond} (h1 : a1 ∈ v_MOD) (h2 : a2 ∈ v_MOD) (h3 : a3 ∈ v_MOD) (h4 : a4 ∈ v_MOD) (hs : ∀ w ∈ ws, w ∈ v_MOD) : GoodIn (c :: v_MOD) (([a1, a2, a3, a4] : List Cond) ++ ws) := fun w h => by
  have hm : w ∈ v_MOD := by
    rcases List.mem_append.mp h with h | h
    · rcases List.mem_cons.mp h with h | h
      · rw [h]; exact h1
      rcases List.mem_cons.mp h with h | h
      · rw [h]; exact h2
      rcases List.mem_cons.mp h with h | h
      · rw [h]; exact h3
      rcases List.mem_cons.mp h with h | h
      · rw [h]; exact h4
      exact nomatch h
    · exact hs w h
  exact ⟨List.mem_cons_of_mem _ hm, gd_MOD w hm⟩
theorem md_chs {k v : Int32} (h : md_ch k = some v) : ¬ k < 0 ∧ k < nI 113 ∧ v = md_kwb k.toNatClampNeg &&& 255 := by
  unfold md_ch at h
  split at h
  · rename_i q
    refine ⟨fun r => ?_, ?_, (Option.some.inj h).symm⟩
    · rw [Int32.lt_iff_toInt_lt, Int32.toInt_zero] at r
      omega
    · rw [Int32.lt_iff_toInt_lt]
      have : (nI 113).toInt = 113 := by decide
      omega
  · cases h
theorem md_ixs {k v : Int32} (h : md_ix k = some v) : ∃ f0 : Nat, f0 < 113 ∧ k = nI f0 ∧ v = st_fc md_kwb (32 : Int32).toInt8.toInt32 (113 - f0) f0 := by
  unfold md_ix at h
  split at h
  · rename_i q
    obtain ⟨j, h1, h2⟩ := vp_in_of (n := 113) (vp_in_iff.mpr q) (by decide)
    subst h2
    refine ⟨j, h1, rfl, ?_⟩
    rw [nI_clamp (by omega)] at h
    exact (Option.some.inj h).symm
  · cases h
theorem md_ixM {l : Launch} {D : va_G} {cA : Nat → ClassId} {E : hp_N} {sz : Nat} {g : hp_M} (hcs : st_cs E) {sq sv : Nat} (hst : st_str E sq sv 113 md_kwb) {k : Int32} {f0 : Nat} (hk : k = nI f0) (hf : f0 < 113) : Met l yJ0_indexOf_7cf53 wsJ0_indexOf_7cf53 ({ frames := 2, cells := 0, slots := 0, locals := 110 }) (hp_Pc D vwCl (hp_Tl cA) E sz g [.ref sq, .int 32, .int k]) (hp_Qi D vwCl (hp_Tl cA) sz g (fun r u => u = g ∧ r = st_fc md_kwb (32 : Int32).toInt8.toInt32 (113 - f0) f0)) 0 0 (hp_A g sz) := by
  rw [hk]
  exact k_Str_indexOf2 l D cA E sz g hcs sq sv 113 md_kwb hst (by decide) 32 (by decide) (by decide) f0 hf
section MDL
variable {p : Program} {l : Launch} {e : Env} {R : Room} {s : State} {m : MethodId} {args : Array Value} {below : List Frame} {meth : Method} {c : Code} {H : Heap} {locs : List Loc} {cells slots : Nat} {Q : State → Prop}
variable {cc : ByteArray} {pc : Nat} {ls : Array Slot} {rest : List Value}
theorem hp_ldcSW (hexec : p.tables.exec = Jvm.exec) (hb : c.code = cc) {own tx : String} {index q : Nat} (hown : s.vm.findClass own = some m.cls) (hZ : vk_R own index tx q s) (hdg : decode cc pc = .ok (.ldc_w index, 3)) (k : W p l e R s m args below meth c H locs cells slots Q (F0 m (pc + 3) ls (.ref q :: rest))) : W p l e R s m args below meth c H locs cells slots Q (F0 m pc ls rest) := by
  intro T hT X
  obtain ⟨t, a1, b1⟩ := k T hT X
  exact ⟨t, X.ldcStringW hexec hown (text := tx) (a := q) hZ.1 hZ.2 (g := F0 m pc ls rest) rfl (by rw [hb]; exact hdg) t a1, b1⟩
end MDL
