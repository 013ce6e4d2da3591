def wsX8_first_r3 : List Cond := [Cond.fieldLink RX7 9 "EarlyValues$View" "powers" "[I", Cond.fieldLink RX7 55 "EarlyValues$Program" "arguments" "[I", Cond.methodLink RX7 51 yX3_has, Cond.selects RX4 ⟨"EarlyValues$View", "rowsOf", "(LEarlyValues$Program;I)I"⟩ yX7_rowsOf, Cond.selects RX6 ⟨"EarlyValues$View", "rowsOf", "(LEarlyValues$Program;I)I"⟩ yX7_rowsOf, Cond.methodLink RX7 83 ⟨"EarlyValues$View", "at", "(II)I"⟩, Cond.sameMethod "EarlyValues$View" "EarlyValues$View" "at" "(II)I", Cond.selects RX0 ⟨"EarlyValues$View", "at", "(II)I"⟩ yX7_at, Cond.instanceMethod yX7_at, Cond.code yX7_at cX7_at 4 (some .int), Cond.selects RX4 ⟨"EarlyValues$View", "at", "(II)I"⟩ yX7_at, Cond.selects RX6 ⟨"EarlyValues$View", "at", "(II)I"⟩ yX7_at, Cond.methodLink RX7 96 ⟨"EarlyValues$View", "mayGrow", "(I)Z"⟩, Cond.sameMethod "EarlyValues$View" "EarlyValues$View" "mayGrow" "(I)Z", Cond.selects RX0 ⟨"EarlyValues$View", "mayGrow", "(I)Z"⟩ yX0_mayGrow, Cond.instanceMethod yX0_mayGrow, Cond.initialized RX0, Cond.code yX0_mayGrow cX0_mayGrow 2 (some .boolean), Cond.selects RX4 ⟨"EarlyValues$View", "mayGrow", "(I)Z"⟩ yX4_mayGrow, Cond.instanceMethod yX4_mayGrow, Cond.initialized RX4, Cond.code yX4_mayGrow cX4_mayGrow 2 (some .boolean), Cond.selects RX6 ⟨"EarlyValues$View", "mayGrow", "(I)Z"⟩ yX6_mayGrow, Cond.instanceMethod yX6_mayGrow]
def wsX8_first_r4 : List Cond := [Cond.initialized RX6, Cond.code yX6_mayGrow cX6_mayGrow 2 (some .boolean), Cond.methodLink RX7 99 ⟨"EarlyValues$View", "handOver", "(LEarlyValues$Program;II)Z"⟩, Cond.sameMethod "EarlyValues$View" "EarlyValues$View" "handOver" "(LEarlyValues$Program;II)Z", Cond.selects RX0 ⟨"EarlyValues$View", "handOver", "(LEarlyValues$Program;II)Z"⟩ yX7_handOver, Cond.instanceMethod yX7_handOver, Cond.code yX7_handOver cX7_handOver 9 (some .boolean), Cond.fieldLink RX7 105 "EarlyValues$Program" "kinds" "[I", Cond.fieldLink RX7 36 "EarlyValues$View" "digits" "[[I", Cond.fieldLink RX7 15 "EarlyValues$View" "given" "[I", Cond.selects RX4 ⟨"EarlyValues$View", "handOver", "(LEarlyValues$Program;II)Z"⟩ yX7_handOver, Cond.selects RX6 ⟨"EarlyValues$View", "handOver", "(LEarlyValues$Program;II)Z"⟩ yX7_handOver, Cond.methodLink RX7 102 ⟨"EarlyValues$View", "bodyComesTo", "(LEarlyValues$Program;I)I"⟩, Cond.sameMethod "EarlyValues$View" "EarlyValues$View" "bodyComesTo" "(LEarlyValues$Program;I)I", Cond.selects RX0 ⟨"EarlyValues$View", "bodyComesTo", "(LEarlyValues$Program;I)I"⟩ yX7_bodyComesTo, Cond.instanceMethod yX7_bodyComesTo, Cond.code yX7_bodyComesTo cX7_bodyComesTo 9 (some .int), Cond.fieldLink RX7 108 "EarlyValues$View" "depth" "I", Cond.fieldLink RX7 111 "EarlyValues$Program" "lengths" "[I", Cond.fieldLink RX7 114 "EarlyValues$Program" "bodies" "[[I", Cond.methodLink RX7 117 yX3_partsOf, Cond.instanceMethod yX3_partsOf, Cond.selects RX3 yX3_partsOf yX3_partsOf, Cond.code yX3_partsOf cX3_partsOf 2 (some .int)]
def wsX8_first_r5 : List Cond := [Cond.fieldLink RX3 9 "EarlyValues$Program" "arguments" "[I", Cond.methodLink RX3 34 yX3_has, Cond.methodLink RX7 121 ⟨"EarlyValues$View", "pop", "()I"⟩, Cond.sameMethod "EarlyValues$View" "EarlyValues$View" "pop" "()I", Cond.selects RX0 ⟨"EarlyValues$View", "pop", "()I"⟩ yX7_pop, Cond.instanceMethod yX7_pop, Cond.code yX7_pop cX7_pop 1 (some .int), Cond.fieldLink RX7 18 "EarlyValues$View" "stack" "[I", Cond.selects RX4 ⟨"EarlyValues$View", "pop", "()I"⟩ yX7_pop, Cond.selects RX6 ⟨"EarlyValues$View", "pop", "()I"⟩ yX7_pop, Cond.methodLink RX7 125 ⟨"EarlyValues$View", "letterComesTo", "(IIII)I"⟩, Cond.sameMethod "EarlyValues$View" "EarlyValues$View" "letterComesTo" "(IIII)I", Cond.selects RX0 ⟨"EarlyValues$View", "letterComesTo", "(IIII)I"⟩ yX7_letterComesTo, Cond.instanceMethod yX7_letterComesTo, Cond.code yX7_letterComesTo cX7_letterComesTo 6 (some .int), Cond.fieldLink RX7 28 "EarlyValues$View" "zero" "I", Cond.fieldLink RX7 31 "EarlyValues$View" "one" "I", Cond.methodLink RX7 132 ⟨"EarlyValues$View", "less", "(I)I"⟩, Cond.sameMethod "EarlyValues$View" "EarlyValues$View" "less" "(I)I", Cond.selects RX0 ⟨"EarlyValues$View", "less", "(I)I"⟩ yX0_less, Cond.instanceMethod yX0_less, Cond.code yX0_less cX0_less 2 (some .int), Cond.selects RX4 ⟨"EarlyValues$View", "less", "(I)I"⟩ yX4_less, Cond.instanceMethod yX4_less]
def wsX8_first_r6 : List Cond := [Cond.code yX4_less cX4_less 2 (some .int), Cond.selects RX6 ⟨"EarlyValues$View", "less", "(I)I"⟩ yX6_less, Cond.instanceMethod yX6_less, Cond.code yX6_less cX6_less 2 (some .int), Cond.methodLink RX6 9 Lib.Math.max.name, Cond.static Lib.Math.max.name, Cond.initialized "java/lang/Math", Cond.code Lib.Math.max.name Lib.Math.max.code 2 (some .int), Cond.methodLink RX7 135 ⟨"EarlyValues$View", "sum", "(II)I"⟩, Cond.sameMethod "EarlyValues$View" "EarlyValues$View" "sum" "(II)I", Cond.selects RX0 ⟨"EarlyValues$View", "sum", "(II)I"⟩ yX0_sum, Cond.instanceMethod yX0_sum, Cond.code yX0_sum cX0_sum 5 (some .int), Cond.selects RX4 ⟨"EarlyValues$View", "sum", "(II)I"⟩ yX4_sum, Cond.instanceMethod yX4_sum, Cond.code yX4_sum cX4_sum 3 (some .int), Cond.selects RX6 ⟨"EarlyValues$View", "sum", "(II)I"⟩ yX6_sum, Cond.instanceMethod yX6_sum, Cond.code yX6_sum cX6_sum 3 (some .int), Cond.methodLink RX7 138 ⟨"EarlyValues$View", "chosen", "(III)I"⟩, Cond.sameMethod "EarlyValues$View" "EarlyValues$View" "chosen" "(III)I", Cond.selects RX0 ⟨"EarlyValues$View", "chosen", "(III)I"⟩ yX0_chosen, Cond.instanceMethod yX0_chosen, Cond.code yX0_chosen cX0_chosen 5 (some .int)]
def wsX8_first_r7 : List Cond := [Cond.selects RX4 ⟨"EarlyValues$View", "chosen", "(III)I"⟩ yX4_chosen, Cond.instanceMethod yX4_chosen, Cond.code yX4_chosen cX4_chosen 4 (some .int), Cond.selects RX6 ⟨"EarlyValues$View", "chosen", "(III)I"⟩ yX6_chosen, Cond.instanceMethod yX6_chosen, Cond.code yX6_chosen cX6_chosen 4 (some .int), Cond.selects RX4 ⟨"EarlyValues$View", "letterComesTo", "(IIII)I"⟩ yX7_letterComesTo, Cond.selects RX6 ⟨"EarlyValues$View", "letterComesTo", "(IIII)I"⟩ yX7_letterComesTo, Cond.methodLink RX7 129 ⟨"EarlyValues$View", "push", "(I)V"⟩, Cond.sameMethod "EarlyValues$View" "EarlyValues$View" "push" "(I)V", Cond.selects RX0 ⟨"EarlyValues$View", "push", "(I)V"⟩ yX7_push, Cond.instanceMethod yX7_push, Cond.code yX7_push cX7_push 2 none, Cond.selects RX4 ⟨"EarlyValues$View", "push", "(I)V"⟩ yX7_push, Cond.selects RX6 ⟨"EarlyValues$View", "push", "(I)V"⟩ yX7_push, Cond.selects RX4 ⟨"EarlyValues$View", "bodyComesTo", "(LEarlyValues$Program;I)I"⟩ yX7_bodyComesTo, Cond.selects RX6 ⟨"EarlyValues$View", "bodyComesTo", "(LEarlyValues$Program;I)I"⟩ yX7_bodyComesTo, Cond.selects RX4 ⟨"EarlyValues$View", "advance", "(LEarlyValues$Program;)Z"⟩ yX7_advance, Cond.selects RX6 ⟨"EarlyValues$View", "advance", "(LEarlyValues$Program;)Z"⟩ yX7_advance, Cond.selects RX4 ⟨"EarlyValues$View", "solve", "(LEarlyValues$Program;)V"⟩ yX7_solve, Cond.selects RX6 ⟨"EarlyValues$View", "solve", "(LEarlyValues$Program;)V"⟩ yX7_solve, Cond.methodLink RX8 169 ⟨"EarlyValues$View", "rowsOf", "(LEarlyValues$Program;I)I"⟩, Cond.methodLink RX8 165 ⟨"EarlyValues$View", "at", "(II)I"⟩]
def wsX8_first : List Cond := .code yX8_first cX8_first 7 (some .int) :: ((wsX8_first_r1 ++ (wsX8_first_r2 ++ (wsX8_first_r3 ++ (wsX8_first_r4 ++ (wsX8_first_r5 ++ (wsX8_first_r6 ++ wsX8_first_r7)))))) ++ wsX80 ++ wsX00 ++ wsX40 ++ wsX60 ++ wsX30)
def wsX8_makes_r1 : List Cond := [Cond.fieldLink RX8 19 "EarlyValues" "now" "LEarlyValues$Program;", Cond.fieldLink RX8 119 "EarlyValues$Program" "arguments" "[I", Cond.fieldLink RX8 53 "EarlyValues" "finely" "LEarlyValues$View;", Cond.fieldLink RX8 23 "EarlyValues" "trial" "LEarlyValues$Program;", Cond.fieldLink RX8 122 "EarlyValues$Program" "lengths" "[I", Cond.fieldLink RX8 129 "EarlyValues$Program" "bodies" "[[I", Cond.fieldLink RX8 59 "EarlyValues" "trialFinely" "LEarlyValues$View;", Cond.methodLink RX8 111 yX3_has, Cond.instanceMethod yX3_has, Cond.selects RX3 yX3_has yX3_has, Cond.initialized RX3, Cond.code yX3_has cX3_has 2 (some .boolean), Cond.fieldLink RX3 24 "EarlyValues$Program" "functions" "I", Cond.methodLink RX8 161 yX8_solved, Cond.instanceMethod yX8_solved, Cond.selects RX8 yX8_solved yX8_solved, Cond.initialized RX8, Cond.code yX8_solved cX8_solved 2 (some (.object "EarlyValues$View")), Cond.fieldLink RX8 222 "EarlyValues$View" "fresh" "Z", Cond.methodLink RX8 212 ⟨"EarlyValues$View", "solve", "(LEarlyValues$Program;)V"⟩, Cond.sameMethod "EarlyValues$View" "EarlyValues$View" "solve" "(LEarlyValues$Program;)V", Cond.selects RX0 ⟨"EarlyValues$View", "solve", "(LEarlyValues$Program;)V"⟩ yX7_solve, Cond.instanceMethod yX7_solve, Cond.initialized RX7]
def wsX8_makes_r2 : List Cond := [Cond.code yX7_solve cX7_solve 4 none, Cond.fieldLink RX7 68 "EarlyValues$View" "taken" "I", Cond.fieldLink RX7 75 "EarlyValues$View" "fresh" "Z", Cond.methodLink RX7 65 ⟨"EarlyValues$View", "begin", "()V"⟩, Cond.sameMethod "EarlyValues$View" "EarlyValues$View" "begin" "()V", Cond.selects RX0 ⟨"EarlyValues$View", "begin", "()V"⟩ yX7_begin, Cond.instanceMethod yX7_begin, Cond.code yX7_begin cX7_begin 2 none, Cond.fieldLink RX7 45 "EarlyValues$View" "known" "[[B", Cond.fieldLink RX7 25 "EarlyValues$View" "never" "I", Cond.methodLink RX7 87 yJ7_fill_031fb, Cond.static yJ7_fill_031fb, Cond.initialized RJ7, Cond.code yJ7_fill_031fb cJ7_fill_031fb 4 none, Cond.selects RX4 ⟨"EarlyValues$View", "begin", "()V"⟩ yX7_begin, Cond.selects RX6 ⟨"EarlyValues$View", "begin", "()V"⟩ yX7_begin, Cond.methodLink RX7 71 ⟨"EarlyValues$View", "advance", "(LEarlyValues$Program;)Z"⟩, Cond.sameMethod "EarlyValues$View" "EarlyValues$View" "advance" "(LEarlyValues$Program;)Z", Cond.selects RX0 ⟨"EarlyValues$View", "advance", "(LEarlyValues$Program;)Z"⟩ yX7_advance, Cond.instanceMethod yX7_advance, Cond.code yX7_advance cX7_advance 7 (some .boolean), Cond.fieldLink RX7 93 "EarlyValues$Program" "functions" "I", Cond.fieldLink RX7 48 "EarlyValues$View" "coming" "[[B", Cond.methodLink RX7 61 ⟨"EarlyValues$View", "rowsOf", "(LEarlyValues$Program;I)I"⟩]
def wsX8_makes_r3 : List Cond := [Cond.sameMethod "EarlyValues$View" "EarlyValues$View" "rowsOf" "(LEarlyValues$Program;I)I", Cond.selects RX0 ⟨"EarlyValues$View", "rowsOf", "(LEarlyValues$Program;I)I"⟩ yX7_rowsOf, Cond.instanceMethod yX7_rowsOf, Cond.code yX7_rowsOf cX7_rowsOf 3 (some .int), Cond.fieldLink RX7 9 "EarlyValues$View" "powers" "[I", Cond.fieldLink RX7 55 "EarlyValues$Program" "arguments" "[I", Cond.methodLink RX7 51 yX3_has, Cond.selects RX4 ⟨"EarlyValues$View", "rowsOf", "(LEarlyValues$Program;I)I"⟩ yX7_rowsOf, Cond.selects RX6 ⟨"EarlyValues$View", "rowsOf", "(LEarlyValues$Program;I)I"⟩ yX7_rowsOf, Cond.methodLink RX7 83 ⟨"EarlyValues$View", "at", "(II)I"⟩, Cond.sameMethod "EarlyValues$View" "EarlyValues$View" "at" "(II)I", Cond.selects RX0 ⟨"EarlyValues$View", "at", "(II)I"⟩ yX7_at, Cond.instanceMethod yX7_at, Cond.code yX7_at cX7_at 4 (some .int), Cond.selects RX4 ⟨"EarlyValues$View", "at", "(II)I"⟩ yX7_at, Cond.selects RX6 ⟨"EarlyValues$View", "at", "(II)I"⟩ yX7_at, Cond.methodLink RX7 96 ⟨"EarlyValues$View", "mayGrow", "(I)Z"⟩, Cond.sameMethod "EarlyValues$View" "EarlyValues$View" "mayGrow" "(I)Z", Cond.selects RX0 ⟨"EarlyValues$View", "mayGrow", "(I)Z"⟩ yX0_mayGrow, Cond.instanceMethod yX0_mayGrow, Cond.initialized RX0, Cond.code yX0_mayGrow cX0_mayGrow 2 (some .boolean), Cond.selects RX4 ⟨"EarlyValues$View", "mayGrow", "(I)Z"⟩ yX4_mayGrow, Cond.instanceMethod yX4_mayGrow]
def wsX8_makes_r4 : List Cond := [Cond.initialized RX4, Cond.code yX4_mayGrow cX4_mayGrow 2 (some .boolean), Cond.selects RX6 ⟨"EarlyValues$View", "mayGrow", "(I)Z"⟩ yX6_mayGrow, Cond.instanceMethod yX6_mayGrow, Cond.initialized RX6, Cond.code yX6_mayGrow cX6_mayGrow 2 (some .boolean), Cond.methodLink RX7 99 ⟨"EarlyValues$View", "handOver", "(LEarlyValues$Program;II)Z"⟩, Cond.sameMethod "EarlyValues$View" "EarlyValues$View" "handOver" "(LEarlyValues$Program;II)Z", Cond.selects RX0 ⟨"EarlyValues$View", "handOver", "(LEarlyValues$Program;II)Z"⟩ yX7_handOver, Cond.instanceMethod yX7_handOver, Cond.code yX7_handOver cX7_handOver 9 (some .boolean), Cond.fieldLink RX7 105 "EarlyValues$Program" "kinds" "[I", Cond.fieldLink RX7 36 "EarlyValues$View" "digits" "[[I", Cond.fieldLink RX7 15 "EarlyValues$View" "given" "[I", Cond.selects RX4 ⟨"EarlyValues$View", "handOver", "(LEarlyValues$Program;II)Z"⟩ yX7_handOver, Cond.selects RX6 ⟨"EarlyValues$View", "handOver", "(LEarlyValues$Program;II)Z"⟩ yX7_handOver, Cond.methodLink RX7 102 ⟨"EarlyValues$View", "bodyComesTo", "(LEarlyValues$Program;I)I"⟩, Cond.sameMethod "EarlyValues$View" "EarlyValues$View" "bodyComesTo" "(LEarlyValues$Program;I)I", Cond.selects RX0 ⟨"EarlyValues$View", "bodyComesTo", "(LEarlyValues$Program;I)I"⟩ yX7_bodyComesTo, Cond.instanceMethod yX7_bodyComesTo, Cond.code yX7_bodyComesTo cX7_bodyComesTo 9 (some .int), Cond.fieldLink RX7 108 "EarlyValues$View" "depth" "I", Cond.fieldLink RX7 111 "EarlyValues$Program" "lengths" "[I", Cond.fieldLink RX7 114 "EarlyValues$Program" "bodies" "[[I"]
def wsX8_makes_r5 : List Cond := [Cond.methodLink RX7 117 yX3_partsOf, Cond.instanceMethod yX3_partsOf, Cond.selects RX3 yX3_partsOf yX3_partsOf, Cond.code yX3_partsOf cX3_partsOf 2 (some .int), Cond.fieldLink RX3 9 "EarlyValues$Program" "arguments" "[I", Cond.methodLink RX3 34 yX3_has, Cond.methodLink RX7 121 ⟨"EarlyValues$View", "pop", "()I"⟩, Cond.sameMethod "EarlyValues$View" "EarlyValues$View" "pop" "()I", Cond.selects RX0 ⟨"EarlyValues$View", "pop", "()I"⟩ yX7_pop, Cond.instanceMethod yX7_pop, Cond.code yX7_pop cX7_pop 1 (some .int), Cond.fieldLink RX7 18 "EarlyValues$View" "stack" "[I", Cond.selects RX4 ⟨"EarlyValues$View", "pop", "()I"⟩ yX7_pop, Cond.selects RX6 ⟨"EarlyValues$View", "pop", "()I"⟩ yX7_pop, Cond.methodLink RX7 125 ⟨"EarlyValues$View", "letterComesTo", "(IIII)I"⟩, Cond.sameMethod "EarlyValues$View" "EarlyValues$View" "letterComesTo" "(IIII)I", Cond.selects RX0 ⟨"EarlyValues$View", "letterComesTo", "(IIII)I"⟩ yX7_letterComesTo, Cond.instanceMethod yX7_letterComesTo, Cond.code yX7_letterComesTo cX7_letterComesTo 6 (some .int), Cond.fieldLink RX7 28 "EarlyValues$View" "zero" "I", Cond.fieldLink RX7 31 "EarlyValues$View" "one" "I", Cond.methodLink RX7 132 ⟨"EarlyValues$View", "less", "(I)I"⟩, Cond.sameMethod "EarlyValues$View" "EarlyValues$View" "less" "(I)I", Cond.selects RX0 ⟨"EarlyValues$View", "less", "(I)I"⟩ yX0_less]
def wsX8_makes_r6 : List Cond := [Cond.instanceMethod yX0_less, Cond.code yX0_less cX0_less 2 (some .int), Cond.selects RX4 ⟨"EarlyValues$View", "less", "(I)I"⟩ yX4_less, Cond.instanceMethod yX4_less, Cond.code yX4_less cX4_less 2 (some .int), Cond.selects RX6 ⟨"EarlyValues$View", "less", "(I)I"⟩ yX6_less, Cond.instanceMethod yX6_less, Cond.code yX6_less cX6_less 2 (some .int), Cond.methodLink RX6 9 Lib.Math.max.name, Cond.static Lib.Math.max.name, Cond.initialized "java/lang/Math", Cond.code Lib.Math.max.name Lib.Math.max.code 2 (some .int), Cond.methodLink RX7 135 ⟨"EarlyValues$View", "sum", "(II)I"⟩, Cond.sameMethod "EarlyValues$View" "EarlyValues$View" "sum" "(II)I", Cond.selects RX0 ⟨"EarlyValues$View", "sum", "(II)I"⟩ yX0_sum, Cond.instanceMethod yX0_sum, Cond.code yX0_sum cX0_sum 5 (some .int), Cond.selects RX4 ⟨"EarlyValues$View", "sum", "(II)I"⟩ yX4_sum, Cond.instanceMethod yX4_sum, Cond.code yX4_sum cX4_sum 3 (some .int), Cond.selects RX6 ⟨"EarlyValues$View", "sum", "(II)I"⟩ yX6_sum, Cond.instanceMethod yX6_sum, Cond.code yX6_sum cX6_sum 3 (some .int), Cond.methodLink RX7 138 ⟨"EarlyValues$View", "chosen", "(III)I"⟩]
def wsX8_makes_r7 : List Cond := [Cond.sameMethod "EarlyValues$View" "EarlyValues$View" "chosen" "(III)I", Cond.selects RX0 ⟨"EarlyValues$View", "chosen", "(III)I"⟩ yX0_chosen, Cond.instanceMethod yX0_chosen, Cond.code yX0_chosen cX0_chosen 5 (some .int), Cond.selects RX4 ⟨"EarlyValues$View", "chosen", "(III)I"⟩ yX4_chosen, Cond.instanceMethod yX4_chosen, Cond.code yX4_chosen cX4_chosen 4 (some .int), Cond.selects RX6 ⟨"EarlyValues$View", "chosen", "(III)I"⟩ yX6_chosen, Cond.instanceMethod yX6_chosen, Cond.code yX6_chosen cX6_chosen 4 (some .int), Cond.selects RX4 ⟨"EarlyValues$View", "letterComesTo", "(IIII)I"⟩ yX7_letterComesTo, Cond.selects RX6 ⟨"EarlyValues$View", "letterComesTo", "(IIII)I"⟩ yX7_letterComesTo, Cond.methodLink RX7 129 ⟨"EarlyValues$View", "push", "(I)V"⟩, Cond.sameMethod "EarlyValues$View" "EarlyValues$View" "push" "(I)V", Cond.selects RX0 ⟨"EarlyValues$View", "push", "(I)V"⟩ yX7_push, Cond.instanceMethod yX7_push, Cond.code yX7_push cX7_push 2 none, Cond.selects RX4 ⟨"EarlyValues$View", "push", "(I)V"⟩ yX7_push, Cond.selects RX6 ⟨"EarlyValues$View", "push", "(I)V"⟩ yX7_push, Cond.selects RX4 ⟨"EarlyValues$View", "bodyComesTo", "(LEarlyValues$Program;I)I"⟩ yX7_bodyComesTo, Cond.selects RX6 ⟨"EarlyValues$View", "bodyComesTo", "(LEarlyValues$Program;I)I"⟩ yX7_bodyComesTo, Cond.selects RX4 ⟨"EarlyValues$View", "advance", "(LEarlyValues$Program;)Z"⟩ yX7_advance, Cond.selects RX6 ⟨"EarlyValues$View", "advance", "(LEarlyValues$Program;)Z"⟩ yX7_advance, Cond.selects RX4 ⟨"EarlyValues$View", "solve", "(LEarlyValues$Program;)V"⟩ yX7_solve]
def wsX8_makes_r8 : List Cond := [Cond.selects RX6 ⟨"EarlyValues$View", "solve", "(LEarlyValues$Program;)V"⟩ yX7_solve, Cond.methodLink RX8 195 ⟨"EarlyValues$View", "isStrict", "(LEarlyValues$Program;II)Z"⟩, Cond.sameMethod "EarlyValues$View" "EarlyValues$View" "isStrict" "(LEarlyValues$Program;II)Z", Cond.selects RX0 ⟨"EarlyValues$View", "isStrict", "(LEarlyValues$Program;II)Z"⟩ yX7_isStrict, Cond.instanceMethod yX7_isStrict, Cond.code yX7_isStrict cX7_isStrict 5 (some .boolean), Cond.selects RX4 ⟨"EarlyValues$View", "isStrict", "(LEarlyValues$Program;II)Z"⟩ yX7_isStrict, Cond.selects RX6 ⟨"EarlyValues$View", "isStrict", "(LEarlyValues$Program;II)Z"⟩ yX7_isStrict, Cond.methodLink RX8 87 yX3_takeFrom, Cond.instanceMethod yX3_takeFrom, Cond.selects RX3 yX3_takeFrom yX3_takeFrom, Cond.code yX3_takeFrom cX3_takeFrom 3 none, Cond.fieldLink RX3 13 "EarlyValues$Program" "kinds" "[I", Cond.fieldLink RX3 16 "EarlyValues$Program" "lengths" "[I", Cond.fieldLink RX3 21 "EarlyValues$Program" "bodies" "[[I", Cond.methodLink RX3 28 arraycopyName, Cond.native arraycopyName, Cond.static arraycopyName, Cond.initialized "java/lang/System", Cond.methodLink RX8 142 yX3_fits, Cond.instanceMethod yX3_fits, Cond.selects RX3 yX3_fits yX3_fits, Cond.code yX3_fits cX3_fits 4 (some .boolean), Cond.methodLink RX3 40 yX3_hasPlace]
def wsX8_makes_r9 : List Cond := [Cond.instanceMethod yX3_hasPlace, Cond.selects RX3 yX3_hasPlace yX3_hasPlace, Cond.code yX3_hasPlace cX3_hasPlace 3 (some .boolean), Cond.methodLink RX3 44 yX3_mayStand, Cond.instanceMethod yX3_mayStand, Cond.selects RX3 yX3_mayStand yX3_mayStand, Cond.code yX3_mayStand cX3_mayStand 3 (some .boolean), Cond.methodLink RX3 47 yX3_partsOf, Cond.methodLink RX8 199 ⟨"EarlyValues$View", "staysStrict", "(LEarlyValues$Program;II)Z"⟩, Cond.sameMethod "EarlyValues$View" "EarlyValues$View" "staysStrict" "(LEarlyValues$Program;II)Z", Cond.selects RX0 ⟨"EarlyValues$View", "staysStrict", "(LEarlyValues$Program;II)Z"⟩ yX7_staysStrict, Cond.instanceMethod yX7_staysStrict, Cond.code yX7_staysStrict cX7_staysStrict 7 (some .boolean), Cond.methodLink RX7 79 ⟨"EarlyValues$View", "isStrict", "(LEarlyValues$Program;II)Z"⟩, Cond.selects RX4 ⟨"EarlyValues$View", "staysStrict", "(LEarlyValues$Program;II)Z"⟩ yX7_staysStrict, Cond.selects RX6 ⟨"EarlyValues$View", "staysStrict", "(LEarlyValues$Program;II)Z"⟩ yX7_staysStrict, Cond.methodLink RX8 133 yX2_signOf, Cond.static yX2_signOf, Cond.initialized RX2, Cond.code yX2_signOf cX2_signOf 1 (some .int), Cond.methodLink RX2 19 yJ0_charAt_5068e, Cond.instanceMethod yJ0_charAt_5068e, Cond.selects RJ0 yJ0_charAt_5068e yJ0_charAt_5068e, Cond.initialized RJ0]
def wsX8_makes_r10 : List Cond := [Cond.code yJ0_charAt_5068e cJ0_charAt_5068e 2 (some .char), Cond.fieldLink RJ0 9 "java/lang/String" "value" "[B", Cond.methodLink RJ0 492 yJ0_isLatin1_aae02, Cond.instanceMethod yJ0_isLatin1_aae02, Cond.selects RJ0 yJ0_isLatin1_aae02 yJ0_isLatin1_aae02, Cond.code yJ0_isLatin1_aae02 cJ0_isLatin1_aae02 1 (some .boolean), Cond.fieldLink RJ0 38 "java/lang/String" "COMPACT_STRINGS" "Z", Cond.fieldLink RJ0 15 "java/lang/String" "coder" "B", Cond.methodLink RJ0 495 yJ1_charAt_3b067, Cond.static yJ1_charAt_3b067, Cond.initialized RJ1, Cond.code yJ1_charAt_3b067 cJ1_charAt_3b067 2 (some .char), Cond.methodLink RJ1 9 yJ0_checkIndex_df160, Cond.static yJ0_checkIndex_df160, Cond.code yJ0_checkIndex_df160 cJ0_checkIndex_df160 2 none, Cond.fieldLink RJ0 1053 "jdk/internal/util/Preconditions" "SIOOBE_FORMATTER" "Ljava/util/function/BiFunction;", Cond.methodLink RJ0 1059 yJ3_checkIndex_8e157, Cond.static yJ3_checkIndex_8e157, Cond.initialized RJ3, Cond.code yJ3_checkIndex_8e157 cJ3_checkIndex_8e157 3 (some .int), Cond.methodLink RJ0 498 yJ2_charAt_3b067, Cond.static yJ2_charAt_3b067, Cond.initialized RJ2, Cond.code yJ2_charAt_3b067 cJ2_charAt_3b067 2 (some .char)]
def wsX8_makes_r11 : List Cond := [Cond.methodLink RJ2 67 yJ2_checkIndex_2214a, Cond.static yJ2_checkIndex_2214a, Cond.code yJ2_checkIndex_2214a cJ2_checkIndex_2214a 2 none, Cond.methodLink RJ2 48 yJ2_length_9d52b, Cond.static yJ2_length_9d52b, Cond.code yJ2_length_9d52b cJ2_length_9d52b 1 (some .int), Cond.methodLink RJ2 414 yJ0_checkIndex_df160, Cond.methodLink RJ2 71 yJ2_getChar_3b067, Cond.static yJ2_getChar_3b067, Cond.code yJ2_getChar_3b067 cJ2_getChar_3b067 2 (some .char), Cond.fieldLink RJ2 44 "java/lang/StringUTF16" "$assertionsDisabled" "Z", Cond.fieldLink RJ2 59 "java/lang/StringUTF16" "HI_BYTE_SHIFT" "I", Cond.fieldLink RJ2 63 "java/lang/StringUTF16" "LO_BYTE_SHIFT" "I"]
def wsX8_makes : List Cond := .code yX8_makes cX8_makes 5 (some .int) :: ((wsX8_makes_r1 ++ (wsX8_makes_r2 ++ (wsX8_makes_r3 ++ (wsX8_makes_r4 ++ (wsX8_makes_r5 ++ (wsX8_makes_r6 ++ (wsX8_makes_r7 ++ (wsX8_makes_r8 ++ (wsX8_makes_r9 ++ (wsX8_makes_r10 ++ wsX8_makes_r11)))))))))) ++ wsX80 ++ wsX30 ++ wsX00 ++ wsX40 ++ wsX60)
def wsX8_day_r1 : List Cond := [Cond.fieldLink RX8 23 "EarlyValues" "trial" "LEarlyValues$Program;", Cond.fieldLink RX8 19 "EarlyValues" "now" "LEarlyValues$Program;", Cond.constantLong RX8 202 (7919), Cond.constantLong RX8 204 (6151), Cond.constantLong RX8 206 (65521), Cond.fieldLink RX8 59 "EarlyValues" "trialFinely" "LEarlyValues$View;", Cond.fieldLink RX8 56 "EarlyValues" "trialValues" "LEarlyValues$View;", Cond.fieldLink RX8 108 "EarlyValues$Program" "functions" "I", Cond.methodLink RX8 87 yX3_takeFrom, Cond.instanceMethod yX3_takeFrom, Cond.selects RX3 yX3_takeFrom yX3_takeFrom, Cond.initialized RX3, Cond.code yX3_takeFrom cX3_takeFrom 3 none, Cond.fieldLink RX3 24 "EarlyValues$Program" "functions" "I", Cond.fieldLink RX3 9 "EarlyValues$Program" "arguments" "[I", Cond.fieldLink RX3 13 "EarlyValues$Program" "kinds" "[I", Cond.fieldLink RX3 16 "EarlyValues$Program" "lengths" "[I", Cond.fieldLink RX3 21 "EarlyValues$Program" "bodies" "[[I", Cond.methodLink RX3 28 arraycopyName, Cond.native arraycopyName, Cond.static arraycopyName, Cond.initialized "java/lang/System", Cond.methodLink RX8 208 yX3_turnLetter, Cond.instanceMethod yX3_turnLetter]
def wsX8_day_r2 : List Cond := [Cond.selects RX3 yX3_turnLetter yX3_turnLetter, Cond.code yX3_turnLetter cX3_turnLetter 7 none, Cond.methodLink RX3 34 yX3_has, Cond.instanceMethod yX3_has, Cond.selects RX3 yX3_has yX3_has, Cond.code yX3_has cX3_has 2 (some .boolean), Cond.methodLink RX3 51 yX3_fits, Cond.instanceMethod yX3_fits, Cond.selects RX3 yX3_fits yX3_fits, Cond.code yX3_fits cX3_fits 4 (some .boolean), Cond.methodLink RX3 40 yX3_hasPlace, Cond.instanceMethod yX3_hasPlace, Cond.selects RX3 yX3_hasPlace yX3_hasPlace, Cond.code yX3_hasPlace cX3_hasPlace 3 (some .boolean), Cond.methodLink RX3 44 yX3_mayStand, Cond.instanceMethod yX3_mayStand, Cond.selects RX3 yX3_mayStand yX3_mayStand, Cond.code yX3_mayStand cX3_mayStand 3 (some .boolean), Cond.methodLink RX3 47 yX3_partsOf, Cond.instanceMethod yX3_partsOf, Cond.selects RX3 yX3_partsOf yX3_partsOf, Cond.code yX3_partsOf cX3_partsOf 2 (some .int), Cond.methodLink RX8 212 ⟨"EarlyValues$View", "solve", "(LEarlyValues$Program;)V"⟩, Cond.sameMethod "EarlyValues$View" "EarlyValues$View" "solve" "(LEarlyValues$Program;)V"]
def wsX8_day_r3 : List Cond := [Cond.selects RX0 ⟨"EarlyValues$View", "solve", "(LEarlyValues$Program;)V"⟩ yX7_solve, Cond.instanceMethod yX7_solve, Cond.initialized RX7, Cond.code yX7_solve cX7_solve 4 none, Cond.fieldLink RX7 68 "EarlyValues$View" "taken" "I", Cond.fieldLink RX7 75 "EarlyValues$View" "fresh" "Z", Cond.methodLink RX7 65 ⟨"EarlyValues$View", "begin", "()V"⟩, Cond.sameMethod "EarlyValues$View" "EarlyValues$View" "begin" "()V", Cond.selects RX0 ⟨"EarlyValues$View", "begin", "()V"⟩ yX7_begin, Cond.instanceMethod yX7_begin, Cond.code yX7_begin cX7_begin 2 none, Cond.fieldLink RX7 45 "EarlyValues$View" "known" "[[B", Cond.fieldLink RX7 25 "EarlyValues$View" "never" "I", Cond.methodLink RX7 87 yJ7_fill_031fb, Cond.static yJ7_fill_031fb, Cond.initialized RJ7, Cond.code yJ7_fill_031fb cJ7_fill_031fb 4 none, Cond.selects RX4 ⟨"EarlyValues$View", "begin", "()V"⟩ yX7_begin, Cond.selects RX6 ⟨"EarlyValues$View", "begin", "()V"⟩ yX7_begin, Cond.methodLink RX7 71 ⟨"EarlyValues$View", "advance", "(LEarlyValues$Program;)Z"⟩, Cond.sameMethod "EarlyValues$View" "EarlyValues$View" "advance" "(LEarlyValues$Program;)Z", Cond.selects RX0 ⟨"EarlyValues$View", "advance", "(LEarlyValues$Program;)Z"⟩ yX7_advance, Cond.instanceMethod yX7_advance, Cond.code yX7_advance cX7_advance 7 (some .boolean)]
def wsX8_day_r4 : List Cond := [Cond.fieldLink RX7 93 "EarlyValues$Program" "functions" "I", Cond.fieldLink RX7 48 "EarlyValues$View" "coming" "[[B", Cond.methodLink RX7 61 ⟨"EarlyValues$View", "rowsOf", "(LEarlyValues$Program;I)I"⟩, Cond.sameMethod "EarlyValues$View" "EarlyValues$View" "rowsOf" "(LEarlyValues$Program;I)I", Cond.selects RX0 ⟨"EarlyValues$View", "rowsOf", "(LEarlyValues$Program;I)I"⟩ yX7_rowsOf, Cond.instanceMethod yX7_rowsOf, Cond.code yX7_rowsOf cX7_rowsOf 3 (some .int), Cond.fieldLink RX7 9 "EarlyValues$View" "powers" "[I", Cond.fieldLink RX7 55 "EarlyValues$Program" "arguments" "[I", Cond.methodLink RX7 51 yX3_has, Cond.selects RX4 ⟨"EarlyValues$View", "rowsOf", "(LEarlyValues$Program;I)I"⟩ yX7_rowsOf, Cond.selects RX6 ⟨"EarlyValues$View", "rowsOf", "(LEarlyValues$Program;I)I"⟩ yX7_rowsOf, Cond.methodLink RX7 83 ⟨"EarlyValues$View", "at", "(II)I"⟩, Cond.sameMethod "EarlyValues$View" "EarlyValues$View" "at" "(II)I", Cond.selects RX0 ⟨"EarlyValues$View", "at", "(II)I"⟩ yX7_at, Cond.instanceMethod yX7_at, Cond.code yX7_at cX7_at 4 (some .int), Cond.selects RX4 ⟨"EarlyValues$View", "at", "(II)I"⟩ yX7_at, Cond.selects RX6 ⟨"EarlyValues$View", "at", "(II)I"⟩ yX7_at, Cond.methodLink RX7 96 ⟨"EarlyValues$View", "mayGrow", "(I)Z"⟩, Cond.sameMethod "EarlyValues$View" "EarlyValues$View" "mayGrow" "(I)Z", Cond.selects RX0 ⟨"EarlyValues$View", "mayGrow", "(I)Z"⟩ yX0_mayGrow, Cond.instanceMethod yX0_mayGrow, Cond.initialized RX0]
def wsX8_day_r5 : List Cond := [Cond.code yX0_mayGrow cX0_mayGrow 2 (some .boolean), Cond.selects RX4 ⟨"EarlyValues$View", "mayGrow", "(I)Z"⟩ yX4_mayGrow, Cond.instanceMethod yX4_mayGrow, Cond.initialized RX4, Cond.code yX4_mayGrow cX4_mayGrow 2 (some .boolean), Cond.selects RX6 ⟨"EarlyValues$View", "mayGrow", "(I)Z"⟩ yX6_mayGrow, Cond.instanceMethod yX6_mayGrow, Cond.initialized RX6, Cond.code yX6_mayGrow cX6_mayGrow 2 (some .boolean), Cond.methodLink RX7 99 ⟨"EarlyValues$View", "handOver", "(LEarlyValues$Program;II)Z"⟩, Cond.sameMethod "EarlyValues$View" "EarlyValues$View" "handOver" "(LEarlyValues$Program;II)Z", Cond.selects RX0 ⟨"EarlyValues$View", "handOver", "(LEarlyValues$Program;II)Z"⟩ yX7_handOver, Cond.instanceMethod yX7_handOver, Cond.code yX7_handOver cX7_handOver 9 (some .boolean), Cond.fieldLink RX7 105 "EarlyValues$Program" "kinds" "[I", Cond.fieldLink RX7 36 "EarlyValues$View" "digits" "[[I", Cond.fieldLink RX7 15 "EarlyValues$View" "given" "[I", Cond.selects RX4 ⟨"EarlyValues$View", "handOver", "(LEarlyValues$Program;II)Z"⟩ yX7_handOver, Cond.selects RX6 ⟨"EarlyValues$View", "handOver", "(LEarlyValues$Program;II)Z"⟩ yX7_handOver, Cond.methodLink RX7 102 ⟨"EarlyValues$View", "bodyComesTo", "(LEarlyValues$Program;I)I"⟩, Cond.sameMethod "EarlyValues$View" "EarlyValues$View" "bodyComesTo" "(LEarlyValues$Program;I)I", Cond.selects RX0 ⟨"EarlyValues$View", "bodyComesTo", "(LEarlyValues$Program;I)I"⟩ yX7_bodyComesTo, Cond.instanceMethod yX7_bodyComesTo, Cond.code yX7_bodyComesTo cX7_bodyComesTo 9 (some .int)]
def wsX8_day_r6 : List Cond := [Cond.fieldLink RX7 108 "EarlyValues$View" "depth" "I", Cond.fieldLink RX7 111 "EarlyValues$Program" "lengths" "[I", Cond.fieldLink RX7 114 "EarlyValues$Program" "bodies" "[[I", Cond.methodLink RX7 117 yX3_partsOf, Cond.methodLink RX7 121 ⟨"EarlyValues$View", "pop", "()I"⟩, Cond.sameMethod "EarlyValues$View" "EarlyValues$View" "pop" "()I", Cond.selects RX0 ⟨"EarlyValues$View", "pop", "()I"⟩ yX7_pop, Cond.instanceMethod yX7_pop, Cond.code yX7_pop cX7_pop 1 (some .int), Cond.fieldLink RX7 18 "EarlyValues$View" "stack" "[I", Cond.selects RX4 ⟨"EarlyValues$View", "pop", "()I"⟩ yX7_pop, Cond.selects RX6 ⟨"EarlyValues$View", "pop", "()I"⟩ yX7_pop, Cond.methodLink RX7 125 ⟨"EarlyValues$View", "letterComesTo", "(IIII)I"⟩, Cond.sameMethod "EarlyValues$View" "EarlyValues$View" "letterComesTo" "(IIII)I", Cond.selects RX0 ⟨"EarlyValues$View", "letterComesTo", "(IIII)I"⟩ yX7_letterComesTo, Cond.instanceMethod yX7_letterComesTo, Cond.code yX7_letterComesTo cX7_letterComesTo 6 (some .int), Cond.fieldLink RX7 28 "EarlyValues$View" "zero" "I", Cond.fieldLink RX7 31 "EarlyValues$View" "one" "I", Cond.methodLink RX7 132 ⟨"EarlyValues$View", "less", "(I)I"⟩, Cond.sameMethod "EarlyValues$View" "EarlyValues$View" "less" "(I)I", Cond.selects RX0 ⟨"EarlyValues$View", "less", "(I)I"⟩ yX0_less, Cond.instanceMethod yX0_less, Cond.code yX0_less cX0_less 2 (some .int)]
def wsX8_day_r7 : List Cond := [Cond.selects RX4 ⟨"EarlyValues$View", "less", "(I)I"⟩ yX4_less, Cond.instanceMethod yX4_less, Cond.code yX4_less cX4_less 2 (some .int), Cond.selects RX6 ⟨"EarlyValues$View", "less", "(I)I"⟩ yX6_less, Cond.instanceMethod yX6_less, Cond.code yX6_less cX6_less 2 (some .int), Cond.methodLink RX6 9 Lib.Math.max.name, Cond.static Lib.Math.max.name, Cond.initialized "java/lang/Math", Cond.code Lib.Math.max.name Lib.Math.max.code 2 (some .int), Cond.methodLink RX7 135 ⟨"EarlyValues$View", "sum", "(II)I"⟩, Cond.sameMethod "EarlyValues$View" "EarlyValues$View" "sum" "(II)I", Cond.selects RX0 ⟨"EarlyValues$View", "sum", "(II)I"⟩ yX0_sum, Cond.instanceMethod yX0_sum, Cond.code yX0_sum cX0_sum 5 (some .int), Cond.selects RX4 ⟨"EarlyValues$View", "sum", "(II)I"⟩ yX4_sum, Cond.instanceMethod yX4_sum, Cond.code yX4_sum cX4_sum 3 (some .int), Cond.selects RX6 ⟨"EarlyValues$View", "sum", "(II)I"⟩ yX6_sum, Cond.instanceMethod yX6_sum, Cond.code yX6_sum cX6_sum 3 (some .int), Cond.methodLink RX7 138 ⟨"EarlyValues$View", "chosen", "(III)I"⟩, Cond.sameMethod "EarlyValues$View" "EarlyValues$View" "chosen" "(III)I", Cond.selects RX0 ⟨"EarlyValues$View", "chosen", "(III)I"⟩ yX0_chosen]
def wsX8_day_r8 : List Cond := [Cond.instanceMethod yX0_chosen, Cond.code yX0_chosen cX0_chosen 5 (some .int), Cond.selects RX4 ⟨"EarlyValues$View", "chosen", "(III)I"⟩ yX4_chosen, Cond.instanceMethod yX4_chosen, Cond.code yX4_chosen cX4_chosen 4 (some .int), Cond.selects RX6 ⟨"EarlyValues$View", "chosen", "(III)I"⟩ yX6_chosen, Cond.instanceMethod yX6_chosen, Cond.code yX6_chosen cX6_chosen 4 (some .int), Cond.selects RX4 ⟨"EarlyValues$View", "letterComesTo", "(IIII)I"⟩ yX7_letterComesTo, Cond.selects RX6 ⟨"EarlyValues$View", "letterComesTo", "(IIII)I"⟩ yX7_letterComesTo, Cond.methodLink RX7 129 ⟨"EarlyValues$View", "push", "(I)V"⟩, Cond.sameMethod "EarlyValues$View" "EarlyValues$View" "push" "(I)V", Cond.selects RX0 ⟨"EarlyValues$View", "push", "(I)V"⟩ yX7_push, Cond.instanceMethod yX7_push, Cond.code yX7_push cX7_push 2 none, Cond.selects RX4 ⟨"EarlyValues$View", "push", "(I)V"⟩ yX7_push, Cond.selects RX6 ⟨"EarlyValues$View", "push", "(I)V"⟩ yX7_push, Cond.selects RX4 ⟨"EarlyValues$View", "bodyComesTo", "(LEarlyValues$Program;I)I"⟩ yX7_bodyComesTo, Cond.selects RX6 ⟨"EarlyValues$View", "bodyComesTo", "(LEarlyValues$Program;I)I"⟩ yX7_bodyComesTo, Cond.selects RX4 ⟨"EarlyValues$View", "advance", "(LEarlyValues$Program;)Z"⟩ yX7_advance, Cond.selects RX6 ⟨"EarlyValues$View", "advance", "(LEarlyValues$Program;)Z"⟩ yX7_advance, Cond.selects RX4 ⟨"EarlyValues$View", "solve", "(LEarlyValues$Program;)V"⟩ yX7_solve, Cond.selects RX6 ⟨"EarlyValues$View", "solve", "(LEarlyValues$Program;)V"⟩ yX7_solve, Cond.methodLink RX8 215 ⟨"EarlyValues$View", "rowsThatCome", "(LEarlyValues$Program;I)I"⟩]
def wsX8_day_r9 : List Cond := [Cond.sameMethod "EarlyValues$View" "EarlyValues$View" "rowsThatCome" "(LEarlyValues$Program;I)I", Cond.selects RX0 ⟨"EarlyValues$View", "rowsThatCome", "(LEarlyValues$Program;I)I"⟩ yX7_rowsThatCome, Cond.instanceMethod yX7_rowsThatCome, Cond.code yX7_rowsThatCome cX7_rowsThatCome 5 (some .int), Cond.selects RX4 ⟨"EarlyValues$View", "rowsThatCome", "(LEarlyValues$Program;I)I"⟩ yX7_rowsThatCome, Cond.selects RX6 ⟨"EarlyValues$View", "rowsThatCome", "(LEarlyValues$Program;I)I"⟩ yX7_rowsThatCome, Cond.methodLink RX8 184 ⟨"EarlyValues$View", "strictBits", "(LEarlyValues$Program;I)I"⟩, Cond.sameMethod "EarlyValues$View" "EarlyValues$View" "strictBits" "(LEarlyValues$Program;I)I", Cond.selects RX0 ⟨"EarlyValues$View", "strictBits", "(LEarlyValues$Program;I)I"⟩ yX7_strictBits, Cond.instanceMethod yX7_strictBits, Cond.code yX7_strictBits cX7_strictBits 5 (some .int), Cond.methodLink RX7 79 ⟨"EarlyValues$View", "isStrict", "(LEarlyValues$Program;II)Z"⟩, Cond.sameMethod "EarlyValues$View" "EarlyValues$View" "isStrict" "(LEarlyValues$Program;II)Z", Cond.selects RX0 ⟨"EarlyValues$View", "isStrict", "(LEarlyValues$Program;II)Z"⟩ yX7_isStrict, Cond.instanceMethod yX7_isStrict, Cond.code yX7_isStrict cX7_isStrict 5 (some .boolean), Cond.selects RX4 ⟨"EarlyValues$View", "isStrict", "(LEarlyValues$Program;II)Z"⟩ yX7_isStrict, Cond.selects RX6 ⟨"EarlyValues$View", "isStrict", "(LEarlyValues$Program;II)Z"⟩ yX7_isStrict, Cond.selects RX4 ⟨"EarlyValues$View", "strictBits", "(LEarlyValues$Program;I)I"⟩ yX7_strictBits, Cond.selects RX6 ⟨"EarlyValues$View", "strictBits", "(LEarlyValues$Program;I)I"⟩ yX7_strictBits, Cond.methodLink RX8 187 yJ6_bitCount_0f7a4, Cond.static yJ6_bitCount_0f7a4, Cond.initialized RJ6, Cond.code yJ6_bitCount_0f7a4 cJ6_bitCount_0f7a4 1 (some .int)]
def wsX8_day_r10 : List Cond := [Cond.constant RJ6 265 (1431655765), Cond.constant RJ6 266 (858993459), Cond.constant RJ6 267 (252645135)]
def wsX8_day : List Cond := .code yX8_day cX8_day 7 (some .int) :: ((wsX8_day_r1 ++ (wsX8_day_r2 ++ (wsX8_day_r3 ++ (wsX8_day_r4 ++ (wsX8_day_r5 ++ (wsX8_day_r6 ++ (wsX8_day_r7 ++ (wsX8_day_r8 ++ (wsX8_day_r9 ++ wsX8_day_r10))))))))) ++ wsX80 ++ wsX30 ++ wsX00 ++ wsX40 ++ wsX60)
def wsX8_keep : List Cond := .code yX8_keep cX8_keep 1 (some .int) :: ([.fieldLink RX8 102 "EarlyValues" "keptCount" "I", .fieldLink RX8 26 "EarlyValues" "kept" "[LEarlyValues$Program;", .fieldLink RX8 19 "EarlyValues" "now" "LEarlyValues$Program;", .methodLink RX8 87 yX3_takeFrom, .instanceMethod yX3_takeFrom, .selects RX3 yX3_takeFrom yX3_takeFrom, .initialized RX3, .code yX3_takeFrom cX3_takeFrom 3 none, .fieldLink RX3 24 "EarlyValues$Program" "functions" "I", .fieldLink RX3 9 "EarlyValues$Program" "arguments" "[I", .fieldLink RX3 13 "EarlyValues$Program" "kinds" "[I", .fieldLink RX3 16 "EarlyValues$Program" "lengths" "[I", .fieldLink RX3 21 "EarlyValues$Program" "bodies" "[[I", .methodLink RX3 28 arraycopyName, .native arraycopyName, .static arraycopyName, .initialized "java/lang/System"] ++ wsX80 ++ wsX30)
def wsX8_back_r1 : List Cond := [Cond.fieldLink RX8 102 "EarlyValues" "keptCount" "I", Cond.fieldLink RX8 19 "EarlyValues" "now" "LEarlyValues$Program;", Cond.fieldLink RX8 26 "EarlyValues" "kept" "[LEarlyValues$Program;", Cond.fieldLink RX8 33 "EarlyValues" "history" "LEarlyValues$History;", Cond.methodLink RX8 87 yX3_takeFrom, Cond.instanceMethod yX3_takeFrom, Cond.selects RX3 yX3_takeFrom yX3_takeFrom, Cond.initialized RX3, Cond.code yX3_takeFrom cX3_takeFrom 3 none, Cond.fieldLink RX3 24 "EarlyValues$Program" "functions" "I", Cond.fieldLink RX3 9 "EarlyValues$Program" "arguments" "[I", Cond.fieldLink RX3 13 "EarlyValues$Program" "kinds" "[I", Cond.fieldLink RX3 16 "EarlyValues$Program" "lengths" "[I", Cond.fieldLink RX3 21 "EarlyValues$Program" "bodies" "[[I", Cond.methodLink RX3 28 arraycopyName, Cond.native arraycopyName, Cond.static arraycopyName, Cond.initialized "java/lang/System", Cond.methodLink RX8 101 yX1_clear, Cond.instanceMethod yX1_clear, Cond.selects RX1 yX1_clear yX1_clear, Cond.initialized RX1, Cond.code yX1_clear cX1_clear 1 none, Cond.fieldLink RX1 19 "EarlyValues$History" "count" "I"]
def wsX8_back_r2 : List Cond := [Cond.methodLink RX8 105 yX8_forgetViews, Cond.instanceMethod yX8_forgetViews, Cond.selects RX8 yX8_forgetViews yX8_forgetViews, Cond.initialized RX8, Cond.code yX8_forgetViews cX8_forgetViews 1 none, Cond.fieldLink RX8 40 "EarlyValues" "values" "LEarlyValues$View;", Cond.fieldLink RX8 222 "EarlyValues$View" "fresh" "Z", Cond.fieldLink RX8 47 "EarlyValues" "roughly" "LEarlyValues$View;", Cond.fieldLink RX8 53 "EarlyValues" "finely" "LEarlyValues$View;"]
def wsX8_back : List Cond := .code yX8_back cX8_back 1 (some .int) :: ((wsX8_back_r1 ++ wsX8_back_r2) ++ wsX80 ++ wsX30 ++ wsX10 ++ wsX00 ++ wsX40 ++ wsX60)
def wsX8_count : List Cond := .code yX8_count cX8_count 2 (some .int) :: ([.fieldLink RX8 19 "EarlyValues" "now" "LEarlyValues$Program;", .fieldLink RX8 108 "EarlyValues$Program" "functions" "I", .fieldLink RX8 122 "EarlyValues$Program" "lengths" "[I", .fieldLink RX8 119 "EarlyValues$Program" "arguments" "[I", .fieldLink RX8 33 "EarlyValues" "history" "LEarlyValues$History;", .fieldLink RX8 149 "EarlyValues$History" "count" "I", .fieldLink RX8 102 "EarlyValues" "keptCount" "I", .fieldLink RX8 10 "EarlyValues" "text" "LEarlyValues$Text;", .fieldLink RX8 94 "EarlyValues$Text" "length" "I", .methodLink RX8 218 yX3_allOf, .instanceMethod yX3_allOf, .selects RX3 yX3_allOf yX3_allOf, .initialized RX3, .code yX3_allOf cX3_allOf 4 (some .int), .fieldLink RX3 24 "EarlyValues$Program" "functions" "I"] ++ wsX80 ++ wsX30 ++ wsX10 ++ wsX50)
def wsX9_in : List Cond := .code yX9_in cX9_in 3 (some .boolean) :: ([])
def wsX9_begin : List Cond := .code yX9_begin cX9_begin 3 none :: ([.fieldLink RX9 19 "EarlyValuesModel" "body" "[I", .fieldLink RX9 16 "EarlyValuesModel" "longOf" "[I"] ++ wsX90)
def wsX9_begins : List Cond := .code yX9_begins cX9_begins 6 none :: ([.methodLink RX9 57 yX9_begin, .instanceMethod yX9_begin, .selects RX9 yX9_begin yX9_begin, .initialized RX9, .code yX9_begin cX9_begin 3 none, .fieldLink RX9 19 "EarlyValuesModel" "body" "[I", .fieldLink RX9 16 "EarlyValuesModel" "longOf" "[I"] ++ wsX90)
def wsX9_init_r1 : List Cond := [Cond.methodLink RX9 1 objectInit, Cond.instanceMethod objectInit, Cond.code objectInit ⟨#[0xb1]⟩ 1 none, Cond.arrayClass .int, Cond.fieldLink RX9 7 "EarlyValuesModel" "argsOf" "[I", Cond.fieldLink RX9 13 "EarlyValuesModel" "kindOf" "[I", Cond.fieldLink RX9 16 "EarlyValuesModel" "longOf" "[I", Cond.fieldLink RX9 19 "EarlyValuesModel" "body" "[I", Cond.fieldLink RX9 22 "EarlyValuesModel" "table" "[I", Cond.fieldLink RX9 25 "EarlyValuesModel" "then" "[I", Cond.fieldLink RX9 28 "EarlyValuesModel" "roundsOf" "[I", Cond.fieldLink RX9 31 "EarlyValuesModel" "parts" "[I", Cond.fieldLink RX9 34 "EarlyValuesModel" "ahead" "[I", Cond.fieldLink RX9 37 "EarlyValuesModel" "saved" "[I", Cond.fieldLink RX9 40 "EarlyValuesModel" "aside" "[I", Cond.fieldLink RX9 43 "EarlyValuesModel" "text" "[I", Cond.fieldLink RX9 46 "EarlyValuesModel" "before" "[I", Cond.fieldLink RX9 49 "EarlyValuesModel" "many" "I", Cond.methodLink RX9 53 yX9_begins, Cond.instanceMethod yX9_begins, Cond.selects RX9 yX9_begins yX9_begins, Cond.initialized RX9, Cond.code yX9_begins cX9_begins 6 none, Cond.methodLink RX9 57 yX9_begin]
def wsX9_init_r2 : List Cond := [Cond.instanceMethod yX9_begin, Cond.selects RX9 yX9_begin yX9_begin, Cond.code yX9_begin cX9_begin 3 none]
def wsX9_init : List Cond := .code yX9_init cX9_init 1 none :: ((wsX9_init_r1 ++ wsX9_init_r2) ++ wsX90)
def wsX9_isFunction : List Cond := .code yX9_isFunction cX9_isFunction 2 (some .boolean) :: ([.fieldLink RX9 49 "EarlyValuesModel" "many" "I", .methodLink RX9 61 yX9_in, .static yX9_in, .initialized RX9, .code yX9_in cX9_in 3 (some .boolean)] ++ wsX90)
def wsX9_letterBy : List Cond := .code yX9_letterBy cX9_letterBy 1 (some .int) :: ([])
def wsX9_placeOf : List Cond := .code yX9_placeOf cX9_placeOf 2 (some .int) :: ([.methodLink RX9 65 yX9_letterBy, .static yX9_letterBy, .initialized RX9, .code yX9_letterBy cX9_letterBy 1 (some .int)])
def wsX9_partsOf : List Cond := .code yX9_partsOf cX9_partsOf 3 (some .int) :: ([.fieldLink RX9 49 "EarlyValuesModel" "many" "I", .fieldLink RX9 7 "EarlyValuesModel" "argsOf" "[I", .methodLink RX9 61 yX9_in, .static yX9_in, .initialized RX9, .code yX9_in cX9_in 3 (some .boolean)] ++ wsX90)
def wsX9_sizeOf : List Cond := .code yX9_sizeOf cX9_sizeOf 1 (some .int) :: ([])
def wsX9_neverOf : List Cond := .code yX9_neverOf cX9_neverOf 1 (some .int) :: ([])
def wsX9_rowOf : List Cond := .code yX9_rowOf cX9_rowOf 3 (some .int) :: ([])
def wsX9_tableAt : List Cond := .code yX9_tableAt cX9_tableAt 4 (some .int) :: ([.fieldLink RX9 22 "EarlyValuesModel" "table" "[I"] ++ wsX90)
def wsX9_valueBy : List Cond := .code yX9_valueBy cX9_valueBy 4 (some .int) :: ([])
def wsX9_roughBy : List Cond := .code yX9_roughBy cX9_roughBy 4 (some .int) :: ([])
def wsX9_fineBy : List Cond := .code yX9_fineBy cX9_fineBy 5 (some .int) :: ([])
def wsX9_constantBy : List Cond := .code yX9_constantBy cX9_constantBy 2 (some .int) :: ([.methodLink RX9 69 yX9_neverOf, .static yX9_neverOf, .initialized RX9, .code yX9_neverOf cX9_neverOf 1 (some .int)])
def wsX9_madeBy : List Cond := .code yX9_madeBy cX9_madeBy 6 (some .int) :: ([.methodLink RX9 61 yX9_in, .static yX9_in, .initialized RX9, .code yX9_in cX9_in 3 (some .boolean), .methodLink RX9 72 yX9_rowOf, .static yX9_rowOf, .code yX9_rowOf cX9_rowOf 3 (some .int), .methodLink RX9 76 yX9_tableAt, .instanceMethod yX9_tableAt, .selects RX9 yX9_tableAt yX9_tableAt, .code yX9_tableAt cX9_tableAt 4 (some .int), .fieldLink RX9 22 "EarlyValuesModel" "table" "[I", .methodLink RX9 79 yX9_valueBy, .static yX9_valueBy, .code yX9_valueBy cX9_valueBy 4 (some .int), .methodLink RX9 83 yX9_roughBy, .static yX9_roughBy, .code yX9_roughBy cX9_roughBy 4 (some .int), .methodLink RX9 86 yX9_fineBy, .static yX9_fineBy, .code yX9_fineBy cX9_fineBy 5 (some .int)] ++ wsX90)
def wsX9_bodyBy_r1 : List Cond := [Cond.fieldLink RX9 16 "EarlyValuesModel" "longOf" "[I", Cond.fieldLink RX9 19 "EarlyValuesModel" "body" "[I", Cond.fieldLink RX9 7 "EarlyValuesModel" "argsOf" "[I", Cond.fieldLink RX9 31 "EarlyValuesModel" "parts" "[I", Cond.methodLink RX9 89 yX9_partsOf, Cond.instanceMethod yX9_partsOf, Cond.selects RX9 yX9_partsOf yX9_partsOf, Cond.initialized RX9, Cond.code yX9_partsOf cX9_partsOf 3 (some .int), Cond.fieldLink RX9 49 "EarlyValuesModel" "many" "I", Cond.methodLink RX9 61 yX9_in, Cond.static yX9_in, Cond.code yX9_in cX9_in 3 (some .boolean), Cond.methodLink RX9 93 yX9_constantBy, Cond.static yX9_constantBy, Cond.code yX9_constantBy cX9_constantBy 2 (some .int), Cond.methodLink RX9 69 yX9_neverOf, Cond.static yX9_neverOf, Cond.code yX9_neverOf cX9_neverOf 1 (some .int), Cond.methodLink RX9 96 yX9_madeBy, Cond.instanceMethod yX9_madeBy, Cond.selects RX9 yX9_madeBy yX9_madeBy, Cond.code yX9_madeBy cX9_madeBy 6 (some .int), Cond.methodLink RX9 72 yX9_rowOf]
def wsX9_bodyBy_r2 : List Cond := [Cond.static yX9_rowOf, Cond.code yX9_rowOf cX9_rowOf 3 (some .int), Cond.methodLink RX9 76 yX9_tableAt, Cond.instanceMethod yX9_tableAt, Cond.selects RX9 yX9_tableAt yX9_tableAt, Cond.code yX9_tableAt cX9_tableAt 4 (some .int), Cond.fieldLink RX9 22 "EarlyValuesModel" "table" "[I", Cond.methodLink RX9 79 yX9_valueBy, Cond.static yX9_valueBy, Cond.code yX9_valueBy cX9_valueBy 4 (some .int), Cond.methodLink RX9 83 yX9_roughBy, Cond.static yX9_roughBy, Cond.code yX9_roughBy cX9_roughBy 4 (some .int), Cond.methodLink RX9 86 yX9_fineBy, Cond.static yX9_fineBy, Cond.code yX9_fineBy cX9_fineBy 5 (some .int)]
def wsX9_bodyBy : List Cond := .code yX9_bodyBy cX9_bodyBy 11 (some .int) :: ((wsX9_bodyBy_r1 ++ wsX9_bodyBy_r2) ++ wsX90)
def wsX9_isNever : List Cond := .code yX9_isNever cX9_isNever 2 (some .boolean) :: ([.methodLink RX9 69 yX9_neverOf, .static yX9_neverOf, .initialized RX9, .code yX9_neverOf cX9_neverOf 1 (some .int)])
def wsX9_comesTo_r1 : List Cond := [Cond.fieldLink RX9 7 "EarlyValuesModel" "argsOf" "[I", Cond.fieldLink RX9 13 "EarlyValuesModel" "kindOf" "[I", Cond.methodLink RX9 100 yX9_isNever, Cond.static yX9_isNever, Cond.initialized RX9, Cond.code yX9_isNever cX9_isNever 2 (some .boolean), Cond.methodLink RX9 69 yX9_neverOf, Cond.static yX9_neverOf, Cond.code yX9_neverOf cX9_neverOf 1 (some .int), Cond.methodLink RX9 104 yX9_bodyBy, Cond.instanceMethod yX9_bodyBy, Cond.selects RX9 yX9_bodyBy yX9_bodyBy, Cond.code yX9_bodyBy cX9_bodyBy 11 (some .int), Cond.fieldLink RX9 16 "EarlyValuesModel" "longOf" "[I", Cond.fieldLink RX9 19 "EarlyValuesModel" "body" "[I", Cond.fieldLink RX9 31 "EarlyValuesModel" "parts" "[I", Cond.methodLink RX9 89 yX9_partsOf, Cond.instanceMethod yX9_partsOf, Cond.selects RX9 yX9_partsOf yX9_partsOf, Cond.code yX9_partsOf cX9_partsOf 3 (some .int), Cond.fieldLink RX9 49 "EarlyValuesModel" "many" "I", Cond.methodLink RX9 61 yX9_in, Cond.static yX9_in, Cond.code yX9_in cX9_in 3 (some .boolean)]
def wsX9_comesTo_r2 : List Cond := [Cond.methodLink RX9 93 yX9_constantBy, Cond.static yX9_constantBy, Cond.code yX9_constantBy cX9_constantBy 2 (some .int), Cond.methodLink RX9 96 yX9_madeBy, Cond.instanceMethod yX9_madeBy, Cond.selects RX9 yX9_madeBy yX9_madeBy, Cond.code yX9_madeBy cX9_madeBy 6 (some .int), Cond.methodLink RX9 72 yX9_rowOf, Cond.static yX9_rowOf, Cond.code yX9_rowOf cX9_rowOf 3 (some .int), Cond.methodLink RX9 76 yX9_tableAt, Cond.instanceMethod yX9_tableAt, Cond.selects RX9 yX9_tableAt yX9_tableAt, Cond.code yX9_tableAt cX9_tableAt 4 (some .int), Cond.fieldLink RX9 22 "EarlyValuesModel" "table" "[I", Cond.methodLink RX9 79 yX9_valueBy, Cond.static yX9_valueBy, Cond.code yX9_valueBy cX9_valueBy 4 (some .int), Cond.methodLink RX9 83 yX9_roughBy, Cond.static yX9_roughBy, Cond.code yX9_roughBy cX9_roughBy 4 (some .int), Cond.methodLink RX9 86 yX9_fineBy, Cond.static yX9_fineBy, Cond.code yX9_fineBy cX9_fineBy 5 (some .int)]
def wsX9_comesTo : List Cond := .code yX9_comesTo cX9_comesTo 10 (some .int) :: ((wsX9_comesTo_r1 ++ wsX9_comesTo_r2) ++ wsX90)
def wsX9_isRow : List Cond := .code yX9_isRow cX9_isRow 7 (some .boolean) :: ([.fieldLink RX9 7 "EarlyValuesModel" "argsOf" "[I", .methodLink RX9 61 yX9_in, .static yX9_in, .initialized RX9, .code yX9_in cX9_in 3 (some .boolean)] ++ wsX90)
def wsX9_changes_r1 : List Cond := [Cond.fieldLink RX9 49 "EarlyValuesModel" "many" "I", Cond.fieldLink RX9 25 "EarlyValuesModel" "then" "[I", Cond.fieldLink RX9 22 "EarlyValuesModel" "table" "[I", Cond.methodLink RX9 107 yX9_sizeOf, Cond.static yX9_sizeOf, Cond.initialized RX9, Cond.code yX9_sizeOf cX9_sizeOf 1 (some .int), Cond.methodLink RX9 110 yX9_isRow, Cond.instanceMethod yX9_isRow, Cond.selects RX9 yX9_isRow yX9_isRow, Cond.code yX9_isRow cX9_isRow 7 (some .boolean), Cond.fieldLink RX9 7 "EarlyValuesModel" "argsOf" "[I", Cond.methodLink RX9 61 yX9_in, Cond.static yX9_in, Cond.code yX9_in cX9_in 3 (some .boolean), Cond.methodLink RX9 114 yX9_comesTo, Cond.instanceMethod yX9_comesTo, Cond.selects RX9 yX9_comesTo yX9_comesTo, Cond.code yX9_comesTo cX9_comesTo 10 (some .int), Cond.fieldLink RX9 13 "EarlyValuesModel" "kindOf" "[I", Cond.methodLink RX9 100 yX9_isNever, Cond.static yX9_isNever, Cond.code yX9_isNever cX9_isNever 2 (some .boolean), Cond.methodLink RX9 69 yX9_neverOf]
def wsX9_changes_r2 : List Cond := [Cond.static yX9_neverOf, Cond.code yX9_neverOf cX9_neverOf 1 (some .int), Cond.methodLink RX9 104 yX9_bodyBy, Cond.instanceMethod yX9_bodyBy, Cond.selects RX9 yX9_bodyBy yX9_bodyBy, Cond.code yX9_bodyBy cX9_bodyBy 11 (some .int), Cond.fieldLink RX9 16 "EarlyValuesModel" "longOf" "[I", Cond.fieldLink RX9 19 "EarlyValuesModel" "body" "[I", Cond.fieldLink RX9 31 "EarlyValuesModel" "parts" "[I", Cond.methodLink RX9 89 yX9_partsOf, Cond.instanceMethod yX9_partsOf, Cond.selects RX9 yX9_partsOf yX9_partsOf, Cond.code yX9_partsOf cX9_partsOf 3 (some .int), Cond.methodLink RX9 93 yX9_constantBy, Cond.static yX9_constantBy, Cond.code yX9_constantBy cX9_constantBy 2 (some .int), Cond.methodLink RX9 96 yX9_madeBy, Cond.instanceMethod yX9_madeBy, Cond.selects RX9 yX9_madeBy yX9_madeBy, Cond.code yX9_madeBy cX9_madeBy 6 (some .int), Cond.methodLink RX9 72 yX9_rowOf, Cond.static yX9_rowOf, Cond.code yX9_rowOf cX9_rowOf 3 (some .int), Cond.methodLink RX9 76 yX9_tableAt]
def wsX9_changes_r3 : List Cond := [Cond.instanceMethod yX9_tableAt, Cond.selects RX9 yX9_tableAt yX9_tableAt, Cond.code yX9_tableAt cX9_tableAt 4 (some .int), Cond.methodLink RX9 79 yX9_valueBy, Cond.static yX9_valueBy, Cond.code yX9_valueBy cX9_valueBy 4 (some .int), Cond.methodLink RX9 83 yX9_roughBy, Cond.static yX9_roughBy, Cond.code yX9_roughBy cX9_roughBy 4 (some .int), Cond.methodLink RX9 86 yX9_fineBy, Cond.static yX9_fineBy, Cond.code yX9_fineBy cX9_fineBy 5 (some .int)]
def wsX9_changes : List Cond := .code yX9_changes cX9_changes 10 (some .boolean) :: ((wsX9_changes_r1 ++ (wsX9_changes_r2 ++ wsX9_changes_r3)) ++ wsX90)
def wsX9_sets_r1 : List Cond := [Cond.fieldLink RX9 22 "EarlyValuesModel" "table" "[I", Cond.fieldLink RX9 28 "EarlyValuesModel" "roundsOf" "[I", Cond.methodLink RX9 69 yX9_neverOf, Cond.static yX9_neverOf, Cond.initialized RX9, Cond.code yX9_neverOf cX9_neverOf 1 (some .int), Cond.methodLink RX9 117 yX9_changes, Cond.instanceMethod yX9_changes, Cond.selects RX9 yX9_changes yX9_changes, Cond.code yX9_changes cX9_changes 10 (some .boolean), Cond.fieldLink RX9 49 "EarlyValuesModel" "many" "I", Cond.fieldLink RX9 25 "EarlyValuesModel" "then" "[I", Cond.methodLink RX9 107 yX9_sizeOf, Cond.static yX9_sizeOf, Cond.code yX9_sizeOf cX9_sizeOf 1 (some .int), Cond.methodLink RX9 110 yX9_isRow, Cond.instanceMethod yX9_isRow, Cond.selects RX9 yX9_isRow yX9_isRow, Cond.code yX9_isRow cX9_isRow 7 (some .boolean), Cond.fieldLink RX9 7 "EarlyValuesModel" "argsOf" "[I", Cond.methodLink RX9 61 yX9_in, Cond.static yX9_in, Cond.code yX9_in cX9_in 3 (some .boolean), Cond.methodLink RX9 114 yX9_comesTo]
def wsX9_sets_r2 : List Cond := [Cond.instanceMethod yX9_comesTo, Cond.selects RX9 yX9_comesTo yX9_comesTo, Cond.code yX9_comesTo cX9_comesTo 10 (some .int), Cond.fieldLink RX9 13 "EarlyValuesModel" "kindOf" "[I", Cond.methodLink RX9 100 yX9_isNever, Cond.static yX9_isNever, Cond.code yX9_isNever cX9_isNever 2 (some .boolean), Cond.methodLink RX9 104 yX9_bodyBy, Cond.instanceMethod yX9_bodyBy, Cond.selects RX9 yX9_bodyBy yX9_bodyBy, Cond.code yX9_bodyBy cX9_bodyBy 11 (some .int), Cond.fieldLink RX9 16 "EarlyValuesModel" "longOf" "[I", Cond.fieldLink RX9 19 "EarlyValuesModel" "body" "[I", Cond.fieldLink RX9 31 "EarlyValuesModel" "parts" "[I", Cond.methodLink RX9 89 yX9_partsOf, Cond.instanceMethod yX9_partsOf, Cond.selects RX9 yX9_partsOf yX9_partsOf, Cond.code yX9_partsOf cX9_partsOf 3 (some .int), Cond.methodLink RX9 93 yX9_constantBy, Cond.static yX9_constantBy, Cond.code yX9_constantBy cX9_constantBy 2 (some .int), Cond.methodLink RX9 96 yX9_madeBy, Cond.instanceMethod yX9_madeBy, Cond.selects RX9 yX9_madeBy yX9_madeBy]
def wsX9_sets_r3 : List Cond := [Cond.code yX9_madeBy cX9_madeBy 6 (some .int), Cond.methodLink RX9 72 yX9_rowOf, Cond.static yX9_rowOf, Cond.code yX9_rowOf cX9_rowOf 3 (some .int), Cond.methodLink RX9 76 yX9_tableAt, Cond.instanceMethod yX9_tableAt, Cond.selects RX9 yX9_tableAt yX9_tableAt, Cond.code yX9_tableAt cX9_tableAt 4 (some .int), Cond.methodLink RX9 79 yX9_valueBy, Cond.static yX9_valueBy, Cond.code yX9_valueBy cX9_valueBy 4 (some .int), Cond.methodLink RX9 83 yX9_roughBy, Cond.static yX9_roughBy, Cond.code yX9_roughBy cX9_roughBy 4 (some .int), Cond.methodLink RX9 86 yX9_fineBy, Cond.static yX9_fineBy, Cond.code yX9_fineBy cX9_fineBy 5 (some .int)]
def wsX9_sets : List Cond := .code yX9_sets cX9_sets 3 none :: ((wsX9_sets_r1 ++ (wsX9_sets_r2 ++ wsX9_sets_r3)) ++ wsX90)
def wsX9_setAll_r1 : List Cond := [Cond.fieldLink RX9 121 "EarlyValuesModel" "isKnown" "Z", Cond.methodLink RX9 125 yX9_sets, Cond.instanceMethod yX9_sets, Cond.selects RX9 yX9_sets yX9_sets, Cond.initialized RX9, Cond.code yX9_sets cX9_sets 3 none, Cond.fieldLink RX9 22 "EarlyValuesModel" "table" "[I", Cond.fieldLink RX9 28 "EarlyValuesModel" "roundsOf" "[I", Cond.methodLink RX9 69 yX9_neverOf, Cond.static yX9_neverOf, Cond.code yX9_neverOf cX9_neverOf 1 (some .int), Cond.methodLink RX9 117 yX9_changes, Cond.instanceMethod yX9_changes, Cond.selects RX9 yX9_changes yX9_changes, Cond.code yX9_changes cX9_changes 10 (some .boolean), Cond.fieldLink RX9 49 "EarlyValuesModel" "many" "I", Cond.fieldLink RX9 25 "EarlyValuesModel" "then" "[I", Cond.methodLink RX9 107 yX9_sizeOf, Cond.static yX9_sizeOf, Cond.code yX9_sizeOf cX9_sizeOf 1 (some .int), Cond.methodLink RX9 110 yX9_isRow, Cond.instanceMethod yX9_isRow, Cond.selects RX9 yX9_isRow yX9_isRow, Cond.code yX9_isRow cX9_isRow 7 (some .boolean)]
def wsX9_setAll_r2 : List Cond := [Cond.fieldLink RX9 7 "EarlyValuesModel" "argsOf" "[I", Cond.methodLink RX9 61 yX9_in, Cond.static yX9_in, Cond.code yX9_in cX9_in 3 (some .boolean), Cond.methodLink RX9 114 yX9_comesTo, Cond.instanceMethod yX9_comesTo, Cond.selects RX9 yX9_comesTo yX9_comesTo, Cond.code yX9_comesTo cX9_comesTo 10 (some .int), Cond.fieldLink RX9 13 "EarlyValuesModel" "kindOf" "[I", Cond.methodLink RX9 100 yX9_isNever, Cond.static yX9_isNever, Cond.code yX9_isNever cX9_isNever 2 (some .boolean), Cond.methodLink RX9 104 yX9_bodyBy, Cond.instanceMethod yX9_bodyBy, Cond.selects RX9 yX9_bodyBy yX9_bodyBy, Cond.code yX9_bodyBy cX9_bodyBy 11 (some .int), Cond.fieldLink RX9 16 "EarlyValuesModel" "longOf" "[I", Cond.fieldLink RX9 19 "EarlyValuesModel" "body" "[I", Cond.fieldLink RX9 31 "EarlyValuesModel" "parts" "[I", Cond.methodLink RX9 89 yX9_partsOf, Cond.instanceMethod yX9_partsOf, Cond.selects RX9 yX9_partsOf yX9_partsOf, Cond.code yX9_partsOf cX9_partsOf 3 (some .int), Cond.methodLink RX9 93 yX9_constantBy]
def wsX9_setAll_r3 : List Cond := [Cond.static yX9_constantBy, Cond.code yX9_constantBy cX9_constantBy 2 (some .int), Cond.methodLink RX9 96 yX9_madeBy, Cond.instanceMethod yX9_madeBy, Cond.selects RX9 yX9_madeBy yX9_madeBy, Cond.code yX9_madeBy cX9_madeBy 6 (some .int), Cond.methodLink RX9 72 yX9_rowOf, Cond.static yX9_rowOf, Cond.code yX9_rowOf cX9_rowOf 3 (some .int), Cond.methodLink RX9 76 yX9_tableAt, Cond.instanceMethod yX9_tableAt, Cond.selects RX9 yX9_tableAt yX9_tableAt, Cond.code yX9_tableAt cX9_tableAt 4 (some .int), Cond.methodLink RX9 79 yX9_valueBy, Cond.static yX9_valueBy, Cond.code yX9_valueBy cX9_valueBy 4 (some .int), Cond.methodLink RX9 83 yX9_roughBy, Cond.static yX9_roughBy, Cond.code yX9_roughBy cX9_roughBy 4 (some .int), Cond.methodLink RX9 86 yX9_fineBy, Cond.static yX9_fineBy, Cond.code yX9_fineBy cX9_fineBy 5 (some .int)]
def wsX9_setAll : List Cond := .code yX9_setAll cX9_setAll 1 none :: ((wsX9_setAll_r1 ++ (wsX9_setAll_r2 ++ wsX9_setAll_r3)) ++ wsX90)
def wsX9_function : List Cond := .code yX9_function cX9_function 3 (some .int) :: ([.fieldLink RX9 13 "EarlyValuesModel" "kindOf" "[I", .fieldLink RX9 7 "EarlyValuesModel" "argsOf" "[I", .fieldLink RX9 16 "EarlyValuesModel" "longOf" "[I", .methodLink RX9 129 yX9_isFunction, .instanceMethod yX9_isFunction, .selects RX9 yX9_isFunction yX9_isFunction, .initialized RX9, .code yX9_isFunction cX9_isFunction 2 (some .boolean), .fieldLink RX9 49 "EarlyValuesModel" "many" "I", .methodLink RX9 61 yX9_in, .static yX9_in, .code yX9_in cX9_in 3 (some .boolean)] ++ wsX90)
def wsX9_letter : List Cond := .code yX9_letter cX9_letter 3 (some .int) :: ([.fieldLink RX9 16 "EarlyValuesModel" "longOf" "[I", .fieldLink RX9 19 "EarlyValuesModel" "body" "[I", .methodLink RX9 129 yX9_isFunction, .instanceMethod yX9_isFunction, .selects RX9 yX9_isFunction yX9_isFunction, .initialized RX9, .code yX9_isFunction cX9_isFunction 2 (some .boolean), .fieldLink RX9 49 "EarlyValuesModel" "many" "I", .methodLink RX9 61 yX9_in, .static yX9_in, .code yX9_in cX9_in 3 (some .boolean)] ++ wsX90)
def wsX9_lays : List Cond := .code yX9_lays cX9_lays 4 none :: ([.fieldLink RX9 49 "EarlyValuesModel" "many" "I", .fieldLink RX9 7 "EarlyValuesModel" "argsOf" "[I", .fieldLink RX9 13 "EarlyValuesModel" "kindOf" "[I", .fieldLink RX9 16 "EarlyValuesModel" "longOf" "[I", .fieldLink RX9 19 "EarlyValuesModel" "body" "[I"] ++ wsX90)
def wsX9_takes : List Cond := .code yX9_takes cX9_takes 4 none :: ([.fieldLink RX9 49 "EarlyValuesModel" "many" "I", .fieldLink RX9 7 "EarlyValuesModel" "argsOf" "[I", .fieldLink RX9 13 "EarlyValuesModel" "kindOf" "[I", .fieldLink RX9 16 "EarlyValuesModel" "longOf" "[I", .fieldLink RX9 19 "EarlyValuesModel" "body" "[I", .fieldLink RX9 121 "EarlyValuesModel" "isKnown" "Z"] ++ wsX90)
def wsX9_notes : List Cond := .code yX9_notes cX9_notes 2 none :: ([.fieldLink RX9 132 "EarlyValuesModel" "undoMany" "I", .fieldLink RX9 34 "EarlyValuesModel" "ahead" "[I", .fieldLink RX9 121 "EarlyValuesModel" "isKnown" "Z", .methodLink RX9 135 yX9_lays, .instanceMethod yX9_lays, .selects RX9 yX9_lays yX9_lays, .initialized RX9, .code yX9_lays cX9_lays 4 none, .fieldLink RX9 49 "EarlyValuesModel" "many" "I", .fieldLink RX9 7 "EarlyValuesModel" "argsOf" "[I", .fieldLink RX9 13 "EarlyValuesModel" "kindOf" "[I", .fieldLink RX9 16 "EarlyValuesModel" "longOf" "[I", .fieldLink RX9 19 "EarlyValuesModel" "body" "[I"] ++ wsX90)
def wsX9_mayStand : List Cond := .code yX9_mayStand cX9_mayStand 5 (some .boolean) :: ([.fieldLink RX9 7 "EarlyValuesModel" "argsOf" "[I", .fieldLink RX9 19 "EarlyValuesModel" "body" "[I", .methodLink RX9 89 yX9_partsOf, .instanceMethod yX9_partsOf, .selects RX9 yX9_partsOf yX9_partsOf, .initialized RX9, .code yX9_partsOf cX9_partsOf 3 (some .int), .fieldLink RX9 49 "EarlyValuesModel" "many" "I", .methodLink RX9 61 yX9_in, .static yX9_in, .code yX9_in cX9_in 3 (some .boolean)] ++ wsX90)
def wsX9_put_r1 : List Cond := [Cond.fieldLink RX9 16 "EarlyValuesModel" "longOf" "[I", Cond.fieldLink RX9 19 "EarlyValuesModel" "body" "[I", Cond.methodLink RX9 129 yX9_isFunction, Cond.instanceMethod yX9_isFunction, Cond.selects RX9 yX9_isFunction yX9_isFunction, Cond.initialized RX9, Cond.code yX9_isFunction cX9_isFunction 2 (some .boolean), Cond.fieldLink RX9 49 "EarlyValuesModel" "many" "I", Cond.methodLink RX9 61 yX9_in, Cond.static yX9_in, Cond.code yX9_in cX9_in 3 (some .boolean), Cond.methodLink RX9 139 yX9_mayStand, Cond.instanceMethod yX9_mayStand, Cond.selects RX9 yX9_mayStand yX9_mayStand, Cond.code yX9_mayStand cX9_mayStand 5 (some .boolean), Cond.fieldLink RX9 7 "EarlyValuesModel" "argsOf" "[I", Cond.methodLink RX9 89 yX9_partsOf, Cond.instanceMethod yX9_partsOf, Cond.selects RX9 yX9_partsOf yX9_partsOf, Cond.code yX9_partsOf cX9_partsOf 3 (some .int), Cond.methodLink RX9 142 yX9_notes, Cond.instanceMethod yX9_notes, Cond.selects RX9 yX9_notes yX9_notes, Cond.code yX9_notes cX9_notes 2 none]
def wsX9_put_r2 : List Cond := [Cond.fieldLink RX9 132 "EarlyValuesModel" "undoMany" "I", Cond.fieldLink RX9 34 "EarlyValuesModel" "ahead" "[I", Cond.fieldLink RX9 121 "EarlyValuesModel" "isKnown" "Z", Cond.methodLink RX9 135 yX9_lays, Cond.instanceMethod yX9_lays, Cond.selects RX9 yX9_lays yX9_lays, Cond.code yX9_lays cX9_lays 4 none, Cond.fieldLink RX9 13 "EarlyValuesModel" "kindOf" "[I"]
def wsX9_put : List Cond := .code yX9_put cX9_put 5 (some .int) :: ((wsX9_put_r1 ++ wsX9_put_r2) ++ wsX90)
def wsX9_rename : List Cond := .code yX9_rename cX9_rename 4 (some .int) :: ([.fieldLink RX9 13 "EarlyValuesModel" "kindOf" "[I", .methodLink RX9 129 yX9_isFunction, .instanceMethod yX9_isFunction, .selects RX9 yX9_isFunction yX9_isFunction, .initialized RX9, .code yX9_isFunction cX9_isFunction 2 (some .boolean), .fieldLink RX9 49 "EarlyValuesModel" "many" "I", .methodLink RX9 61 yX9_in, .static yX9_in, .code yX9_in cX9_in 3 (some .boolean), .methodLink RX9 142 yX9_notes, .instanceMethod yX9_notes, .selects RX9 yX9_notes yX9_notes, .code yX9_notes cX9_notes 2 none, .fieldLink RX9 132 "EarlyValuesModel" "undoMany" "I", .fieldLink RX9 34 "EarlyValuesModel" "ahead" "[I", .fieldLink RX9 121 "EarlyValuesModel" "isKnown" "Z", .methodLink RX9 135 yX9_lays, .instanceMethod yX9_lays, .selects RX9 yX9_lays yX9_lays, .code yX9_lays cX9_lays 4 none, .fieldLink RX9 7 "EarlyValuesModel" "argsOf" "[I", .fieldLink RX9 16 "EarlyValuesModel" "longOf" "[I", .fieldLink RX9 19 "EarlyValuesModel" "body" "[I"] ++ wsX90)
def wsX9_undo : List Cond := .code yX9_undo cX9_undo 1 (some .int) :: ([.fieldLink RX9 132 "EarlyValuesModel" "undoMany" "I", .fieldLink RX9 34 "EarlyValuesModel" "ahead" "[I", .methodLink RX9 145 yX9_takes, .instanceMethod yX9_takes, .selects RX9 yX9_takes yX9_takes, .initialized RX9, .code yX9_takes cX9_takes 4 none, .fieldLink RX9 49 "EarlyValuesModel" "many" "I", .fieldLink RX9 7 "EarlyValuesModel" "argsOf" "[I", .fieldLink RX9 13 "EarlyValuesModel" "kindOf" "[I", .fieldLink RX9 16 "EarlyValuesModel" "longOf" "[I", .fieldLink RX9 19 "EarlyValuesModel" "body" "[I", .fieldLink RX9 121 "EarlyValuesModel" "isKnown" "Z"] ++ wsX90)
def wsX9_keep : List Cond := .code yX9_keep cX9_keep 1 (some .int) :: ([.fieldLink RX9 148 "EarlyValuesModel" "savedMany" "I", .fieldLink RX9 37 "EarlyValuesModel" "saved" "[I", .methodLink RX9 135 yX9_lays, .instanceMethod yX9_lays, .selects RX9 yX9_lays yX9_lays, .initialized RX9, .code yX9_lays cX9_lays 4 none, .fieldLink RX9 49 "EarlyValuesModel" "many" "I", .fieldLink RX9 7 "EarlyValuesModel" "argsOf" "[I", .fieldLink RX9 13 "EarlyValuesModel" "kindOf" "[I", .fieldLink RX9 16 "EarlyValuesModel" "longOf" "[I", .fieldLink RX9 19 "EarlyValuesModel" "body" "[I"] ++ wsX90)
def wsX9_back : List Cond := .code yX9_back cX9_back 1 (some .int) :: ([.fieldLink RX9 148 "EarlyValuesModel" "savedMany" "I", .fieldLink RX9 37 "EarlyValuesModel" "saved" "[I", .fieldLink RX9 132 "EarlyValuesModel" "undoMany" "I", .methodLink RX9 145 yX9_takes, .instanceMethod yX9_takes, .selects RX9 yX9_takes yX9_takes, .initialized RX9, .code yX9_takes cX9_takes 4 none, .fieldLink RX9 49 "EarlyValuesModel" "many" "I", .fieldLink RX9 7 "EarlyValuesModel" "argsOf" "[I", .fieldLink RX9 13 "EarlyValuesModel" "kindOf" "[I", .fieldLink RX9 16 "EarlyValuesModel" "longOf" "[I", .fieldLink RX9 19 "EarlyValuesModel" "body" "[I", .fieldLink RX9 121 "EarlyValuesModel" "isKnown" "Z"] ++ wsX90)
def wsX9_value_r1 : List Cond := [Cond.methodLink RX9 129 yX9_isFunction, Cond.instanceMethod yX9_isFunction, Cond.selects RX9 yX9_isFunction yX9_isFunction, Cond.initialized RX9, Cond.code yX9_isFunction cX9_isFunction 2 (some .boolean), Cond.fieldLink RX9 49 "EarlyValuesModel" "many" "I", Cond.methodLink RX9 61 yX9_in, Cond.static yX9_in, Cond.code yX9_in cX9_in 3 (some .boolean), Cond.methodLink RX9 110 yX9_isRow, Cond.instanceMethod yX9_isRow, Cond.selects RX9 yX9_isRow yX9_isRow, Cond.code yX9_isRow cX9_isRow 7 (some .boolean), Cond.fieldLink RX9 7 "EarlyValuesModel" "argsOf" "[I", Cond.methodLink RX9 151 yX9_setAll, Cond.instanceMethod yX9_setAll, Cond.selects RX9 yX9_setAll yX9_setAll, Cond.code yX9_setAll cX9_setAll 1 none, Cond.fieldLink RX9 121 "EarlyValuesModel" "isKnown" "Z", Cond.methodLink RX9 125 yX9_sets, Cond.instanceMethod yX9_sets, Cond.selects RX9 yX9_sets yX9_sets, Cond.code yX9_sets cX9_sets 3 none, Cond.fieldLink RX9 22 "EarlyValuesModel" "table" "[I"]
def wsX9_value_r2 : List Cond := [Cond.fieldLink RX9 28 "EarlyValuesModel" "roundsOf" "[I", Cond.methodLink RX9 69 yX9_neverOf, Cond.static yX9_neverOf, Cond.code yX9_neverOf cX9_neverOf 1 (some .int), Cond.methodLink RX9 117 yX9_changes, Cond.instanceMethod yX9_changes, Cond.selects RX9 yX9_changes yX9_changes, Cond.code yX9_changes cX9_changes 10 (some .boolean), Cond.fieldLink RX9 25 "EarlyValuesModel" "then" "[I", Cond.methodLink RX9 107 yX9_sizeOf, Cond.static yX9_sizeOf, Cond.code yX9_sizeOf cX9_sizeOf 1 (some .int), Cond.methodLink RX9 114 yX9_comesTo, Cond.instanceMethod yX9_comesTo, Cond.selects RX9 yX9_comesTo yX9_comesTo, Cond.code yX9_comesTo cX9_comesTo 10 (some .int), Cond.fieldLink RX9 13 "EarlyValuesModel" "kindOf" "[I", Cond.methodLink RX9 100 yX9_isNever, Cond.static yX9_isNever, Cond.code yX9_isNever cX9_isNever 2 (some .boolean), Cond.methodLink RX9 104 yX9_bodyBy, Cond.instanceMethod yX9_bodyBy, Cond.selects RX9 yX9_bodyBy yX9_bodyBy, Cond.code yX9_bodyBy cX9_bodyBy 11 (some .int)]
def wsX9_value_r3 : List Cond := [Cond.fieldLink RX9 16 "EarlyValuesModel" "longOf" "[I", Cond.fieldLink RX9 19 "EarlyValuesModel" "body" "[I", Cond.fieldLink RX9 31 "EarlyValuesModel" "parts" "[I", Cond.methodLink RX9 89 yX9_partsOf, Cond.instanceMethod yX9_partsOf, Cond.selects RX9 yX9_partsOf yX9_partsOf, Cond.code yX9_partsOf cX9_partsOf 3 (some .int), Cond.methodLink RX9 93 yX9_constantBy, Cond.static yX9_constantBy, Cond.code yX9_constantBy cX9_constantBy 2 (some .int), Cond.methodLink RX9 96 yX9_madeBy, Cond.instanceMethod yX9_madeBy, Cond.selects RX9 yX9_madeBy yX9_madeBy, Cond.code yX9_madeBy cX9_madeBy 6 (some .int), Cond.methodLink RX9 72 yX9_rowOf, Cond.static yX9_rowOf, Cond.code yX9_rowOf cX9_rowOf 3 (some .int), Cond.methodLink RX9 76 yX9_tableAt, Cond.instanceMethod yX9_tableAt, Cond.selects RX9 yX9_tableAt yX9_tableAt, Cond.code yX9_tableAt cX9_tableAt 4 (some .int), Cond.methodLink RX9 79 yX9_valueBy, Cond.static yX9_valueBy, Cond.code yX9_valueBy cX9_valueBy 4 (some .int)]
def wsX9_value_r4 : List Cond := [Cond.methodLink RX9 83 yX9_roughBy, Cond.static yX9_roughBy, Cond.code yX9_roughBy cX9_roughBy 4 (some .int), Cond.methodLink RX9 86 yX9_fineBy, Cond.static yX9_fineBy, Cond.code yX9_fineBy cX9_fineBy 5 (some .int)]
def wsX9_value : List Cond := .code yX9_value cX9_value 5 (some .int) :: ((wsX9_value_r1 ++ (wsX9_value_r2 ++ (wsX9_value_r3 ++ wsX9_value_r4))) ++ wsX90)
def wsX9_roughAt : List Cond := .code yX9_roughAt cX9_roughAt 3 (some .int) :: ([.methodLink RX9 72 yX9_rowOf, .static yX9_rowOf, .initialized RX9, .code yX9_rowOf cX9_rowOf 3 (some .int), .methodLink RX9 76 yX9_tableAt, .instanceMethod yX9_tableAt, .selects RX9 yX9_tableAt yX9_tableAt, .code yX9_tableAt cX9_tableAt 4 (some .int), .fieldLink RX9 22 "EarlyValuesModel" "table" "[I"] ++ wsX90)
def wsX9_rowsOf : List Cond := .code yX9_rowsOf cX9_rowsOf 2 (some .int) :: ([.fieldLink RX9 7 "EarlyValuesModel" "argsOf" "[I"] ++ wsX90)
def wsX9_rough_r1 : List Cond := [Cond.methodLink RX9 129 yX9_isFunction, Cond.instanceMethod yX9_isFunction, Cond.selects RX9 yX9_isFunction yX9_isFunction, Cond.initialized RX9, Cond.code yX9_isFunction cX9_isFunction 2 (some .boolean), Cond.fieldLink RX9 49 "EarlyValuesModel" "many" "I", Cond.methodLink RX9 61 yX9_in, Cond.static yX9_in, Cond.code yX9_in cX9_in 3 (some .boolean), Cond.methodLink RX9 154 yX9_rowsOf, Cond.instanceMethod yX9_rowsOf, Cond.selects RX9 yX9_rowsOf yX9_rowsOf, Cond.code yX9_rowsOf cX9_rowsOf 2 (some .int), Cond.fieldLink RX9 7 "EarlyValuesModel" "argsOf" "[I", Cond.methodLink RX9 151 yX9_setAll, Cond.instanceMethod yX9_setAll, Cond.selects RX9 yX9_setAll yX9_setAll, Cond.code yX9_setAll cX9_setAll 1 none, Cond.fieldLink RX9 121 "EarlyValuesModel" "isKnown" "Z", Cond.methodLink RX9 125 yX9_sets, Cond.instanceMethod yX9_sets, Cond.selects RX9 yX9_sets yX9_sets, Cond.code yX9_sets cX9_sets 3 none, Cond.fieldLink RX9 22 "EarlyValuesModel" "table" "[I"]
def wsX9_rough_r2 : List Cond := [Cond.fieldLink RX9 28 "EarlyValuesModel" "roundsOf" "[I", Cond.methodLink RX9 69 yX9_neverOf, Cond.static yX9_neverOf, Cond.code yX9_neverOf cX9_neverOf 1 (some .int), Cond.methodLink RX9 117 yX9_changes, Cond.instanceMethod yX9_changes, Cond.selects RX9 yX9_changes yX9_changes, Cond.code yX9_changes cX9_changes 10 (some .boolean), Cond.fieldLink RX9 25 "EarlyValuesModel" "then" "[I", Cond.methodLink RX9 107 yX9_sizeOf, Cond.static yX9_sizeOf, Cond.code yX9_sizeOf cX9_sizeOf 1 (some .int), Cond.methodLink RX9 110 yX9_isRow, Cond.instanceMethod yX9_isRow, Cond.selects RX9 yX9_isRow yX9_isRow, Cond.code yX9_isRow cX9_isRow 7 (some .boolean), Cond.methodLink RX9 114 yX9_comesTo, Cond.instanceMethod yX9_comesTo, Cond.selects RX9 yX9_comesTo yX9_comesTo, Cond.code yX9_comesTo cX9_comesTo 10 (some .int), Cond.fieldLink RX9 13 "EarlyValuesModel" "kindOf" "[I", Cond.methodLink RX9 100 yX9_isNever, Cond.static yX9_isNever, Cond.code yX9_isNever cX9_isNever 2 (some .boolean)]
def wsX9_rough_r3 : List Cond := [Cond.methodLink RX9 104 yX9_bodyBy, Cond.instanceMethod yX9_bodyBy, Cond.selects RX9 yX9_bodyBy yX9_bodyBy, Cond.code yX9_bodyBy cX9_bodyBy 11 (some .int), Cond.fieldLink RX9 16 "EarlyValuesModel" "longOf" "[I", Cond.fieldLink RX9 19 "EarlyValuesModel" "body" "[I", Cond.fieldLink RX9 31 "EarlyValuesModel" "parts" "[I", Cond.methodLink RX9 89 yX9_partsOf, Cond.instanceMethod yX9_partsOf, Cond.selects RX9 yX9_partsOf yX9_partsOf, Cond.code yX9_partsOf cX9_partsOf 3 (some .int), Cond.methodLink RX9 93 yX9_constantBy, Cond.static yX9_constantBy, Cond.code yX9_constantBy cX9_constantBy 2 (some .int), Cond.methodLink RX9 96 yX9_madeBy, Cond.instanceMethod yX9_madeBy, Cond.selects RX9 yX9_madeBy yX9_madeBy, Cond.code yX9_madeBy cX9_madeBy 6 (some .int), Cond.methodLink RX9 72 yX9_rowOf, Cond.static yX9_rowOf, Cond.code yX9_rowOf cX9_rowOf 3 (some .int), Cond.methodLink RX9 76 yX9_tableAt, Cond.instanceMethod yX9_tableAt, Cond.selects RX9 yX9_tableAt yX9_tableAt]
def wsX9_rough_r4 : List Cond := [Cond.code yX9_tableAt cX9_tableAt 4 (some .int), Cond.methodLink RX9 79 yX9_valueBy, Cond.static yX9_valueBy, Cond.code yX9_valueBy cX9_valueBy 4 (some .int), Cond.methodLink RX9 83 yX9_roughBy, Cond.static yX9_roughBy, Cond.code yX9_roughBy cX9_roughBy 4 (some .int), Cond.methodLink RX9 86 yX9_fineBy, Cond.static yX9_fineBy, Cond.code yX9_fineBy cX9_fineBy 5 (some .int), Cond.methodLink RX9 157 yX9_roughAt, Cond.instanceMethod yX9_roughAt, Cond.selects RX9 yX9_roughAt yX9_roughAt, Cond.code yX9_roughAt cX9_roughAt 3 (some .int)]
def wsX9_rough : List Cond := .code yX9_rough cX9_rough 3 (some .int) :: ((wsX9_rough_r1 ++ (wsX9_rough_r2 ++ (wsX9_rough_r3 ++ wsX9_rough_r4))) ++ wsX90)
def wsX9_fine_r1 : List Cond := [Cond.methodLink RX9 129 yX9_isFunction, Cond.instanceMethod yX9_isFunction, Cond.selects RX9 yX9_isFunction yX9_isFunction, Cond.initialized RX9, Cond.code yX9_isFunction cX9_isFunction 2 (some .boolean), Cond.fieldLink RX9 49 "EarlyValuesModel" "many" "I", Cond.methodLink RX9 61 yX9_in, Cond.static yX9_in, Cond.code yX9_in cX9_in 3 (some .boolean), Cond.methodLink RX9 110 yX9_isRow, Cond.instanceMethod yX9_isRow, Cond.selects RX9 yX9_isRow yX9_isRow, Cond.code yX9_isRow cX9_isRow 7 (some .boolean), Cond.fieldLink RX9 7 "EarlyValuesModel" "argsOf" "[I", Cond.methodLink RX9 151 yX9_setAll, Cond.instanceMethod yX9_setAll, Cond.selects RX9 yX9_setAll yX9_setAll, Cond.code yX9_setAll cX9_setAll 1 none, Cond.fieldLink RX9 121 "EarlyValuesModel" "isKnown" "Z", Cond.methodLink RX9 125 yX9_sets, Cond.instanceMethod yX9_sets, Cond.selects RX9 yX9_sets yX9_sets, Cond.code yX9_sets cX9_sets 3 none, Cond.fieldLink RX9 22 "EarlyValuesModel" "table" "[I"]
def wsX9_fine_r2 : List Cond := [Cond.fieldLink RX9 28 "EarlyValuesModel" "roundsOf" "[I", Cond.methodLink RX9 69 yX9_neverOf, Cond.static yX9_neverOf, Cond.code yX9_neverOf cX9_neverOf 1 (some .int), Cond.methodLink RX9 117 yX9_changes, Cond.instanceMethod yX9_changes, Cond.selects RX9 yX9_changes yX9_changes, Cond.code yX9_changes cX9_changes 10 (some .boolean), Cond.fieldLink RX9 25 "EarlyValuesModel" "then" "[I", Cond.methodLink RX9 107 yX9_sizeOf, Cond.static yX9_sizeOf, Cond.code yX9_sizeOf cX9_sizeOf 1 (some .int), Cond.methodLink RX9 114 yX9_comesTo, Cond.instanceMethod yX9_comesTo, Cond.selects RX9 yX9_comesTo yX9_comesTo, Cond.code yX9_comesTo cX9_comesTo 10 (some .int), Cond.fieldLink RX9 13 "EarlyValuesModel" "kindOf" "[I", Cond.methodLink RX9 100 yX9_isNever, Cond.static yX9_isNever, Cond.code yX9_isNever cX9_isNever 2 (some .boolean), Cond.methodLink RX9 104 yX9_bodyBy, Cond.instanceMethod yX9_bodyBy, Cond.selects RX9 yX9_bodyBy yX9_bodyBy, Cond.code yX9_bodyBy cX9_bodyBy 11 (some .int)]
def wsX9_fine_r3 : List Cond := [Cond.fieldLink RX9 16 "EarlyValuesModel" "longOf" "[I", Cond.fieldLink RX9 19 "EarlyValuesModel" "body" "[I", Cond.fieldLink RX9 31 "EarlyValuesModel" "parts" "[I", Cond.methodLink RX9 89 yX9_partsOf, Cond.instanceMethod yX9_partsOf, Cond.selects RX9 yX9_partsOf yX9_partsOf, Cond.code yX9_partsOf cX9_partsOf 3 (some .int), Cond.methodLink RX9 93 yX9_constantBy, Cond.static yX9_constantBy, Cond.code yX9_constantBy cX9_constantBy 2 (some .int), Cond.methodLink RX9 96 yX9_madeBy, Cond.instanceMethod yX9_madeBy, Cond.selects RX9 yX9_madeBy yX9_madeBy, Cond.code yX9_madeBy cX9_madeBy 6 (some .int), Cond.methodLink RX9 72 yX9_rowOf, Cond.static yX9_rowOf, Cond.code yX9_rowOf cX9_rowOf 3 (some .int), Cond.methodLink RX9 76 yX9_tableAt, Cond.instanceMethod yX9_tableAt, Cond.selects RX9 yX9_tableAt yX9_tableAt, Cond.code yX9_tableAt cX9_tableAt 4 (some .int), Cond.methodLink RX9 79 yX9_valueBy, Cond.static yX9_valueBy, Cond.code yX9_valueBy cX9_valueBy 4 (some .int)]
def wsX9_fine_r4 : List Cond := [Cond.methodLink RX9 83 yX9_roughBy, Cond.static yX9_roughBy, Cond.code yX9_roughBy cX9_roughBy 4 (some .int), Cond.methodLink RX9 86 yX9_fineBy, Cond.static yX9_fineBy, Cond.code yX9_fineBy cX9_fineBy 5 (some .int)]
def wsX9_fine : List Cond := .code yX9_fine cX9_fine 5 (some .int) :: ((wsX9_fine_r1 ++ (wsX9_fine_r2 ++ (wsX9_fine_r3 ++ wsX9_fine_r4))) ++ wsX90)
def wsX9_rounds_r1 : List Cond := [Cond.fieldLink RX9 28 "EarlyValuesModel" "roundsOf" "[I", Cond.methodLink RX9 61 yX9_in, Cond.static yX9_in, Cond.initialized RX9, Cond.code yX9_in cX9_in 3 (some .boolean), Cond.methodLink RX9 151 yX9_setAll, Cond.instanceMethod yX9_setAll, Cond.selects RX9 yX9_setAll yX9_setAll, Cond.code yX9_setAll cX9_setAll 1 none, Cond.fieldLink RX9 121 "EarlyValuesModel" "isKnown" "Z", Cond.methodLink RX9 125 yX9_sets, Cond.instanceMethod yX9_sets, Cond.selects RX9 yX9_sets yX9_sets, Cond.code yX9_sets cX9_sets 3 none, Cond.fieldLink RX9 22 "EarlyValuesModel" "table" "[I", Cond.methodLink RX9 69 yX9_neverOf, Cond.static yX9_neverOf, Cond.code yX9_neverOf cX9_neverOf 1 (some .int), Cond.methodLink RX9 117 yX9_changes, Cond.instanceMethod yX9_changes, Cond.selects RX9 yX9_changes yX9_changes, Cond.code yX9_changes cX9_changes 10 (some .boolean), Cond.fieldLink RX9 49 "EarlyValuesModel" "many" "I", Cond.fieldLink RX9 25 "EarlyValuesModel" "then" "[I"]
def wsX9_rounds_r2 : List Cond := [Cond.methodLink RX9 107 yX9_sizeOf, Cond.static yX9_sizeOf, Cond.code yX9_sizeOf cX9_sizeOf 1 (some .int), Cond.methodLink RX9 110 yX9_isRow, Cond.instanceMethod yX9_isRow, Cond.selects RX9 yX9_isRow yX9_isRow, Cond.code yX9_isRow cX9_isRow 7 (some .boolean), Cond.fieldLink RX9 7 "EarlyValuesModel" "argsOf" "[I", Cond.methodLink RX9 114 yX9_comesTo, Cond.instanceMethod yX9_comesTo, Cond.selects RX9 yX9_comesTo yX9_comesTo, Cond.code yX9_comesTo cX9_comesTo 10 (some .int), Cond.fieldLink RX9 13 "EarlyValuesModel" "kindOf" "[I", Cond.methodLink RX9 100 yX9_isNever, Cond.static yX9_isNever, Cond.code yX9_isNever cX9_isNever 2 (some .boolean), Cond.methodLink RX9 104 yX9_bodyBy, Cond.instanceMethod yX9_bodyBy, Cond.selects RX9 yX9_bodyBy yX9_bodyBy, Cond.code yX9_bodyBy cX9_bodyBy 11 (some .int), Cond.fieldLink RX9 16 "EarlyValuesModel" "longOf" "[I", Cond.fieldLink RX9 19 "EarlyValuesModel" "body" "[I", Cond.fieldLink RX9 31 "EarlyValuesModel" "parts" "[I", Cond.methodLink RX9 89 yX9_partsOf]
def wsX9_rounds_r3 : List Cond := [Cond.instanceMethod yX9_partsOf, Cond.selects RX9 yX9_partsOf yX9_partsOf, Cond.code yX9_partsOf cX9_partsOf 3 (some .int), Cond.methodLink RX9 93 yX9_constantBy, Cond.static yX9_constantBy, Cond.code yX9_constantBy cX9_constantBy 2 (some .int), Cond.methodLink RX9 96 yX9_madeBy, Cond.instanceMethod yX9_madeBy, Cond.selects RX9 yX9_madeBy yX9_madeBy, Cond.code yX9_madeBy cX9_madeBy 6 (some .int), Cond.methodLink RX9 72 yX9_rowOf, Cond.static yX9_rowOf, Cond.code yX9_rowOf cX9_rowOf 3 (some .int), Cond.methodLink RX9 76 yX9_tableAt, Cond.instanceMethod yX9_tableAt, Cond.selects RX9 yX9_tableAt yX9_tableAt, Cond.code yX9_tableAt cX9_tableAt 4 (some .int), Cond.methodLink RX9 79 yX9_valueBy, Cond.static yX9_valueBy, Cond.code yX9_valueBy cX9_valueBy 4 (some .int), Cond.methodLink RX9 83 yX9_roughBy, Cond.static yX9_roughBy, Cond.code yX9_roughBy cX9_roughBy 4 (some .int), Cond.methodLink RX9 86 yX9_fineBy]
def wsX9_rounds_r4 : List Cond := [Cond.static yX9_fineBy, Cond.code yX9_fineBy cX9_fineBy 5 (some .int)]
def wsX9_rounds : List Cond := .code yX9_rounds cX9_rounds 2 (some .int) :: ((wsX9_rounds_r1 ++ (wsX9_rounds_r2 ++ (wsX9_rounds_r3 ++ wsX9_rounds_r4))) ++ wsX90)
def wsX9_isFrontier : List Cond := .code yX9_isFrontier cX9_isFrontier 5 (some .boolean) :: ([.methodLink RX9 157 yX9_roughAt, .instanceMethod yX9_roughAt, .selects RX9 yX9_roughAt yX9_roughAt, .initialized RX9, .code yX9_roughAt cX9_roughAt 3 (some .int), .methodLink RX9 72 yX9_rowOf, .static yX9_rowOf, .code yX9_rowOf cX9_rowOf 3 (some .int), .methodLink RX9 76 yX9_tableAt, .instanceMethod yX9_tableAt, .selects RX9 yX9_tableAt yX9_tableAt, .code yX9_tableAt cX9_tableAt 4 (some .int), .fieldLink RX9 22 "EarlyValuesModel" "table" "[I"] ++ wsX90)
def wsX9_frontier_r1 : List Cond := [Cond.methodLink RX9 129 yX9_isFunction, Cond.instanceMethod yX9_isFunction, Cond.selects RX9 yX9_isFunction yX9_isFunction, Cond.initialized RX9, Cond.code yX9_isFunction cX9_isFunction 2 (some .boolean), Cond.fieldLink RX9 49 "EarlyValuesModel" "many" "I", Cond.methodLink RX9 61 yX9_in, Cond.static yX9_in, Cond.code yX9_in cX9_in 3 (some .boolean), Cond.methodLink RX9 151 yX9_setAll, Cond.instanceMethod yX9_setAll, Cond.selects RX9 yX9_setAll yX9_setAll, Cond.code yX9_setAll cX9_setAll 1 none, Cond.fieldLink RX9 121 "EarlyValuesModel" "isKnown" "Z", Cond.methodLink RX9 125 yX9_sets, Cond.instanceMethod yX9_sets, Cond.selects RX9 yX9_sets yX9_sets, Cond.code yX9_sets cX9_sets 3 none, Cond.fieldLink RX9 22 "EarlyValuesModel" "table" "[I", Cond.fieldLink RX9 28 "EarlyValuesModel" "roundsOf" "[I", Cond.methodLink RX9 69 yX9_neverOf, Cond.static yX9_neverOf, Cond.code yX9_neverOf cX9_neverOf 1 (some .int), Cond.methodLink RX9 117 yX9_changes]
def wsX9_frontier_r2 : List Cond := [Cond.instanceMethod yX9_changes, Cond.selects RX9 yX9_changes yX9_changes, Cond.code yX9_changes cX9_changes 10 (some .boolean), Cond.fieldLink RX9 25 "EarlyValuesModel" "then" "[I", Cond.methodLink RX9 107 yX9_sizeOf, Cond.static yX9_sizeOf, Cond.code yX9_sizeOf cX9_sizeOf 1 (some .int), Cond.methodLink RX9 110 yX9_isRow, Cond.instanceMethod yX9_isRow, Cond.selects RX9 yX9_isRow yX9_isRow, Cond.code yX9_isRow cX9_isRow 7 (some .boolean), Cond.fieldLink RX9 7 "EarlyValuesModel" "argsOf" "[I", Cond.methodLink RX9 114 yX9_comesTo, Cond.instanceMethod yX9_comesTo, Cond.selects RX9 yX9_comesTo yX9_comesTo, Cond.code yX9_comesTo cX9_comesTo 10 (some .int), Cond.fieldLink RX9 13 "EarlyValuesModel" "kindOf" "[I", Cond.methodLink RX9 100 yX9_isNever, Cond.static yX9_isNever, Cond.code yX9_isNever cX9_isNever 2 (some .boolean), Cond.methodLink RX9 104 yX9_bodyBy, Cond.instanceMethod yX9_bodyBy, Cond.selects RX9 yX9_bodyBy yX9_bodyBy, Cond.code yX9_bodyBy cX9_bodyBy 11 (some .int)]
def wsX9_frontier_r3 : List Cond := [Cond.fieldLink RX9 16 "EarlyValuesModel" "longOf" "[I", Cond.fieldLink RX9 19 "EarlyValuesModel" "body" "[I", Cond.fieldLink RX9 31 "EarlyValuesModel" "parts" "[I", Cond.methodLink RX9 89 yX9_partsOf, Cond.instanceMethod yX9_partsOf, Cond.selects RX9 yX9_partsOf yX9_partsOf, Cond.code yX9_partsOf cX9_partsOf 3 (some .int), Cond.methodLink RX9 93 yX9_constantBy, Cond.static yX9_constantBy, Cond.code yX9_constantBy cX9_constantBy 2 (some .int), Cond.methodLink RX9 96 yX9_madeBy, Cond.instanceMethod yX9_madeBy, Cond.selects RX9 yX9_madeBy yX9_madeBy, Cond.code yX9_madeBy cX9_madeBy 6 (some .int), Cond.methodLink RX9 72 yX9_rowOf, Cond.static yX9_rowOf, Cond.code yX9_rowOf cX9_rowOf 3 (some .int), Cond.methodLink RX9 76 yX9_tableAt, Cond.instanceMethod yX9_tableAt, Cond.selects RX9 yX9_tableAt yX9_tableAt, Cond.code yX9_tableAt cX9_tableAt 4 (some .int), Cond.methodLink RX9 79 yX9_valueBy, Cond.static yX9_valueBy, Cond.code yX9_valueBy cX9_valueBy 4 (some .int)]
def wsX9_frontier_r4 : List Cond := [Cond.methodLink RX9 83 yX9_roughBy, Cond.static yX9_roughBy, Cond.code yX9_roughBy cX9_roughBy 4 (some .int), Cond.methodLink RX9 86 yX9_fineBy, Cond.static yX9_fineBy, Cond.code yX9_fineBy cX9_fineBy 5 (some .int), Cond.methodLink RX9 154 yX9_rowsOf, Cond.instanceMethod yX9_rowsOf, Cond.selects RX9 yX9_rowsOf yX9_rowsOf, Cond.code yX9_rowsOf cX9_rowsOf 2 (some .int), Cond.methodLink RX9 160 yX9_isFrontier, Cond.instanceMethod yX9_isFrontier, Cond.selects RX9 yX9_isFrontier yX9_isFrontier, Cond.code yX9_isFrontier cX9_isFrontier 5 (some .boolean), Cond.methodLink RX9 157 yX9_roughAt, Cond.instanceMethod yX9_roughAt, Cond.selects RX9 yX9_roughAt yX9_roughAt, Cond.code yX9_roughAt cX9_roughAt 3 (some .int)]
def wsX9_frontier : List Cond := .code yX9_frontier cX9_frontier 6 (some .int) :: ((wsX9_frontier_r1 ++ (wsX9_frontier_r2 ++ (wsX9_frontier_r3 ++ wsX9_frontier_r4))) ++ wsX90)
def wsX9_fineStrict : List Cond := .code yX9_fineStrict cX9_fineStrict 6 (some .int) :: ([.fieldLink RX9 7 "EarlyValuesModel" "argsOf" "[I", .methodLink RX9 72 yX9_rowOf, .static yX9_rowOf, .initialized RX9, .code yX9_rowOf cX9_rowOf 3 (some .int), .methodLink RX9 76 yX9_tableAt, .instanceMethod yX9_tableAt, .selects RX9 yX9_tableAt yX9_tableAt, .code yX9_tableAt cX9_tableAt 4 (some .int), .fieldLink RX9 22 "EarlyValuesModel" "table" "[I"] ++ wsX90)
def wsX9_roughStrict : List Cond := .code yX9_roughStrict cX9_roughStrict 3 (some .int) :: ([.methodLink RX9 154 yX9_rowsOf, .instanceMethod yX9_rowsOf, .selects RX9 yX9_rowsOf yX9_rowsOf, .initialized RX9, .code yX9_rowsOf cX9_rowsOf 2 (some .int), .fieldLink RX9 7 "EarlyValuesModel" "argsOf" "[I", .methodLink RX9 157 yX9_roughAt, .instanceMethod yX9_roughAt, .selects RX9 yX9_roughAt yX9_roughAt, .code yX9_roughAt cX9_roughAt 3 (some .int), .methodLink RX9 72 yX9_rowOf, .static yX9_rowOf, .code yX9_rowOf cX9_rowOf 3 (some .int), .methodLink RX9 76 yX9_tableAt, .instanceMethod yX9_tableAt, .selects RX9 yX9_tableAt yX9_tableAt, .code yX9_tableAt cX9_tableAt 4 (some .int), .fieldLink RX9 22 "EarlyValuesModel" "table" "[I"] ++ wsX90)
def wsX9_argument : List Cond := .code yX9_argument cX9_argument 2 (some .int) :: ([])
def wsX9_trulyStrict : List Cond := .code yX9_trulyStrict cX9_trulyStrict 6 (some .int) :: ([.methodLink RX9 110 yX9_isRow, .instanceMethod yX9_isRow, .selects RX9 yX9_isRow yX9_isRow, .initialized RX9, .code yX9_isRow cX9_isRow 7 (some .boolean), .fieldLink RX9 7 "EarlyValuesModel" "argsOf" "[I", .methodLink RX9 61 yX9_in, .static yX9_in, .code yX9_in cX9_in 3 (some .boolean), .methodLink RX9 163 yX9_argument, .static yX9_argument, .code yX9_argument cX9_argument 2 (some .int), .methodLink RX9 76 yX9_tableAt, .instanceMethod yX9_tableAt, .selects RX9 yX9_tableAt yX9_tableAt, .code yX9_tableAt cX9_tableAt 4 (some .int), .fieldLink RX9 22 "EarlyValuesModel" "table" "[I"] ++ wsX90)
def wsX9_strictSet_r1 : List Cond := [Cond.fieldLink RX9 7 "EarlyValuesModel" "argsOf" "[I", Cond.methodLink RX9 166 yX9_roughStrict, Cond.instanceMethod yX9_roughStrict, Cond.selects RX9 yX9_roughStrict yX9_roughStrict, Cond.initialized RX9, Cond.code yX9_roughStrict cX9_roughStrict 3 (some .int), Cond.methodLink RX9 154 yX9_rowsOf, Cond.instanceMethod yX9_rowsOf, Cond.selects RX9 yX9_rowsOf yX9_rowsOf, Cond.code yX9_rowsOf cX9_rowsOf 2 (some .int), Cond.methodLink RX9 157 yX9_roughAt, Cond.instanceMethod yX9_roughAt, Cond.selects RX9 yX9_roughAt yX9_roughAt, Cond.code yX9_roughAt cX9_roughAt 3 (some .int), Cond.methodLink RX9 72 yX9_rowOf, Cond.static yX9_rowOf, Cond.code yX9_rowOf cX9_rowOf 3 (some .int), Cond.methodLink RX9 76 yX9_tableAt, Cond.instanceMethod yX9_tableAt, Cond.selects RX9 yX9_tableAt yX9_tableAt, Cond.code yX9_tableAt cX9_tableAt 4 (some .int), Cond.fieldLink RX9 22 "EarlyValuesModel" "table" "[I", Cond.methodLink RX9 169 yX9_fineStrict, Cond.instanceMethod yX9_fineStrict]
def wsX9_strictSet_r2 : List Cond := [Cond.selects RX9 yX9_fineStrict yX9_fineStrict, Cond.code yX9_fineStrict cX9_fineStrict 6 (some .int), Cond.methodLink RX9 172 yX9_trulyStrict, Cond.instanceMethod yX9_trulyStrict, Cond.selects RX9 yX9_trulyStrict yX9_trulyStrict, Cond.code yX9_trulyStrict cX9_trulyStrict 6 (some .int), Cond.methodLink RX9 110 yX9_isRow, Cond.instanceMethod yX9_isRow, Cond.selects RX9 yX9_isRow yX9_isRow, Cond.code yX9_isRow cX9_isRow 7 (some .boolean), Cond.methodLink RX9 61 yX9_in, Cond.static yX9_in, Cond.code yX9_in cX9_in 3 (some .boolean), Cond.methodLink RX9 163 yX9_argument, Cond.static yX9_argument, Cond.code yX9_argument cX9_argument 2 (some .int)]
def wsX9_strictSet : List Cond := .code yX9_strictSet cX9_strictSet 6 (some .int) :: ((wsX9_strictSet_r1 ++ wsX9_strictSet_r2) ++ wsX90)
def wsX9_strict_r1 : List Cond := [Cond.methodLink RX9 129 yX9_isFunction, Cond.instanceMethod yX9_isFunction, Cond.selects RX9 yX9_isFunction yX9_isFunction, Cond.initialized RX9, Cond.code yX9_isFunction cX9_isFunction 2 (some .boolean), Cond.fieldLink RX9 49 "EarlyValuesModel" "many" "I", Cond.methodLink RX9 61 yX9_in, Cond.static yX9_in, Cond.code yX9_in cX9_in 3 (some .boolean), Cond.methodLink RX9 151 yX9_setAll, Cond.instanceMethod yX9_setAll, Cond.selects RX9 yX9_setAll yX9_setAll, Cond.code yX9_setAll cX9_setAll 1 none, Cond.fieldLink RX9 121 "EarlyValuesModel" "isKnown" "Z", Cond.methodLink RX9 125 yX9_sets, Cond.instanceMethod yX9_sets, Cond.selects RX9 yX9_sets yX9_sets, Cond.code yX9_sets cX9_sets 3 none, Cond.fieldLink RX9 22 "EarlyValuesModel" "table" "[I", Cond.fieldLink RX9 28 "EarlyValuesModel" "roundsOf" "[I", Cond.methodLink RX9 69 yX9_neverOf, Cond.static yX9_neverOf, Cond.code yX9_neverOf cX9_neverOf 1 (some .int), Cond.methodLink RX9 117 yX9_changes]
def wsX9_strict_r2 : List Cond := [Cond.instanceMethod yX9_changes, Cond.selects RX9 yX9_changes yX9_changes, Cond.code yX9_changes cX9_changes 10 (some .boolean), Cond.fieldLink RX9 25 "EarlyValuesModel" "then" "[I", Cond.methodLink RX9 107 yX9_sizeOf, Cond.static yX9_sizeOf, Cond.code yX9_sizeOf cX9_sizeOf 1 (some .int), Cond.methodLink RX9 110 yX9_isRow, Cond.instanceMethod yX9_isRow, Cond.selects RX9 yX9_isRow yX9_isRow, Cond.code yX9_isRow cX9_isRow 7 (some .boolean), Cond.fieldLink RX9 7 "EarlyValuesModel" "argsOf" "[I", Cond.methodLink RX9 114 yX9_comesTo, Cond.instanceMethod yX9_comesTo, Cond.selects RX9 yX9_comesTo yX9_comesTo, Cond.code yX9_comesTo cX9_comesTo 10 (some .int), Cond.fieldLink RX9 13 "EarlyValuesModel" "kindOf" "[I", Cond.methodLink RX9 100 yX9_isNever, Cond.static yX9_isNever, Cond.code yX9_isNever cX9_isNever 2 (some .boolean), Cond.methodLink RX9 104 yX9_bodyBy, Cond.instanceMethod yX9_bodyBy, Cond.selects RX9 yX9_bodyBy yX9_bodyBy, Cond.code yX9_bodyBy cX9_bodyBy 11 (some .int)]
def wsX9_strict_r3 : List Cond := [Cond.fieldLink RX9 16 "EarlyValuesModel" "longOf" "[I", Cond.fieldLink RX9 19 "EarlyValuesModel" "body" "[I", Cond.fieldLink RX9 31 "EarlyValuesModel" "parts" "[I", Cond.methodLink RX9 89 yX9_partsOf, Cond.instanceMethod yX9_partsOf, Cond.selects RX9 yX9_partsOf yX9_partsOf, Cond.code yX9_partsOf cX9_partsOf 3 (some .int), Cond.methodLink RX9 93 yX9_constantBy, Cond.static yX9_constantBy, Cond.code yX9_constantBy cX9_constantBy 2 (some .int), Cond.methodLink RX9 96 yX9_madeBy, Cond.instanceMethod yX9_madeBy, Cond.selects RX9 yX9_madeBy yX9_madeBy, Cond.code yX9_madeBy cX9_madeBy 6 (some .int), Cond.methodLink RX9 72 yX9_rowOf, Cond.static yX9_rowOf, Cond.code yX9_rowOf cX9_rowOf 3 (some .int), Cond.methodLink RX9 76 yX9_tableAt, Cond.instanceMethod yX9_tableAt, Cond.selects RX9 yX9_tableAt yX9_tableAt, Cond.code yX9_tableAt cX9_tableAt 4 (some .int), Cond.methodLink RX9 79 yX9_valueBy, Cond.static yX9_valueBy, Cond.code yX9_valueBy cX9_valueBy 4 (some .int)]
def wsX9_strict_r4 : List Cond := [Cond.methodLink RX9 83 yX9_roughBy, Cond.static yX9_roughBy, Cond.code yX9_roughBy cX9_roughBy 4 (some .int), Cond.methodLink RX9 86 yX9_fineBy, Cond.static yX9_fineBy, Cond.code yX9_fineBy cX9_fineBy 5 (some .int), Cond.methodLink RX9 175 yX9_strictSet, Cond.instanceMethod yX9_strictSet, Cond.selects RX9 yX9_strictSet yX9_strictSet, Cond.code yX9_strictSet cX9_strictSet 6 (some .int), Cond.methodLink RX9 166 yX9_roughStrict, Cond.instanceMethod yX9_roughStrict, Cond.selects RX9 yX9_roughStrict yX9_roughStrict, Cond.code yX9_roughStrict cX9_roughStrict 3 (some .int), Cond.methodLink RX9 154 yX9_rowsOf, Cond.instanceMethod yX9_rowsOf, Cond.selects RX9 yX9_rowsOf yX9_rowsOf, Cond.code yX9_rowsOf cX9_rowsOf 2 (some .int), Cond.methodLink RX9 157 yX9_roughAt, Cond.instanceMethod yX9_roughAt, Cond.selects RX9 yX9_roughAt yX9_roughAt, Cond.code yX9_roughAt cX9_roughAt 3 (some .int), Cond.methodLink RX9 169 yX9_fineStrict, Cond.instanceMethod yX9_fineStrict]
def wsX9_strict_r5 : List Cond := [Cond.selects RX9 yX9_fineStrict yX9_fineStrict, Cond.code yX9_fineStrict cX9_fineStrict 6 (some .int), Cond.methodLink RX9 172 yX9_trulyStrict, Cond.instanceMethod yX9_trulyStrict, Cond.selects RX9 yX9_trulyStrict yX9_trulyStrict, Cond.code yX9_trulyStrict cX9_trulyStrict 6 (some .int), Cond.methodLink RX9 163 yX9_argument, Cond.static yX9_argument, Cond.code yX9_argument cX9_argument 2 (some .int)]
def wsX9_strict : List Cond := .code yX9_strict cX9_strict 3 (some .int) :: ((wsX9_strict_r1 ++ (wsX9_strict_r2 ++ (wsX9_strict_r3 ++ (wsX9_strict_r4 ++ wsX9_strict_r5)))) ++ wsX90)
def wsX9_bits : List Cond := .code yX9_bits cX9_bits 1 (some .int) :: ([])
def wsX9_early_r1 : List Cond := [Cond.fieldLink RX9 16 "EarlyValuesModel" "longOf" "[I", Cond.fieldLink RX9 19 "EarlyValuesModel" "body" "[I", Cond.fieldLink RX9 7 "EarlyValuesModel" "argsOf" "[I", Cond.methodLink RX9 129 yX9_isFunction, Cond.instanceMethod yX9_isFunction, Cond.selects RX9 yX9_isFunction yX9_isFunction, Cond.initialized RX9, Cond.code yX9_isFunction cX9_isFunction 2 (some .boolean), Cond.fieldLink RX9 49 "EarlyValuesModel" "many" "I", Cond.methodLink RX9 61 yX9_in, Cond.static yX9_in, Cond.code yX9_in cX9_in 3 (some .boolean), Cond.methodLink RX9 151 yX9_setAll, Cond.instanceMethod yX9_setAll, Cond.selects RX9 yX9_setAll yX9_setAll, Cond.code yX9_setAll cX9_setAll 1 none, Cond.fieldLink RX9 121 "EarlyValuesModel" "isKnown" "Z", Cond.methodLink RX9 125 yX9_sets, Cond.instanceMethod yX9_sets, Cond.selects RX9 yX9_sets yX9_sets, Cond.code yX9_sets cX9_sets 3 none, Cond.fieldLink RX9 22 "EarlyValuesModel" "table" "[I", Cond.fieldLink RX9 28 "EarlyValuesModel" "roundsOf" "[I", Cond.methodLink RX9 69 yX9_neverOf]
def wsX9_early_r2 : List Cond := [Cond.static yX9_neverOf, Cond.code yX9_neverOf cX9_neverOf 1 (some .int), Cond.methodLink RX9 117 yX9_changes, Cond.instanceMethod yX9_changes, Cond.selects RX9 yX9_changes yX9_changes, Cond.code yX9_changes cX9_changes 10 (some .boolean), Cond.fieldLink RX9 25 "EarlyValuesModel" "then" "[I", Cond.methodLink RX9 107 yX9_sizeOf, Cond.static yX9_sizeOf, Cond.code yX9_sizeOf cX9_sizeOf 1 (some .int), Cond.methodLink RX9 110 yX9_isRow, Cond.instanceMethod yX9_isRow, Cond.selects RX9 yX9_isRow yX9_isRow, Cond.code yX9_isRow cX9_isRow 7 (some .boolean), Cond.methodLink RX9 114 yX9_comesTo, Cond.instanceMethod yX9_comesTo, Cond.selects RX9 yX9_comesTo yX9_comesTo, Cond.code yX9_comesTo cX9_comesTo 10 (some .int), Cond.fieldLink RX9 13 "EarlyValuesModel" "kindOf" "[I", Cond.methodLink RX9 100 yX9_isNever, Cond.static yX9_isNever, Cond.code yX9_isNever cX9_isNever 2 (some .boolean), Cond.methodLink RX9 104 yX9_bodyBy, Cond.instanceMethod yX9_bodyBy]
def wsX9_early_r3 : List Cond := [Cond.selects RX9 yX9_bodyBy yX9_bodyBy, Cond.code yX9_bodyBy cX9_bodyBy 11 (some .int), Cond.fieldLink RX9 31 "EarlyValuesModel" "parts" "[I", Cond.methodLink RX9 89 yX9_partsOf, Cond.instanceMethod yX9_partsOf, Cond.selects RX9 yX9_partsOf yX9_partsOf, Cond.code yX9_partsOf cX9_partsOf 3 (some .int), Cond.methodLink RX9 93 yX9_constantBy, Cond.static yX9_constantBy, Cond.code yX9_constantBy cX9_constantBy 2 (some .int), Cond.methodLink RX9 96 yX9_madeBy, Cond.instanceMethod yX9_madeBy, Cond.selects RX9 yX9_madeBy yX9_madeBy, Cond.code yX9_madeBy cX9_madeBy 6 (some .int), Cond.methodLink RX9 72 yX9_rowOf, Cond.static yX9_rowOf, Cond.code yX9_rowOf cX9_rowOf 3 (some .int), Cond.methodLink RX9 76 yX9_tableAt, Cond.instanceMethod yX9_tableAt, Cond.selects RX9 yX9_tableAt yX9_tableAt, Cond.code yX9_tableAt cX9_tableAt 4 (some .int), Cond.methodLink RX9 79 yX9_valueBy, Cond.static yX9_valueBy, Cond.code yX9_valueBy cX9_valueBy 4 (some .int)]
def wsX9_early_r4 : List Cond := [Cond.methodLink RX9 83 yX9_roughBy, Cond.static yX9_roughBy, Cond.code yX9_roughBy cX9_roughBy 4 (some .int), Cond.methodLink RX9 86 yX9_fineBy, Cond.static yX9_fineBy, Cond.code yX9_fineBy cX9_fineBy 5 (some .int), Cond.methodLink RX9 175 yX9_strictSet, Cond.instanceMethod yX9_strictSet, Cond.selects RX9 yX9_strictSet yX9_strictSet, Cond.code yX9_strictSet cX9_strictSet 6 (some .int), Cond.methodLink RX9 166 yX9_roughStrict, Cond.instanceMethod yX9_roughStrict, Cond.selects RX9 yX9_roughStrict yX9_roughStrict, Cond.code yX9_roughStrict cX9_roughStrict 3 (some .int), Cond.methodLink RX9 154 yX9_rowsOf, Cond.instanceMethod yX9_rowsOf, Cond.selects RX9 yX9_rowsOf yX9_rowsOf, Cond.code yX9_rowsOf cX9_rowsOf 2 (some .int), Cond.methodLink RX9 157 yX9_roughAt, Cond.instanceMethod yX9_roughAt, Cond.selects RX9 yX9_roughAt yX9_roughAt, Cond.code yX9_roughAt cX9_roughAt 3 (some .int), Cond.methodLink RX9 169 yX9_fineStrict, Cond.instanceMethod yX9_fineStrict]
def wsX9_early_r5 : List Cond := [Cond.selects RX9 yX9_fineStrict yX9_fineStrict, Cond.code yX9_fineStrict cX9_fineStrict 6 (some .int), Cond.methodLink RX9 172 yX9_trulyStrict, Cond.instanceMethod yX9_trulyStrict, Cond.selects RX9 yX9_trulyStrict yX9_trulyStrict, Cond.code yX9_trulyStrict cX9_trulyStrict 6 (some .int), Cond.methodLink RX9 163 yX9_argument, Cond.static yX9_argument, Cond.code yX9_argument cX9_argument 2 (some .int), Cond.methodLink RX9 178 yX9_bits, Cond.static yX9_bits, Cond.code yX9_bits cX9_bits 1 (some .int)]
def wsX9_early : List Cond := .code yX9_early cX9_early 6 (some .int) :: ((wsX9_early_r1 ++ (wsX9_early_r2 ++ (wsX9_early_r3 ++ (wsX9_early_r4 ++ wsX9_early_r5)))) ++ wsX90)
def wsX9_same_r1 : List Cond := [Cond.fieldLink RX9 7 "EarlyValuesModel" "argsOf" "[I", Cond.methodLink RX9 129 yX9_isFunction, Cond.instanceMethod yX9_isFunction, Cond.selects RX9 yX9_isFunction yX9_isFunction, Cond.initialized RX9, Cond.code yX9_isFunction cX9_isFunction 2 (some .boolean), Cond.fieldLink RX9 49 "EarlyValuesModel" "many" "I", Cond.methodLink RX9 61 yX9_in, Cond.static yX9_in, Cond.code yX9_in cX9_in 3 (some .boolean), Cond.methodLink RX9 151 yX9_setAll, Cond.instanceMethod yX9_setAll, Cond.selects RX9 yX9_setAll yX9_setAll, Cond.code yX9_setAll cX9_setAll 1 none, Cond.fieldLink RX9 121 "EarlyValuesModel" "isKnown" "Z", Cond.methodLink RX9 125 yX9_sets, Cond.instanceMethod yX9_sets, Cond.selects RX9 yX9_sets yX9_sets, Cond.code yX9_sets cX9_sets 3 none, Cond.fieldLink RX9 22 "EarlyValuesModel" "table" "[I", Cond.fieldLink RX9 28 "EarlyValuesModel" "roundsOf" "[I", Cond.methodLink RX9 69 yX9_neverOf, Cond.static yX9_neverOf, Cond.code yX9_neverOf cX9_neverOf 1 (some .int)]
def wsX9_same_r2 : List Cond := [Cond.methodLink RX9 117 yX9_changes, Cond.instanceMethod yX9_changes, Cond.selects RX9 yX9_changes yX9_changes, Cond.code yX9_changes cX9_changes 10 (some .boolean), Cond.fieldLink RX9 25 "EarlyValuesModel" "then" "[I", Cond.methodLink RX9 107 yX9_sizeOf, Cond.static yX9_sizeOf, Cond.code yX9_sizeOf cX9_sizeOf 1 (some .int), Cond.methodLink RX9 110 yX9_isRow, Cond.instanceMethod yX9_isRow, Cond.selects RX9 yX9_isRow yX9_isRow, Cond.code yX9_isRow cX9_isRow 7 (some .boolean), Cond.methodLink RX9 114 yX9_comesTo, Cond.instanceMethod yX9_comesTo, Cond.selects RX9 yX9_comesTo yX9_comesTo, Cond.code yX9_comesTo cX9_comesTo 10 (some .int), Cond.fieldLink RX9 13 "EarlyValuesModel" "kindOf" "[I", Cond.methodLink RX9 100 yX9_isNever, Cond.static yX9_isNever, Cond.code yX9_isNever cX9_isNever 2 (some .boolean), Cond.methodLink RX9 104 yX9_bodyBy, Cond.instanceMethod yX9_bodyBy, Cond.selects RX9 yX9_bodyBy yX9_bodyBy, Cond.code yX9_bodyBy cX9_bodyBy 11 (some .int)]
def wsX9_same_r3 : List Cond := [Cond.fieldLink RX9 16 "EarlyValuesModel" "longOf" "[I", Cond.fieldLink RX9 19 "EarlyValuesModel" "body" "[I", Cond.fieldLink RX9 31 "EarlyValuesModel" "parts" "[I", Cond.methodLink RX9 89 yX9_partsOf, Cond.instanceMethod yX9_partsOf, Cond.selects RX9 yX9_partsOf yX9_partsOf, Cond.code yX9_partsOf cX9_partsOf 3 (some .int), Cond.methodLink RX9 93 yX9_constantBy, Cond.static yX9_constantBy, Cond.code yX9_constantBy cX9_constantBy 2 (some .int), Cond.methodLink RX9 96 yX9_madeBy, Cond.instanceMethod yX9_madeBy, Cond.selects RX9 yX9_madeBy yX9_madeBy, Cond.code yX9_madeBy cX9_madeBy 6 (some .int), Cond.methodLink RX9 72 yX9_rowOf, Cond.static yX9_rowOf, Cond.code yX9_rowOf cX9_rowOf 3 (some .int), Cond.methodLink RX9 76 yX9_tableAt, Cond.instanceMethod yX9_tableAt, Cond.selects RX9 yX9_tableAt yX9_tableAt, Cond.code yX9_tableAt cX9_tableAt 4 (some .int), Cond.methodLink RX9 79 yX9_valueBy, Cond.static yX9_valueBy, Cond.code yX9_valueBy cX9_valueBy 4 (some .int)]
def wsX9_same_r4 : List Cond := [Cond.methodLink RX9 83 yX9_roughBy, Cond.static yX9_roughBy, Cond.code yX9_roughBy cX9_roughBy 4 (some .int), Cond.methodLink RX9 86 yX9_fineBy, Cond.static yX9_fineBy, Cond.code yX9_fineBy cX9_fineBy 5 (some .int)]
def wsX9_same : List Cond := .code yX9_same cX9_same 5 (some .int) :: ((wsX9_same_r1 ++ (wsX9_same_r2 ++ (wsX9_same_r3 ++ wsX9_same_r4))) ++ wsX90)
def wsX9_first_r1 : List Cond := [Cond.methodLink RX9 129 yX9_isFunction, Cond.instanceMethod yX9_isFunction, Cond.selects RX9 yX9_isFunction yX9_isFunction, Cond.initialized RX9, Cond.code yX9_isFunction cX9_isFunction 2 (some .boolean), Cond.fieldLink RX9 49 "EarlyValuesModel" "many" "I", Cond.methodLink RX9 61 yX9_in, Cond.static yX9_in, Cond.code yX9_in cX9_in 3 (some .boolean), Cond.methodLink RX9 151 yX9_setAll, Cond.instanceMethod yX9_setAll, Cond.selects RX9 yX9_setAll yX9_setAll, Cond.code yX9_setAll cX9_setAll 1 none, Cond.fieldLink RX9 121 "EarlyValuesModel" "isKnown" "Z", Cond.methodLink RX9 125 yX9_sets, Cond.instanceMethod yX9_sets, Cond.selects RX9 yX9_sets yX9_sets, Cond.code yX9_sets cX9_sets 3 none, Cond.fieldLink RX9 22 "EarlyValuesModel" "table" "[I", Cond.fieldLink RX9 28 "EarlyValuesModel" "roundsOf" "[I", Cond.methodLink RX9 69 yX9_neverOf, Cond.static yX9_neverOf, Cond.code yX9_neverOf cX9_neverOf 1 (some .int), Cond.methodLink RX9 117 yX9_changes]
def wsX9_first_r2 : List Cond := [Cond.instanceMethod yX9_changes, Cond.selects RX9 yX9_changes yX9_changes, Cond.code yX9_changes cX9_changes 10 (some .boolean), Cond.fieldLink RX9 25 "EarlyValuesModel" "then" "[I", Cond.methodLink RX9 107 yX9_sizeOf, Cond.static yX9_sizeOf, Cond.code yX9_sizeOf cX9_sizeOf 1 (some .int), Cond.methodLink RX9 110 yX9_isRow, Cond.instanceMethod yX9_isRow, Cond.selects RX9 yX9_isRow yX9_isRow, Cond.code yX9_isRow cX9_isRow 7 (some .boolean), Cond.fieldLink RX9 7 "EarlyValuesModel" "argsOf" "[I", Cond.methodLink RX9 114 yX9_comesTo, Cond.instanceMethod yX9_comesTo, Cond.selects RX9 yX9_comesTo yX9_comesTo, Cond.code yX9_comesTo cX9_comesTo 10 (some .int), Cond.fieldLink RX9 13 "EarlyValuesModel" "kindOf" "[I", Cond.methodLink RX9 100 yX9_isNever, Cond.static yX9_isNever, Cond.code yX9_isNever cX9_isNever 2 (some .boolean), Cond.methodLink RX9 104 yX9_bodyBy, Cond.instanceMethod yX9_bodyBy, Cond.selects RX9 yX9_bodyBy yX9_bodyBy, Cond.code yX9_bodyBy cX9_bodyBy 11 (some .int)]
def wsX9_first_r3 : List Cond := [Cond.fieldLink RX9 16 "EarlyValuesModel" "longOf" "[I", Cond.fieldLink RX9 19 "EarlyValuesModel" "body" "[I", Cond.fieldLink RX9 31 "EarlyValuesModel" "parts" "[I", Cond.methodLink RX9 89 yX9_partsOf, Cond.instanceMethod yX9_partsOf, Cond.selects RX9 yX9_partsOf yX9_partsOf, Cond.code yX9_partsOf cX9_partsOf 3 (some .int), Cond.methodLink RX9 93 yX9_constantBy, Cond.static yX9_constantBy, Cond.code yX9_constantBy cX9_constantBy 2 (some .int), Cond.methodLink RX9 96 yX9_madeBy, Cond.instanceMethod yX9_madeBy, Cond.selects RX9 yX9_madeBy yX9_madeBy, Cond.code yX9_madeBy cX9_madeBy 6 (some .int), Cond.methodLink RX9 72 yX9_rowOf, Cond.static yX9_rowOf, Cond.code yX9_rowOf cX9_rowOf 3 (some .int), Cond.methodLink RX9 76 yX9_tableAt, Cond.instanceMethod yX9_tableAt, Cond.selects RX9 yX9_tableAt yX9_tableAt, Cond.code yX9_tableAt cX9_tableAt 4 (some .int), Cond.methodLink RX9 79 yX9_valueBy, Cond.static yX9_valueBy, Cond.code yX9_valueBy cX9_valueBy 4 (some .int)]
def wsX9_first_r4 : List Cond := [Cond.methodLink RX9 83 yX9_roughBy, Cond.static yX9_roughBy, Cond.code yX9_roughBy cX9_roughBy 4 (some .int), Cond.methodLink RX9 86 yX9_fineBy, Cond.static yX9_fineBy, Cond.code yX9_fineBy cX9_fineBy 5 (some .int)]
def wsX9_first : List Cond := .code yX9_first cX9_first 4 (some .int) :: ((wsX9_first_r1 ++ (wsX9_first_r2 ++ (wsX9_first_r3 ++ wsX9_first_r4))) ++ wsX90)
def wsX9_makes_r1 : List Cond := [Cond.fieldLink RX9 7 "EarlyValuesModel" "argsOf" "[I", Cond.fieldLink RX9 16 "EarlyValuesModel" "longOf" "[I", Cond.fieldLink RX9 19 "EarlyValuesModel" "body" "[I", Cond.fieldLink RX9 121 "EarlyValuesModel" "isKnown" "Z", Cond.methodLink RX9 129 yX9_isFunction, Cond.instanceMethod yX9_isFunction, Cond.selects RX9 yX9_isFunction yX9_isFunction, Cond.initialized RX9, Cond.code yX9_isFunction cX9_isFunction 2 (some .boolean), Cond.fieldLink RX9 49 "EarlyValuesModel" "many" "I", Cond.methodLink RX9 61 yX9_in, Cond.static yX9_in, Cond.code yX9_in cX9_in 3 (some .boolean), Cond.methodLink RX9 151 yX9_setAll, Cond.instanceMethod yX9_setAll, Cond.selects RX9 yX9_setAll yX9_setAll, Cond.code yX9_setAll cX9_setAll 1 none, Cond.methodLink RX9 125 yX9_sets, Cond.instanceMethod yX9_sets, Cond.selects RX9 yX9_sets yX9_sets, Cond.code yX9_sets cX9_sets 3 none, Cond.fieldLink RX9 22 "EarlyValuesModel" "table" "[I", Cond.fieldLink RX9 28 "EarlyValuesModel" "roundsOf" "[I", Cond.methodLink RX9 69 yX9_neverOf]
def wsX9_makes_r2 : List Cond := [Cond.static yX9_neverOf, Cond.code yX9_neverOf cX9_neverOf 1 (some .int), Cond.methodLink RX9 117 yX9_changes, Cond.instanceMethod yX9_changes, Cond.selects RX9 yX9_changes yX9_changes, Cond.code yX9_changes cX9_changes 10 (some .boolean), Cond.fieldLink RX9 25 "EarlyValuesModel" "then" "[I", Cond.methodLink RX9 107 yX9_sizeOf, Cond.static yX9_sizeOf, Cond.code yX9_sizeOf cX9_sizeOf 1 (some .int), Cond.methodLink RX9 110 yX9_isRow, Cond.instanceMethod yX9_isRow, Cond.selects RX9 yX9_isRow yX9_isRow, Cond.code yX9_isRow cX9_isRow 7 (some .boolean), Cond.methodLink RX9 114 yX9_comesTo, Cond.instanceMethod yX9_comesTo, Cond.selects RX9 yX9_comesTo yX9_comesTo, Cond.code yX9_comesTo cX9_comesTo 10 (some .int), Cond.fieldLink RX9 13 "EarlyValuesModel" "kindOf" "[I", Cond.methodLink RX9 100 yX9_isNever, Cond.static yX9_isNever, Cond.code yX9_isNever cX9_isNever 2 (some .boolean), Cond.methodLink RX9 104 yX9_bodyBy, Cond.instanceMethod yX9_bodyBy]
def wsX9_makes_r3 : List Cond := [Cond.selects RX9 yX9_bodyBy yX9_bodyBy, Cond.code yX9_bodyBy cX9_bodyBy 11 (some .int), Cond.fieldLink RX9 31 "EarlyValuesModel" "parts" "[I", Cond.methodLink RX9 89 yX9_partsOf, Cond.instanceMethod yX9_partsOf, Cond.selects RX9 yX9_partsOf yX9_partsOf, Cond.code yX9_partsOf cX9_partsOf 3 (some .int), Cond.methodLink RX9 93 yX9_constantBy, Cond.static yX9_constantBy, Cond.code yX9_constantBy cX9_constantBy 2 (some .int), Cond.methodLink RX9 96 yX9_madeBy, Cond.instanceMethod yX9_madeBy, Cond.selects RX9 yX9_madeBy yX9_madeBy, Cond.code yX9_madeBy cX9_madeBy 6 (some .int), Cond.methodLink RX9 72 yX9_rowOf, Cond.static yX9_rowOf, Cond.code yX9_rowOf cX9_rowOf 3 (some .int), Cond.methodLink RX9 76 yX9_tableAt, Cond.instanceMethod yX9_tableAt, Cond.selects RX9 yX9_tableAt yX9_tableAt, Cond.code yX9_tableAt cX9_tableAt 4 (some .int), Cond.methodLink RX9 79 yX9_valueBy, Cond.static yX9_valueBy, Cond.code yX9_valueBy cX9_valueBy 4 (some .int)]
def wsX9_makes_r4 : List Cond := [Cond.methodLink RX9 83 yX9_roughBy, Cond.static yX9_roughBy, Cond.code yX9_roughBy cX9_roughBy 4 (some .int), Cond.methodLink RX9 86 yX9_fineBy, Cond.static yX9_fineBy, Cond.code yX9_fineBy cX9_fineBy 5 (some .int), Cond.methodLink RX9 169 yX9_fineStrict, Cond.instanceMethod yX9_fineStrict, Cond.selects RX9 yX9_fineStrict yX9_fineStrict, Cond.code yX9_fineStrict cX9_fineStrict 6 (some .int), Cond.methodLink RX9 65 yX9_letterBy, Cond.static yX9_letterBy, Cond.code yX9_letterBy cX9_letterBy 1 (some .int), Cond.methodLink RX9 139 yX9_mayStand, Cond.instanceMethod yX9_mayStand, Cond.selects RX9 yX9_mayStand yX9_mayStand, Cond.code yX9_mayStand cX9_mayStand 5 (some .boolean)]
def wsX9_makes : List Cond := .code yX9_makes cX9_makes 8 (some .int) :: ((wsX9_makes_r1 ++ (wsX9_makes_r2 ++ (wsX9_makes_r3 ++ wsX9_makes_r4))) ++ wsX90)
def wsX9_turns : List Cond := .code yX9_turns cX9_turns 6 none :: ([.fieldLink RX9 49 "EarlyValuesModel" "many" "I", .fieldLink RX9 16 "EarlyValuesModel" "longOf" "[I", .fieldLink RX9 19 "EarlyValuesModel" "body" "[I", .methodLink RX9 181 yX9_placeOf, .static yX9_placeOf, .initialized RX9, .code yX9_placeOf cX9_placeOf 2 (some .int), .methodLink RX9 65 yX9_letterBy, .static yX9_letterBy, .code yX9_letterBy cX9_letterBy 1 (some .int), .methodLink RX9 139 yX9_mayStand, .instanceMethod yX9_mayStand, .selects RX9 yX9_mayStand yX9_mayStand, .code yX9_mayStand cX9_mayStand 5 (some .boolean), .fieldLink RX9 7 "EarlyValuesModel" "argsOf" "[I", .methodLink RX9 89 yX9_partsOf, .instanceMethod yX9_partsOf, .selects RX9 yX9_partsOf yX9_partsOf, .code yX9_partsOf cX9_partsOf 3 (some .int), .methodLink RX9 61 yX9_in, .static yX9_in, .code yX9_in cX9_in 3 (some .boolean)] ++ wsX90)
def wsX9_valueRows : List Cond := .code yX9_valueRows cX9_valueRows 4 (some .int) :: ([.fieldLink RX9 49 "EarlyValuesModel" "many" "I", .methodLink RX9 76 yX9_tableAt, .instanceMethod yX9_tableAt, .selects RX9 yX9_tableAt yX9_tableAt, .initialized RX9, .code yX9_tableAt cX9_tableAt 4 (some .int), .fieldLink RX9 22 "EarlyValuesModel" "table" "[I"] ++ wsX90)
def wsX9_day_r1 : List Cond := [Cond.fieldLink RX9 40 "EarlyValuesModel" "aside" "[I", Cond.constantLong RX9 184 (7919), Cond.constantLong RX9 186 (6151), Cond.constantLong RX9 188 (65521), Cond.fieldLink RX9 121 "EarlyValuesModel" "isKnown" "Z", Cond.fieldLink RX9 49 "EarlyValuesModel" "many" "I", Cond.methodLink RX9 61 yX9_in, Cond.static yX9_in, Cond.initialized RX9, Cond.code yX9_in cX9_in 3 (some .boolean), Cond.methodLink RX9 135 yX9_lays, Cond.instanceMethod yX9_lays, Cond.selects RX9 yX9_lays yX9_lays, Cond.code yX9_lays cX9_lays 4 none, Cond.fieldLink RX9 7 "EarlyValuesModel" "argsOf" "[I", Cond.fieldLink RX9 13 "EarlyValuesModel" "kindOf" "[I", Cond.fieldLink RX9 16 "EarlyValuesModel" "longOf" "[I", Cond.fieldLink RX9 19 "EarlyValuesModel" "body" "[I", Cond.methodLink RX9 190 yX9_turns, Cond.instanceMethod yX9_turns, Cond.selects RX9 yX9_turns yX9_turns, Cond.code yX9_turns cX9_turns 6 none, Cond.methodLink RX9 181 yX9_placeOf, Cond.static yX9_placeOf]
def wsX9_day_r2 : List Cond := [Cond.code yX9_placeOf cX9_placeOf 2 (some .int), Cond.methodLink RX9 65 yX9_letterBy, Cond.static yX9_letterBy, Cond.code yX9_letterBy cX9_letterBy 1 (some .int), Cond.methodLink RX9 139 yX9_mayStand, Cond.instanceMethod yX9_mayStand, Cond.selects RX9 yX9_mayStand yX9_mayStand, Cond.code yX9_mayStand cX9_mayStand 5 (some .boolean), Cond.methodLink RX9 89 yX9_partsOf, Cond.instanceMethod yX9_partsOf, Cond.selects RX9 yX9_partsOf yX9_partsOf, Cond.code yX9_partsOf cX9_partsOf 3 (some .int), Cond.methodLink RX9 151 yX9_setAll, Cond.instanceMethod yX9_setAll, Cond.selects RX9 yX9_setAll yX9_setAll, Cond.code yX9_setAll cX9_setAll 1 none, Cond.methodLink RX9 125 yX9_sets, Cond.instanceMethod yX9_sets, Cond.selects RX9 yX9_sets yX9_sets, Cond.code yX9_sets cX9_sets 3 none, Cond.fieldLink RX9 22 "EarlyValuesModel" "table" "[I", Cond.fieldLink RX9 28 "EarlyValuesModel" "roundsOf" "[I", Cond.methodLink RX9 69 yX9_neverOf, Cond.static yX9_neverOf]
def wsX9_day_r3 : List Cond := [Cond.code yX9_neverOf cX9_neverOf 1 (some .int), Cond.methodLink RX9 117 yX9_changes, Cond.instanceMethod yX9_changes, Cond.selects RX9 yX9_changes yX9_changes, Cond.code yX9_changes cX9_changes 10 (some .boolean), Cond.fieldLink RX9 25 "EarlyValuesModel" "then" "[I", Cond.methodLink RX9 107 yX9_sizeOf, Cond.static yX9_sizeOf, Cond.code yX9_sizeOf cX9_sizeOf 1 (some .int), Cond.methodLink RX9 110 yX9_isRow, Cond.instanceMethod yX9_isRow, Cond.selects RX9 yX9_isRow yX9_isRow, Cond.code yX9_isRow cX9_isRow 7 (some .boolean), Cond.methodLink RX9 114 yX9_comesTo, Cond.instanceMethod yX9_comesTo, Cond.selects RX9 yX9_comesTo yX9_comesTo, Cond.code yX9_comesTo cX9_comesTo 10 (some .int), Cond.methodLink RX9 100 yX9_isNever, Cond.static yX9_isNever, Cond.code yX9_isNever cX9_isNever 2 (some .boolean), Cond.methodLink RX9 104 yX9_bodyBy, Cond.instanceMethod yX9_bodyBy, Cond.selects RX9 yX9_bodyBy yX9_bodyBy, Cond.code yX9_bodyBy cX9_bodyBy 11 (some .int)]
def wsX9_day_r4 : List Cond := [Cond.fieldLink RX9 31 "EarlyValuesModel" "parts" "[I", Cond.methodLink RX9 93 yX9_constantBy, Cond.static yX9_constantBy, Cond.code yX9_constantBy cX9_constantBy 2 (some .int), Cond.methodLink RX9 96 yX9_madeBy, Cond.instanceMethod yX9_madeBy, Cond.selects RX9 yX9_madeBy yX9_madeBy, Cond.code yX9_madeBy cX9_madeBy 6 (some .int), Cond.methodLink RX9 72 yX9_rowOf, Cond.static yX9_rowOf, Cond.code yX9_rowOf cX9_rowOf 3 (some .int), Cond.methodLink RX9 76 yX9_tableAt, Cond.instanceMethod yX9_tableAt, Cond.selects RX9 yX9_tableAt yX9_tableAt, Cond.code yX9_tableAt cX9_tableAt 4 (some .int), Cond.methodLink RX9 79 yX9_valueBy, Cond.static yX9_valueBy, Cond.code yX9_valueBy cX9_valueBy 4 (some .int), Cond.methodLink RX9 83 yX9_roughBy, Cond.static yX9_roughBy, Cond.code yX9_roughBy cX9_roughBy 4 (some .int), Cond.methodLink RX9 86 yX9_fineBy, Cond.static yX9_fineBy, Cond.code yX9_fineBy cX9_fineBy 5 (some .int)]
def wsX9_day_r5 : List Cond := [Cond.methodLink RX9 175 yX9_strictSet, Cond.instanceMethod yX9_strictSet, Cond.selects RX9 yX9_strictSet yX9_strictSet, Cond.code yX9_strictSet cX9_strictSet 6 (some .int), Cond.methodLink RX9 166 yX9_roughStrict, Cond.instanceMethod yX9_roughStrict, Cond.selects RX9 yX9_roughStrict yX9_roughStrict, Cond.code yX9_roughStrict cX9_roughStrict 3 (some .int), Cond.methodLink RX9 154 yX9_rowsOf, Cond.instanceMethod yX9_rowsOf, Cond.selects RX9 yX9_rowsOf yX9_rowsOf, Cond.code yX9_rowsOf cX9_rowsOf 2 (some .int), Cond.methodLink RX9 157 yX9_roughAt, Cond.instanceMethod yX9_roughAt, Cond.selects RX9 yX9_roughAt yX9_roughAt, Cond.code yX9_roughAt cX9_roughAt 3 (some .int), Cond.methodLink RX9 169 yX9_fineStrict, Cond.instanceMethod yX9_fineStrict, Cond.selects RX9 yX9_fineStrict yX9_fineStrict, Cond.code yX9_fineStrict cX9_fineStrict 6 (some .int), Cond.methodLink RX9 172 yX9_trulyStrict, Cond.instanceMethod yX9_trulyStrict, Cond.selects RX9 yX9_trulyStrict yX9_trulyStrict, Cond.code yX9_trulyStrict cX9_trulyStrict 6 (some .int)]
def wsX9_day_r6 : List Cond := [Cond.methodLink RX9 163 yX9_argument, Cond.static yX9_argument, Cond.code yX9_argument cX9_argument 2 (some .int), Cond.methodLink RX9 178 yX9_bits, Cond.static yX9_bits, Cond.code yX9_bits cX9_bits 1 (some .int), Cond.methodLink RX9 193 yX9_valueRows, Cond.instanceMethod yX9_valueRows, Cond.selects RX9 yX9_valueRows yX9_valueRows, Cond.code yX9_valueRows cX9_valueRows 4 (some .int), Cond.methodLink RX9 145 yX9_takes, Cond.instanceMethod yX9_takes, Cond.selects RX9 yX9_takes yX9_takes, Cond.code yX9_takes cX9_takes 4 none]
def wsX9_day : List Cond := .code yX9_day cX9_day 7 (some .int) :: ((wsX9_day_r1 ++ (wsX9_day_r2 ++ (wsX9_day_r3 ++ (wsX9_day_r4 ++ (wsX9_day_r5 ++ wsX9_day_r6))))) ++ wsX90)
def wsX9_sumOf : List Cond := .code yX9_sumOf cX9_sumOf 4 (some .int) :: ([.fieldLink RX9 49 "EarlyValuesModel" "many" "I"] ++ wsX90)
def wsX9_count : List Cond := .code yX9_count cX9_count 2 (some .int) :: ([.fieldLink RX9 49 "EarlyValuesModel" "many" "I", .fieldLink RX9 16 "EarlyValuesModel" "longOf" "[I", .fieldLink RX9 7 "EarlyValuesModel" "argsOf" "[I", .fieldLink RX9 132 "EarlyValuesModel" "undoMany" "I", .fieldLink RX9 148 "EarlyValuesModel" "savedMany" "I", .fieldLink RX9 201 "EarlyValuesModel" "size" "I", .methodLink RX9 61 yX9_in, .static yX9_in, .initialized RX9, .code yX9_in cX9_in 3 (some .boolean), .methodLink RX9 197 yX9_sumOf, .instanceMethod yX9_sumOf, .selects RX9 yX9_sumOf yX9_sumOf, .code yX9_sumOf cX9_sumOf 4 (some .int)] ++ wsX90)
def wsX9_write : List Cond := .code yX9_write cX9_write 2 (some .int) :: ([.fieldLink RX9 201 "EarlyValuesModel" "size" "I", .fieldLink RX9 43 "EarlyValuesModel" "text" "[I", .methodLink RX9 61 yX9_in, .static yX9_in, .initialized RX9, .code yX9_in cX9_in 3 (some .boolean)] ++ wsX90)
def wsX9_wipe : List Cond := .code yX9_wipe cX9_wipe 2 (some .int) :: ([.fieldLink RX9 201 "EarlyValuesModel" "size" "I"] ++ wsX90)
def wsX9_here : List Cond := .code yX9_here cX9_here 1 (some .int) :: ([.fieldLink RX9 204 "EarlyValuesModel" "readAt" "I", .fieldLink RX9 201 "EarlyValuesModel" "size" "I", .fieldLink RX9 43 "EarlyValuesModel" "text" "[I"] ++ wsX90)
def wsX9_reads : List Cond := .code yX9_reads cX9_reads 2 (some .boolean) :: ([.fieldLink RX9 204 "EarlyValuesModel" "readAt" "I", .methodLink RX9 207 yX9_here, .instanceMethod yX9_here, .selects RX9 yX9_here yX9_here, .initialized RX9, .code yX9_here cX9_here 1 (some .int), .fieldLink RX9 201 "EarlyValuesModel" "size" "I", .fieldLink RX9 43 "EarlyValuesModel" "text" "[I"] ++ wsX90)
def wsX9_readsNumbers : List Cond := .code yX9_readsNumbers cX9_readsNumbers 1 (some .boolean) :: ([.fieldLink RX9 49 "EarlyValuesModel" "many" "I", .fieldLink RX9 7 "EarlyValuesModel" "argsOf" "[I", .fieldLink RX9 204 "EarlyValuesModel" "readAt" "I", .methodLink RX9 207 yX9_here, .instanceMethod yX9_here, .selects RX9 yX9_here yX9_here, .initialized RX9, .code yX9_here cX9_here 1 (some .int), .fieldLink RX9 201 "EarlyValuesModel" "size" "I", .fieldLink RX9 43 "EarlyValuesModel" "text" "[I", .methodLink RX9 61 yX9_in, .static yX9_in, .code yX9_in cX9_in 3 (some .boolean), .methodLink RX9 210 yX9_reads, .instanceMethod yX9_reads, .selects RX9 yX9_reads yX9_reads, .code yX9_reads cX9_reads 2 (some .boolean)] ++ wsX90)
def wsX9_readsBody : List Cond := .code yX9_readsBody cX9_readsBody 5 (some .boolean) :: ([.fieldLink RX9 204 "EarlyValuesModel" "readAt" "I", .fieldLink RX9 201 "EarlyValuesModel" "size" "I", .fieldLink RX9 7 "EarlyValuesModel" "argsOf" "[I", .fieldLink RX9 19 "EarlyValuesModel" "body" "[I", .fieldLink RX9 16 "EarlyValuesModel" "longOf" "[I", .methodLink RX9 207 yX9_here, .instanceMethod yX9_here, .selects RX9 yX9_here yX9_here, .initialized RX9, .code yX9_here cX9_here 1 (some .int), .fieldLink RX9 43 "EarlyValuesModel" "text" "[I", .methodLink RX9 89 yX9_partsOf, .instanceMethod yX9_partsOf, .selects RX9 yX9_partsOf yX9_partsOf, .code yX9_partsOf cX9_partsOf 3 (some .int), .fieldLink RX9 49 "EarlyValuesModel" "many" "I", .methodLink RX9 61 yX9_in, .static yX9_in, .code yX9_in cX9_in 3 (some .boolean), .methodLink RX9 210 yX9_reads, .instanceMethod yX9_reads, .selects RX9 yX9_reads yX9_reads, .code yX9_reads cX9_reads 2 (some .boolean)] ++ wsX90)
def wsX9_readsFunction_r1 : List Cond := [Cond.fieldLink RX9 213 "EarlyValuesModel" "readMany" "I", Cond.fieldLink RX9 49 "EarlyValuesModel" "many" "I", Cond.fieldLink RX9 13 "EarlyValuesModel" "kindOf" "[I", Cond.fieldLink RX9 204 "EarlyValuesModel" "readAt" "I", Cond.methodLink RX9 207 yX9_here, Cond.instanceMethod yX9_here, Cond.selects RX9 yX9_here yX9_here, Cond.initialized RX9, Cond.code yX9_here cX9_here 1 (some .int), Cond.fieldLink RX9 201 "EarlyValuesModel" "size" "I", Cond.fieldLink RX9 43 "EarlyValuesModel" "text" "[I", Cond.methodLink RX9 61 yX9_in, Cond.static yX9_in, Cond.code yX9_in cX9_in 3 (some .boolean), Cond.methodLink RX9 210 yX9_reads, Cond.instanceMethod yX9_reads, Cond.selects RX9 yX9_reads yX9_reads, Cond.code yX9_reads cX9_reads 2 (some .boolean), Cond.methodLink RX9 216 yX9_readsBody, Cond.instanceMethod yX9_readsBody, Cond.selects RX9 yX9_readsBody yX9_readsBody, Cond.code yX9_readsBody cX9_readsBody 5 (some .boolean), Cond.fieldLink RX9 7 "EarlyValuesModel" "argsOf" "[I", Cond.fieldLink RX9 19 "EarlyValuesModel" "body" "[I"]
def wsX9_readsFunction_r2 : List Cond := [Cond.fieldLink RX9 16 "EarlyValuesModel" "longOf" "[I", Cond.methodLink RX9 89 yX9_partsOf, Cond.instanceMethod yX9_partsOf, Cond.selects RX9 yX9_partsOf yX9_partsOf, Cond.code yX9_partsOf cX9_partsOf 3 (some .int)]
def wsX9_readsFunction : List Cond := .code yX9_readsFunction cX9_readsFunction 1 (some .boolean) :: ((wsX9_readsFunction_r1 ++ wsX9_readsFunction_r2) ++ wsX90)
def wsX9_readsItem_r1 : List Cond := [Cond.fieldLink RX9 204 "EarlyValuesModel" "readAt" "I", Cond.methodLink RX9 207 yX9_here, Cond.instanceMethod yX9_here, Cond.selects RX9 yX9_here yX9_here, Cond.initialized RX9, Cond.code yX9_here cX9_here 1 (some .int), Cond.fieldLink RX9 201 "EarlyValuesModel" "size" "I", Cond.fieldLink RX9 43 "EarlyValuesModel" "text" "[I", Cond.methodLink RX9 219 yX9_readsNumbers, Cond.instanceMethod yX9_readsNumbers, Cond.selects RX9 yX9_readsNumbers yX9_readsNumbers, Cond.code yX9_readsNumbers cX9_readsNumbers 1 (some .boolean), Cond.fieldLink RX9 49 "EarlyValuesModel" "many" "I", Cond.fieldLink RX9 7 "EarlyValuesModel" "argsOf" "[I", Cond.methodLink RX9 61 yX9_in, Cond.static yX9_in, Cond.code yX9_in cX9_in 3 (some .boolean), Cond.methodLink RX9 210 yX9_reads, Cond.instanceMethod yX9_reads, Cond.selects RX9 yX9_reads yX9_reads, Cond.code yX9_reads cX9_reads 2 (some .boolean), Cond.methodLink RX9 223 yX9_readsFunction, Cond.instanceMethod yX9_readsFunction, Cond.selects RX9 yX9_readsFunction yX9_readsFunction]
def wsX9_readsItem_r2 : List Cond := [Cond.code yX9_readsFunction cX9_readsFunction 1 (some .boolean), Cond.fieldLink RX9 213 "EarlyValuesModel" "readMany" "I", Cond.fieldLink RX9 13 "EarlyValuesModel" "kindOf" "[I", Cond.methodLink RX9 216 yX9_readsBody, Cond.instanceMethod yX9_readsBody, Cond.selects RX9 yX9_readsBody yX9_readsBody, Cond.code yX9_readsBody cX9_readsBody 5 (some .boolean), Cond.fieldLink RX9 19 "EarlyValuesModel" "body" "[I", Cond.fieldLink RX9 16 "EarlyValuesModel" "longOf" "[I", Cond.methodLink RX9 89 yX9_partsOf, Cond.instanceMethod yX9_partsOf, Cond.selects RX9 yX9_partsOf yX9_partsOf, Cond.code yX9_partsOf cX9_partsOf 3 (some .int)]
def wsX9_readsItem : List Cond := .code yX9_readsItem cX9_readsItem 3 (some .boolean) :: ((wsX9_readsItem_r1 ++ wsX9_readsItem_r2) ++ wsX90)
def wsX9_readsAll_r1 : List Cond := [Cond.fieldLink RX9 204 "EarlyValuesModel" "readAt" "I", Cond.fieldLink RX9 213 "EarlyValuesModel" "readMany" "I", Cond.fieldLink RX9 49 "EarlyValuesModel" "many" "I", Cond.fieldLink RX9 201 "EarlyValuesModel" "size" "I", Cond.methodLink RX9 226 yX9_readsItem, Cond.instanceMethod yX9_readsItem, Cond.selects RX9 yX9_readsItem yX9_readsItem, Cond.initialized RX9, Cond.code yX9_readsItem cX9_readsItem 3 (some .boolean), Cond.methodLink RX9 207 yX9_here, Cond.instanceMethod yX9_here, Cond.selects RX9 yX9_here yX9_here, Cond.code yX9_here cX9_here 1 (some .int), Cond.fieldLink RX9 43 "EarlyValuesModel" "text" "[I", Cond.methodLink RX9 219 yX9_readsNumbers, Cond.instanceMethod yX9_readsNumbers, Cond.selects RX9 yX9_readsNumbers yX9_readsNumbers, Cond.code yX9_readsNumbers cX9_readsNumbers 1 (some .boolean), Cond.fieldLink RX9 7 "EarlyValuesModel" "argsOf" "[I", Cond.methodLink RX9 61 yX9_in, Cond.static yX9_in, Cond.code yX9_in cX9_in 3 (some .boolean), Cond.methodLink RX9 210 yX9_reads, Cond.instanceMethod yX9_reads]
def wsX9_readsAll_r2 : List Cond := [Cond.selects RX9 yX9_reads yX9_reads, Cond.code yX9_reads cX9_reads 2 (some .boolean), Cond.methodLink RX9 223 yX9_readsFunction, Cond.instanceMethod yX9_readsFunction, Cond.selects RX9 yX9_readsFunction yX9_readsFunction, Cond.code yX9_readsFunction cX9_readsFunction 1 (some .boolean), Cond.fieldLink RX9 13 "EarlyValuesModel" "kindOf" "[I", Cond.methodLink RX9 216 yX9_readsBody, Cond.instanceMethod yX9_readsBody, Cond.selects RX9 yX9_readsBody yX9_readsBody, Cond.code yX9_readsBody cX9_readsBody 5 (some .boolean), Cond.fieldLink RX9 19 "EarlyValuesModel" "body" "[I", Cond.fieldLink RX9 16 "EarlyValuesModel" "longOf" "[I", Cond.methodLink RX9 89 yX9_partsOf, Cond.instanceMethod yX9_partsOf, Cond.selects RX9 yX9_partsOf yX9_partsOf, Cond.code yX9_partsOf cX9_partsOf 3 (some .int)]
def wsX9_readsAll : List Cond := .code yX9_readsAll cX9_readsAll 2 (some .int) :: ((wsX9_readsAll_r1 ++ wsX9_readsAll_r2) ++ wsX90)
def wsX9_fault_r1 : List Cond := [Cond.fieldLink RX9 46 "EarlyValuesModel" "before" "[I", Cond.fieldLink RX9 121 "EarlyValuesModel" "isKnown" "Z", Cond.methodLink RX9 135 yX9_lays, Cond.instanceMethod yX9_lays, Cond.selects RX9 yX9_lays yX9_lays, Cond.initialized RX9, Cond.code yX9_lays cX9_lays 4 none, Cond.fieldLink RX9 49 "EarlyValuesModel" "many" "I", Cond.fieldLink RX9 7 "EarlyValuesModel" "argsOf" "[I", Cond.fieldLink RX9 13 "EarlyValuesModel" "kindOf" "[I", Cond.fieldLink RX9 16 "EarlyValuesModel" "longOf" "[I", Cond.fieldLink RX9 19 "EarlyValuesModel" "body" "[I", Cond.methodLink RX9 230 yX9_readsAll, Cond.instanceMethod yX9_readsAll, Cond.selects RX9 yX9_readsAll yX9_readsAll, Cond.code yX9_readsAll cX9_readsAll 2 (some .int), Cond.fieldLink RX9 204 "EarlyValuesModel" "readAt" "I", Cond.fieldLink RX9 213 "EarlyValuesModel" "readMany" "I", Cond.fieldLink RX9 201 "EarlyValuesModel" "size" "I", Cond.methodLink RX9 226 yX9_readsItem, Cond.instanceMethod yX9_readsItem, Cond.selects RX9 yX9_readsItem yX9_readsItem, Cond.code yX9_readsItem cX9_readsItem 3 (some .boolean), Cond.methodLink RX9 207 yX9_here]
def wsX9_fault_r2 : List Cond := [Cond.instanceMethod yX9_here, Cond.selects RX9 yX9_here yX9_here, Cond.code yX9_here cX9_here 1 (some .int), Cond.fieldLink RX9 43 "EarlyValuesModel" "text" "[I", Cond.methodLink RX9 219 yX9_readsNumbers, Cond.instanceMethod yX9_readsNumbers, Cond.selects RX9 yX9_readsNumbers yX9_readsNumbers, Cond.code yX9_readsNumbers cX9_readsNumbers 1 (some .boolean), Cond.methodLink RX9 61 yX9_in, Cond.static yX9_in, Cond.code yX9_in cX9_in 3 (some .boolean), Cond.methodLink RX9 210 yX9_reads, Cond.instanceMethod yX9_reads, Cond.selects RX9 yX9_reads yX9_reads, Cond.code yX9_reads cX9_reads 2 (some .boolean), Cond.methodLink RX9 223 yX9_readsFunction, Cond.instanceMethod yX9_readsFunction, Cond.selects RX9 yX9_readsFunction yX9_readsFunction, Cond.code yX9_readsFunction cX9_readsFunction 1 (some .boolean), Cond.methodLink RX9 216 yX9_readsBody, Cond.instanceMethod yX9_readsBody, Cond.selects RX9 yX9_readsBody yX9_readsBody, Cond.code yX9_readsBody cX9_readsBody 5 (some .boolean), Cond.methodLink RX9 89 yX9_partsOf]
def wsX9_fault_r3 : List Cond := [Cond.instanceMethod yX9_partsOf, Cond.selects RX9 yX9_partsOf yX9_partsOf, Cond.code yX9_partsOf cX9_partsOf 3 (some .int), Cond.methodLink RX9 145 yX9_takes, Cond.instanceMethod yX9_takes, Cond.selects RX9 yX9_takes yX9_takes, Cond.code yX9_takes cX9_takes 4 none]
def wsX9_fault : List Cond := .code yX9_fault cX9_fault 3 (some .int) :: ((wsX9_fault_r1 ++ (wsX9_fault_r2 ++ wsX9_fault_r3)) ++ wsX90)
def wsX9_lay_r1 : List Cond := [Cond.fieldLink RX9 46 "EarlyValuesModel" "before" "[I", Cond.fieldLink RX9 121 "EarlyValuesModel" "isKnown" "Z", Cond.fieldLink RX9 49 "EarlyValuesModel" "many" "I", Cond.fieldLink RX9 213 "EarlyValuesModel" "readMany" "I", Cond.fieldLink RX9 132 "EarlyValuesModel" "undoMany" "I", Cond.fieldLink RX9 148 "EarlyValuesModel" "savedMany" "I", Cond.methodLink RX9 135 yX9_lays, Cond.instanceMethod yX9_lays, Cond.selects RX9 yX9_lays yX9_lays, Cond.initialized RX9, Cond.code yX9_lays cX9_lays 4 none, Cond.fieldLink RX9 7 "EarlyValuesModel" "argsOf" "[I", Cond.fieldLink RX9 13 "EarlyValuesModel" "kindOf" "[I", Cond.fieldLink RX9 16 "EarlyValuesModel" "longOf" "[I", Cond.fieldLink RX9 19 "EarlyValuesModel" "body" "[I", Cond.methodLink RX9 230 yX9_readsAll, Cond.instanceMethod yX9_readsAll, Cond.selects RX9 yX9_readsAll yX9_readsAll, Cond.code yX9_readsAll cX9_readsAll 2 (some .int), Cond.fieldLink RX9 204 "EarlyValuesModel" "readAt" "I", Cond.fieldLink RX9 201 "EarlyValuesModel" "size" "I", Cond.methodLink RX9 226 yX9_readsItem, Cond.instanceMethod yX9_readsItem, Cond.selects RX9 yX9_readsItem yX9_readsItem]
def wsX9_lay_r2 : List Cond := [Cond.code yX9_readsItem cX9_readsItem 3 (some .boolean), Cond.methodLink RX9 207 yX9_here, Cond.instanceMethod yX9_here, Cond.selects RX9 yX9_here yX9_here, Cond.code yX9_here cX9_here 1 (some .int), Cond.fieldLink RX9 43 "EarlyValuesModel" "text" "[I", Cond.methodLink RX9 219 yX9_readsNumbers, Cond.instanceMethod yX9_readsNumbers, Cond.selects RX9 yX9_readsNumbers yX9_readsNumbers, Cond.code yX9_readsNumbers cX9_readsNumbers 1 (some .boolean), Cond.methodLink RX9 61 yX9_in, Cond.static yX9_in, Cond.code yX9_in cX9_in 3 (some .boolean), Cond.methodLink RX9 210 yX9_reads, Cond.instanceMethod yX9_reads, Cond.selects RX9 yX9_reads yX9_reads, Cond.code yX9_reads cX9_reads 2 (some .boolean), Cond.methodLink RX9 223 yX9_readsFunction, Cond.instanceMethod yX9_readsFunction, Cond.selects RX9 yX9_readsFunction yX9_readsFunction, Cond.code yX9_readsFunction cX9_readsFunction 1 (some .boolean), Cond.methodLink RX9 216 yX9_readsBody, Cond.instanceMethod yX9_readsBody, Cond.selects RX9 yX9_readsBody yX9_readsBody]
def wsX9_lay_r3 : List Cond := [Cond.code yX9_readsBody cX9_readsBody 5 (some .boolean), Cond.methodLink RX9 89 yX9_partsOf, Cond.instanceMethod yX9_partsOf, Cond.selects RX9 yX9_partsOf yX9_partsOf, Cond.code yX9_partsOf cX9_partsOf 3 (some .int), Cond.methodLink RX9 145 yX9_takes, Cond.instanceMethod yX9_takes, Cond.selects RX9 yX9_takes yX9_takes, Cond.code yX9_takes cX9_takes 4 none]
def wsX9_lay : List Cond := .code yX9_lay cX9_lay 2 (some .int) :: ((wsX9_lay_r1 ++ (wsX9_lay_r2 ++ wsX9_lay_r3)) ++ wsX90)
def wsJ9_max_7cf53 : List Cond := .code yJ9_max_7cf53 cJ9_max_7cf53 2 (some .int) :: ([])
def wsJ9_min_7cf53 : List Cond := .code yJ9_min_7cf53 cJ9_min_7cf53 2 (some .int) :: ([])
def wsL_law_r1 : List Cond := [Cond.classLink RL 7 RX8, Cond.instantiable RX8 11, Cond.initialized RX8, Cond.classLink RL 10 RX9, Cond.instantiable RX9 20, Cond.initialized RX9, Cond.methodLink RL 9 yX8_init, Cond.instanceMethod yX8_init, Cond.code yX8_init cX8_init 2 none, Cond.methodLink RX8 1 objectInit, Cond.instanceMethod objectInit, Cond.code objectInit ⟨#[0xb1]⟩ 1 none, Cond.classLink RX8 7 RX5, Cond.instantiable RX5 5, Cond.initialized RX5, Cond.fieldLink RX8 10 "EarlyValues" "text" "LEarlyValues$Text;", Cond.classLink RX8 16 RX3, Cond.instantiable RX3 5, Cond.initialized RX3, Cond.fieldLink RX8 19 "EarlyValues" "now" "LEarlyValues$Program;", Cond.fieldLink RX8 23 "EarlyValues" "trial" "LEarlyValues$Program;", Cond.fieldLink RX8 26 "EarlyValues" "kept" "[LEarlyValues$Program;", Cond.classLink RX8 30 RX1, Cond.instantiable RX1 4]
def wsL_law_r2 : List Cond := [Cond.initialized RX1, Cond.fieldLink RX8 33 "EarlyValues" "history" "LEarlyValues$History;", Cond.classLink RX8 37 RX6, Cond.instantiable RX6 13, Cond.initialized RX6, Cond.fieldLink RX8 40 "EarlyValues" "values" "LEarlyValues$View;", Cond.classLink RX8 44 RX4, Cond.instantiable RX4 13, Cond.initialized RX4, Cond.fieldLink RX8 47 "EarlyValues" "roughly" "LEarlyValues$View;", Cond.classLink RX8 50 RX0, Cond.instantiable RX0 13, Cond.initialized RX0, Cond.fieldLink RX8 53 "EarlyValues" "finely" "LEarlyValues$View;", Cond.fieldLink RX8 56 "EarlyValues" "trialValues" "LEarlyValues$View;", Cond.fieldLink RX8 59 "EarlyValues" "trialFinely" "LEarlyValues$View;", Cond.methodLink RX8 9 yX5_init, Cond.instanceMethod yX5_init, Cond.code yX5_init cX5_init 1 none, Cond.methodLink RX5 3 objectInit, Cond.classLink RX5 9 RX3, Cond.fieldLink RX5 12 "EarlyValues$Text" "told" "LEarlyValues$Program;", Cond.arrayClass .char, Cond.fieldLink RX5 18 "EarlyValues$Text" "signs" "[C"]
def wsL_law_r3 : List Cond := [Cond.methodLink RX5 11 yX3_init, Cond.instanceMethod yX3_init, Cond.code yX3_init cX3_init 1 none, Cond.methodLink RX3 1 objectInit, Cond.arrayClass .int, Cond.fieldLink RX3 9 "EarlyValues$Program" "arguments" "[I", Cond.fieldLink RX3 13 "EarlyValues$Program" "kinds" "[I", Cond.fieldLink RX3 16 "EarlyValues$Program" "lengths" "[I", Cond.classLink RX3 19 "[[I", Cond.fieldLink RX3 21 "EarlyValues$Program" "bodies" "[[I", Cond.methodLink RX8 18 yX3_init, Cond.methodLink RX8 32 yX1_init, Cond.instanceMethod yX1_init, Cond.code yX1_init cX1_init 1 none, Cond.methodLink RX1 1 objectInit, Cond.fieldLink RX1 9 "EarlyValues$History" "functions" "[I", Cond.fieldLink RX1 13 "EarlyValues$History" "places" "[I", Cond.fieldLink RX1 16 "EarlyValues$History" "befores" "[I", Cond.methodLink RX8 39 yX6_init, Cond.instanceMethod yX6_init, Cond.code yX6_init cX6_init 1 none, Cond.methodLink RX6 3 yX7_init, Cond.instanceMethod yX7_init, Cond.initialized RX7]
def wsL_law_r4 : List Cond := [Cond.code yX7_init cX7_init 7 none, Cond.methodLink RX7 1 objectInit, Cond.fieldLink RX7 9 "EarlyValues$View" "powers" "[I", Cond.fieldLink RX7 15 "EarlyValues$View" "given" "[I", Cond.fieldLink RX7 18 "EarlyValues$View" "stack" "[I", Cond.fieldLink RX7 21 "EarlyValues$View" "base" "I", Cond.fieldLink RX7 25 "EarlyValues$View" "never" "I", Cond.fieldLink RX7 28 "EarlyValues$View" "zero" "I", Cond.fieldLink RX7 31 "EarlyValues$View" "one" "I", Cond.classLink RX7 34 "[[I", Cond.fieldLink RX7 36 "EarlyValues$View" "digits" "[[I", Cond.classLink RX7 43 "[[B", Cond.arrayClass .byte, Cond.fieldLink RX7 45 "EarlyValues$View" "known" "[[B", Cond.fieldLink RX7 48 "EarlyValues$View" "coming" "[[B", Cond.methodLink RX7 39 ⟨"EarlyValues$View", "countUp", "(I)V"⟩, Cond.sameMethod "EarlyValues$View" "EarlyValues$View" "countUp" "(I)V", Cond.selects RX0 ⟨"EarlyValues$View", "countUp", "(I)V"⟩ yX7_countUp, Cond.instanceMethod yX7_countUp, Cond.code yX7_countUp cX7_countUp 5 none, Cond.selects RX4 ⟨"EarlyValues$View", "countUp", "(I)V"⟩ yX7_countUp, Cond.selects RX6 ⟨"EarlyValues$View", "countUp", "(I)V"⟩ yX7_countUp, Cond.methodLink RX8 46 yX4_init, Cond.instanceMethod yX4_init]
def wsL_law_r5 : List Cond := [Cond.code yX4_init cX4_init 1 none, Cond.methodLink RX4 1 yX7_init, Cond.methodLink RX8 52 yX0_init, Cond.instanceMethod yX0_init, Cond.code yX0_init cX0_init 1 none, Cond.methodLink RX0 3 yX7_init, Cond.methodLink RX8 62 yX8_layStart, Cond.instanceMethod yX8_layStart, Cond.selects RX8 yX8_layStart yX8_layStart, Cond.code yX8_layStart cX8_layStart 2 none, Cond.fieldLink RX8 84 "EarlyValues$Text" "told" "LEarlyValues$Program;", Cond.methodLink RX8 67 yJ0_length_8abf5, Cond.instanceMethod yJ0_length_8abf5, Cond.selects RJ0 yJ0_length_8abf5 yJ0_length_8abf5, Cond.initialized RJ0, Cond.code yJ0_length_8abf5 cJ0_length_8abf5 1 (some .int), Cond.fieldLink RJ0 9 "java/lang/String" "value" "[B", Cond.methodLink RJ0 335 yJ0_coder_7d493, Cond.instanceMethod yJ0_coder_7d493, Cond.selects RJ0 yJ0_coder_7d493 yJ0_coder_7d493, Cond.code yJ0_coder_7d493 cJ0_coder_7d493 1 (some .byte), Cond.fieldLink RJ0 38 "java/lang/String" "COMPACT_STRINGS" "Z", Cond.fieldLink RJ0 15 "java/lang/String" "coder" "B", Cond.methodLink RX8 73 yJ0_charAt_5068e]
def wsL_law_r6 : List Cond := [Cond.instanceMethod yJ0_charAt_5068e, Cond.selects RJ0 yJ0_charAt_5068e yJ0_charAt_5068e, Cond.code yJ0_charAt_5068e cJ0_charAt_5068e 2 (some .char), Cond.methodLink RJ0 492 yJ0_isLatin1_aae02, Cond.instanceMethod yJ0_isLatin1_aae02, Cond.selects RJ0 yJ0_isLatin1_aae02 yJ0_isLatin1_aae02, Cond.code yJ0_isLatin1_aae02 cJ0_isLatin1_aae02 1 (some .boolean), Cond.methodLink RJ0 495 yJ1_charAt_3b067, Cond.static yJ1_charAt_3b067, Cond.initialized RJ1, Cond.code yJ1_charAt_3b067 cJ1_charAt_3b067 2 (some .char), Cond.methodLink RJ1 9 yJ0_checkIndex_df160, Cond.static yJ0_checkIndex_df160, Cond.code yJ0_checkIndex_df160 cJ0_checkIndex_df160 2 none, Cond.fieldLink RJ0 1053 "jdk/internal/util/Preconditions" "SIOOBE_FORMATTER" "Ljava/util/function/BiFunction;", Cond.methodLink RJ0 1059 yJ3_checkIndex_8e157, Cond.static yJ3_checkIndex_8e157, Cond.initialized RJ3, Cond.code yJ3_checkIndex_8e157 cJ3_checkIndex_8e157 3 (some .int), Cond.methodLink RJ0 498 yJ2_charAt_3b067, Cond.static yJ2_charAt_3b067, Cond.initialized RJ2, Cond.code yJ2_charAt_3b067 cJ2_charAt_3b067 2 (some .char), Cond.methodLink RJ2 67 yJ2_checkIndex_2214a]
def wsL_law_r7 : List Cond := [Cond.static yJ2_checkIndex_2214a, Cond.code yJ2_checkIndex_2214a cJ2_checkIndex_2214a 2 none, Cond.methodLink RJ2 48 yJ2_length_9d52b, Cond.static yJ2_length_9d52b, Cond.code yJ2_length_9d52b cJ2_length_9d52b 1 (some .int), Cond.methodLink RJ2 414 yJ0_checkIndex_df160, Cond.methodLink RJ2 71 yJ2_getChar_3b067, Cond.static yJ2_getChar_3b067, Cond.code yJ2_getChar_3b067 cJ2_getChar_3b067 2 (some .char), Cond.fieldLink RJ2 44 "java/lang/StringUTF16" "$assertionsDisabled" "Z", Cond.fieldLink RJ2 59 "java/lang/StringUTF16" "HI_BYTE_SHIFT" "I", Cond.fieldLink RJ2 63 "java/lang/StringUTF16" "LO_BYTE_SHIFT" "I", Cond.methodLink RX8 77 yX5_add, Cond.instanceMethod yX5_add, Cond.selects RX5 yX5_add yX5_add, Cond.code yX5_add cX5_add 2 none, Cond.fieldLink RX5 22 "EarlyValues$Text" "length" "I", Cond.methodLink RX8 81 yX5_read, Cond.instanceMethod yX5_read, Cond.selects RX5 yX5_read yX5_read, Cond.code yX5_read cX5_read 3 (some .int), Cond.fieldLink RX5 26 "EarlyValues$Text" "at" "I", Cond.fieldLink RX5 29 "EarlyValues$Text" "bodies" "I", Cond.fieldLink RX5 32 "EarlyValues$Program" "functions" "I"]
def wsL_law_r8 : List Cond := [Cond.methodLink RX5 35 yX5_readItem, Cond.instanceMethod yX5_readItem, Cond.selects RX5 yX5_readItem yX5_readItem, Cond.code yX5_readItem cX5_readItem 2 (some .boolean), Cond.methodLink RX5 39 yX5_next, Cond.instanceMethod yX5_next, Cond.selects RX5 yX5_next yX5_next, Cond.code yX5_next cX5_next 2 (some .char), Cond.methodLink RX5 43 yX5_readArguments, Cond.instanceMethod yX5_readArguments, Cond.selects RX5 yX5_readArguments yX5_readArguments, Cond.code yX5_readArguments cX5_readArguments 3 (some .boolean), Cond.fieldLink RX5 49 "EarlyValues$Program" "arguments" "[I", Cond.methodLink RX5 46 yX5_readFunction, Cond.instanceMethod yX5_readFunction, Cond.selects RX5 yX5_readFunction yX5_readFunction, Cond.code yX5_readFunction cX5_readFunction 2 (some .boolean), Cond.fieldLink RX5 57 "EarlyValues$Program" "kinds" "[I", Cond.methodLink RX5 53 yX3_has, Cond.instanceMethod yX3_has, Cond.selects RX3 yX3_has yX3_has, Cond.code yX3_has cX3_has 2 (some .boolean), Cond.fieldLink RX3 24 "EarlyValues$Program" "functions" "I", Cond.methodLink RX5 60 yX5_readBody]
def wsL_law_r9 : List Cond := [Cond.instanceMethod yX5_readBody, Cond.selects RX5 yX5_readBody yX5_readBody, Cond.code yX5_readBody cX5_readBody 4 (some .boolean), Cond.fieldLink RX5 73 "EarlyValues$Program" "bodies" "[[I", Cond.fieldLink RX5 79 "EarlyValues$Program" "lengths" "[I", Cond.methodLink RX5 63 yX2_numberOf, Cond.static yX2_numberOf, Cond.initialized RX2, Cond.code yX2_numberOf cX2_numberOf 1 (some .int), Cond.methodLink RX2 13 yJ0_indexOf_0f7a4, Cond.instanceMethod yJ0_indexOf_0f7a4, Cond.selects RJ0 yJ0_indexOf_0f7a4 yJ0_indexOf_0f7a4, Cond.code yJ0_indexOf_0f7a4 cJ0_indexOf_0f7a4 2 (some .int), Cond.methodLink RJ0 633 yJ0_indexOf_7cf53, Cond.instanceMethod yJ0_indexOf_7cf53, Cond.selects RJ0 yJ0_indexOf_7cf53 yJ0_indexOf_7cf53, Cond.code yJ0_indexOf_7cf53 cJ0_indexOf_7cf53 3 (some .int), Cond.methodLink RJ0 505 yJ0_length_8abf5, Cond.methodLink RJ0 637 yJ1_indexOf_4cfef, Cond.static yJ1_indexOf_4cfef, Cond.code yJ1_indexOf_4cfef cJ1_indexOf_4cfef 4 (some .int), Cond.methodLink RJ1 92 Lib.Math.max.name, Cond.static Lib.Math.max.name, Cond.initialized "java/lang/Math"]
def wsL_law_r10 : List Cond := [Cond.code Lib.Math.max.name Lib.Math.max.code 2 (some .int), Cond.methodLink RJ1 38 Lib.Math.min.name, Cond.static Lib.Math.min.name, Cond.code Lib.Math.min.name Lib.Math.min.code 2 (some .int), Cond.methodLink RJ1 88 yJ1_canEncode_9a6ad, Cond.static yJ1_canEncode_9a6ad, Cond.code yJ1_canEncode_9a6ad cJ1_canEncode_9a6ad 1 (some .boolean), Cond.methodLink RJ1 95 yJ1_indexOfChar_4cfef, Cond.static yJ1_indexOfChar_4cfef, Cond.code yJ1_indexOfChar_4cfef cJ1_indexOfChar_4cfef 6 (some .int), Cond.methodLink RJ0 640 yJ2_indexOf_4cfef, Cond.static yJ2_indexOf_4cfef, Cond.code yJ2_indexOf_4cfef cJ2_indexOf_4cfef 4 (some .int), Cond.methodLink RJ2 224 Lib.Math.max.name, Cond.methodLink RJ2 183 Lib.Math.min.name, Cond.constant RJ2 227 (65536), Cond.methodLink RJ2 228 yJ2_indexOfChar_4cfef, Cond.static yJ2_indexOfChar_4cfef, Cond.code yJ2_indexOfChar_4cfef cJ2_indexOfChar_4cfef 4 (some .int), Cond.methodLink RJ2 96 yJ2_checkBoundsBeginEnd_d044e, Cond.static yJ2_checkBoundsBeginEnd_d044e, Cond.code yJ2_checkBoundsBeginEnd_d044e cJ2_checkBoundsBeginEnd_d044e 3 none, Cond.methodLink RJ2 241 yJ0_checkBoundsBeginEnd_23922, Cond.static yJ0_checkBoundsBeginEnd_23922]
def wsL_law_r11 : List Cond := [Cond.code yJ0_checkBoundsBeginEnd_23922 cJ0_checkBoundsBeginEnd_23922 3 none, Cond.methodLink RJ0 1062 yJ3_checkFromToIndex_8c36e, Cond.static yJ3_checkFromToIndex_8c36e, Cond.code yJ3_checkFromToIndex_8c36e cJ3_checkFromToIndex_8c36e 4 (some .int), Cond.methodLink RJ2 244 yJ2_indexOfCharUnsafe_4cfef, Cond.static yJ2_indexOfCharUnsafe_4cfef, Cond.code yJ2_indexOfCharUnsafe_4cfef cJ2_indexOfCharUnsafe_4cfef 5 (some .int), Cond.methodLink RJ2 232 yJ2_indexOfSupplementary_4cfef, Cond.static yJ2_indexOfSupplementary_4cfef, Cond.code yJ2_indexOfSupplementary_4cfef cJ2_indexOfSupplementary_4cfef 7 (some .int), Cond.methodLink RJ2 164 yJ11_isValidCodePoint_9a6ad, Cond.static yJ11_isValidCodePoint_9a6ad, Cond.initialized RJ11, Cond.code yJ11_isValidCodePoint_9a6ad cJ11_isValidCodePoint_9a6ad 2 (some .boolean), Cond.methodLink RJ2 157 yJ11_highSurrogate_5068e, Cond.static yJ11_highSurrogate_5068e, Cond.code yJ11_highSurrogate_5068e cJ11_highSurrogate_5068e 1 (some .char), Cond.constant RJ11 110 (55232), Cond.methodLink RJ2 161 yJ11_lowSurrogate_5068e, Cond.static yJ11_lowSurrogate_5068e, Cond.code yJ11_lowSurrogate_5068e cJ11_lowSurrogate_5068e 1 (some .char), Cond.constant RJ11 76 (56320), Cond.methodLink RX5 69 yX3_mayStand, Cond.instanceMethod yX3_mayStand]
def wsL_law_r12 : List Cond := [Cond.selects RX3 yX3_mayStand yX3_mayStand, Cond.code yX3_mayStand cX3_mayStand 3 (some .boolean), Cond.methodLink RX3 34 yX3_has, Cond.methodLink RX5 76 yX3_partsOf, Cond.instanceMethod yX3_partsOf, Cond.selects RX3 yX3_partsOf yX3_partsOf, Cond.code yX3_partsOf cX3_partsOf 2 (some .int), Cond.methodLink RX8 87 yX3_takeFrom, Cond.instanceMethod yX3_takeFrom, Cond.selects RX3 yX3_takeFrom yX3_takeFrom, Cond.code yX3_takeFrom cX3_takeFrom 3 none, Cond.methodLink RX3 28 arraycopyName, Cond.native arraycopyName, Cond.static arraycopyName, Cond.initialized "java/lang/System", Cond.methodLink RX8 91 yX5_clear, Cond.instanceMethod yX5_clear, Cond.selects RX5 yX5_clear yX5_clear, Cond.code yX5_clear cX5_clear 1 none, Cond.methodLink RL 12 yX9_init, Cond.instanceMethod yX9_init, Cond.code yX9_init cX9_init 1 none, Cond.methodLink RX9 1 objectInit, Cond.fieldLink RX9 7 "EarlyValuesModel" "argsOf" "[I"]
def wsL_law_r13 : List Cond := [Cond.fieldLink RX9 13 "EarlyValuesModel" "kindOf" "[I", Cond.fieldLink RX9 16 "EarlyValuesModel" "longOf" "[I", Cond.fieldLink RX9 19 "EarlyValuesModel" "body" "[I", Cond.fieldLink RX9 22 "EarlyValuesModel" "table" "[I", Cond.fieldLink RX9 25 "EarlyValuesModel" "then" "[I", Cond.fieldLink RX9 28 "EarlyValuesModel" "roundsOf" "[I", Cond.fieldLink RX9 31 "EarlyValuesModel" "parts" "[I", Cond.fieldLink RX9 34 "EarlyValuesModel" "ahead" "[I", Cond.fieldLink RX9 37 "EarlyValuesModel" "saved" "[I", Cond.fieldLink RX9 40 "EarlyValuesModel" "aside" "[I", Cond.fieldLink RX9 43 "EarlyValuesModel" "text" "[I", Cond.fieldLink RX9 46 "EarlyValuesModel" "before" "[I", Cond.fieldLink RX9 49 "EarlyValuesModel" "many" "I", Cond.methodLink RX9 53 yX9_begins, Cond.instanceMethod yX9_begins, Cond.selects RX9 yX9_begins yX9_begins, Cond.code yX9_begins cX9_begins 6 none, Cond.methodLink RX9 57 yX9_begin, Cond.instanceMethod yX9_begin, Cond.selects RX9 yX9_begin yX9_begin, Cond.code yX9_begin cX9_begin 3 none, Cond.methodLink RL 13 yX8_write, Cond.instanceMethod yX8_write, Cond.selects RX8 yX8_write yX8_write]
def wsL_law_r14 : List Cond := [Cond.code yX8_write cX8_write 2 (some .int), Cond.fieldLink RX8 94 "EarlyValues$Text" "length" "I", Cond.methodLink RL 17 yX9_write, Cond.instanceMethod yX9_write, Cond.selects RX9 yX9_write yX9_write, Cond.code yX9_write cX9_write 2 (some .int), Cond.fieldLink RX9 201 "EarlyValuesModel" "size" "I", Cond.methodLink RX9 61 yX9_in, Cond.static yX9_in, Cond.code yX9_in cX9_in 3 (some .boolean), Cond.methodLink RL 18 yX8_wipe, Cond.instanceMethod yX8_wipe, Cond.selects RX8 yX8_wipe yX8_wipe, Cond.code yX8_wipe cX8_wipe 2 (some .int), Cond.methodLink RL 22 yX9_wipe, Cond.instanceMethod yX9_wipe, Cond.selects RX9 yX9_wipe yX9_wipe, Cond.code yX9_wipe cX9_wipe 2 (some .int), Cond.methodLink RL 23 yX8_fault, Cond.instanceMethod yX8_fault, Cond.selects RX8 yX8_fault yX8_fault, Cond.code yX8_fault cX8_fault 1 (some .int), Cond.methodLink RL 26 yX9_fault, Cond.instanceMethod yX9_fault]
def wsL_law_r15 : List Cond := [Cond.selects RX9 yX9_fault yX9_fault, Cond.code yX9_fault cX9_fault 3 (some .int), Cond.fieldLink RX9 121 "EarlyValuesModel" "isKnown" "Z", Cond.methodLink RX9 135 yX9_lays, Cond.instanceMethod yX9_lays, Cond.selects RX9 yX9_lays yX9_lays, Cond.code yX9_lays cX9_lays 4 none, Cond.methodLink RX9 230 yX9_readsAll, Cond.instanceMethod yX9_readsAll, Cond.selects RX9 yX9_readsAll yX9_readsAll, Cond.code yX9_readsAll cX9_readsAll 2 (some .int), Cond.fieldLink RX9 204 "EarlyValuesModel" "readAt" "I", Cond.fieldLink RX9 213 "EarlyValuesModel" "readMany" "I", Cond.methodLink RX9 226 yX9_readsItem, Cond.instanceMethod yX9_readsItem, Cond.selects RX9 yX9_readsItem yX9_readsItem, Cond.code yX9_readsItem cX9_readsItem 3 (some .boolean), Cond.methodLink RX9 207 yX9_here, Cond.instanceMethod yX9_here, Cond.selects RX9 yX9_here yX9_here, Cond.code yX9_here cX9_here 1 (some .int), Cond.methodLink RX9 219 yX9_readsNumbers, Cond.instanceMethod yX9_readsNumbers, Cond.selects RX9 yX9_readsNumbers yX9_readsNumbers]
def wsL_law_r16 : List Cond := [Cond.code yX9_readsNumbers cX9_readsNumbers 1 (some .boolean), Cond.methodLink RX9 210 yX9_reads, Cond.instanceMethod yX9_reads, Cond.selects RX9 yX9_reads yX9_reads, Cond.code yX9_reads cX9_reads 2 (some .boolean), Cond.methodLink RX9 223 yX9_readsFunction, Cond.instanceMethod yX9_readsFunction, Cond.selects RX9 yX9_readsFunction yX9_readsFunction, Cond.code yX9_readsFunction cX9_readsFunction 1 (some .boolean), Cond.methodLink RX9 216 yX9_readsBody, Cond.instanceMethod yX9_readsBody, Cond.selects RX9 yX9_readsBody yX9_readsBody, Cond.code yX9_readsBody cX9_readsBody 5 (some .boolean), Cond.methodLink RX9 89 yX9_partsOf, Cond.instanceMethod yX9_partsOf, Cond.selects RX9 yX9_partsOf yX9_partsOf, Cond.code yX9_partsOf cX9_partsOf 3 (some .int), Cond.methodLink RX9 145 yX9_takes, Cond.instanceMethod yX9_takes, Cond.selects RX9 yX9_takes yX9_takes, Cond.code yX9_takes cX9_takes 4 none, Cond.methodLink RL 27 yX8_lay, Cond.instanceMethod yX8_lay, Cond.selects RX8 yX8_lay yX8_lay]
def wsL_law_r17 : List Cond := [Cond.code yX8_lay cX8_lay 1 (some .int), Cond.fieldLink RX8 102 "EarlyValues" "keptCount" "I", Cond.fieldLink RX8 108 "EarlyValues$Program" "functions" "I", Cond.methodLink RX8 97 yX5_toldAll, Cond.instanceMethod yX5_toldAll, Cond.selects RX5 yX5_toldAll yX5_toldAll, Cond.code yX5_toldAll cX5_toldAll 1 (some .boolean), Cond.methodLink RX8 101 yX1_clear, Cond.instanceMethod yX1_clear, Cond.selects RX1 yX1_clear yX1_clear, Cond.code yX1_clear cX1_clear 1 none, Cond.fieldLink RX1 19 "EarlyValues$History" "count" "I", Cond.methodLink RX8 105 yX8_forgetViews, Cond.instanceMethod yX8_forgetViews, Cond.selects RX8 yX8_forgetViews yX8_forgetViews, Cond.code yX8_forgetViews cX8_forgetViews 1 none, Cond.fieldLink RX8 222 "EarlyValues$View" "fresh" "Z", Cond.methodLink RL 30 yX9_lay, Cond.instanceMethod yX9_lay, Cond.selects RX9 yX9_lay yX9_lay, Cond.code yX9_lay cX9_lay 2 (some .int), Cond.fieldLink RX9 132 "EarlyValuesModel" "undoMany" "I", Cond.fieldLink RX9 148 "EarlyValuesModel" "savedMany" "I", Cond.methodLink RL 31 yX8_function]
def wsL_law_r18 : List Cond := [Cond.instanceMethod yX8_function, Cond.selects RX8 yX8_function yX8_function, Cond.code yX8_function cX8_function 3 (some .int), Cond.fieldLink RX8 115 "EarlyValues$Program" "kinds" "[I", Cond.fieldLink RX8 119 "EarlyValues$Program" "arguments" "[I", Cond.fieldLink RX8 122 "EarlyValues$Program" "lengths" "[I", Cond.methodLink RX8 111 yX3_has, Cond.methodLink RL 35 yX9_function, Cond.instanceMethod yX9_function, Cond.selects RX9 yX9_function yX9_function, Cond.code yX9_function cX9_function 3 (some .int), Cond.methodLink RX9 129 yX9_isFunction, Cond.instanceMethod yX9_isFunction, Cond.selects RX9 yX9_isFunction yX9_isFunction, Cond.code yX9_isFunction cX9_isFunction 2 (some .boolean), Cond.methodLink RL 36 yX8_letter, Cond.instanceMethod yX8_letter, Cond.selects RX8 yX8_letter yX8_letter, Cond.code yX8_letter cX8_letter 3 (some .int), Cond.fieldLink RX8 129 "EarlyValues$Program" "bodies" "[[I", Cond.methodLink RX8 125 yX3_hasPlace, Cond.instanceMethod yX3_hasPlace, Cond.selects RX3 yX3_hasPlace yX3_hasPlace, Cond.code yX3_hasPlace cX3_hasPlace 3 (some .boolean)]
def wsL_law_r19 : List Cond := [Cond.methodLink RX8 133 yX2_signOf, Cond.static yX2_signOf, Cond.code yX2_signOf cX2_signOf 1 (some .int), Cond.methodLink RX2 19 yJ0_charAt_5068e, Cond.methodLink RL 39 yX9_letter, Cond.instanceMethod yX9_letter, Cond.selects RX9 yX9_letter yX9_letter, Cond.code yX9_letter cX9_letter 3 (some .int), Cond.methodLink RL 40 yX8_put, Cond.instanceMethod yX8_put, Cond.selects RX8 yX8_put yX8_put, Cond.code yX8_put cX8_put 6 (some .int), Cond.methodLink RX8 139 yX2_numberOf, Cond.methodLink RX8 142 yX3_fits, Cond.instanceMethod yX3_fits, Cond.selects RX3 yX3_fits yX3_fits, Cond.code yX3_fits cX3_fits 4 (some .boolean), Cond.methodLink RX3 40 yX3_hasPlace, Cond.methodLink RX3 44 yX3_mayStand, Cond.methodLink RX3 47 yX3_partsOf, Cond.methodLink RX8 146 yX1_add, Cond.instanceMethod yX1_add, Cond.selects RX1 yX1_add yX1_add, Cond.code yX1_add cX1_add 4 none]
def wsL_law_r20 : List Cond := [Cond.methodLink RX1 23 arraycopyName, Cond.methodLink RL 44 yX9_put, Cond.instanceMethod yX9_put, Cond.selects RX9 yX9_put yX9_put, Cond.code yX9_put cX9_put 5 (some .int), Cond.methodLink RX9 139 yX9_mayStand, Cond.instanceMethod yX9_mayStand, Cond.selects RX9 yX9_mayStand yX9_mayStand, Cond.code yX9_mayStand cX9_mayStand 5 (some .boolean), Cond.methodLink RX9 142 yX9_notes, Cond.instanceMethod yX9_notes, Cond.selects RX9 yX9_notes yX9_notes, Cond.code yX9_notes cX9_notes 2 none, Cond.methodLink RL 45 yX8_rename, Cond.instanceMethod yX8_rename, Cond.selects RX8 yX8_rename yX8_rename, Cond.code yX8_rename cX8_rename 4 (some .int), Cond.methodLink RL 48 yX9_rename, Cond.instanceMethod yX9_rename, Cond.selects RX9 yX9_rename yX9_rename, Cond.code yX9_rename cX9_rename 4 (some .int), Cond.methodLink RL 49 yX8_undo, Cond.instanceMethod yX8_undo, Cond.selects RX8 yX8_undo yX8_undo]
def wsL_law_r21 : List Cond := [Cond.code yX8_undo cX8_undo 1 (some .int), Cond.fieldLink RX8 149 "EarlyValues$History" "count" "I", Cond.methodLink RX8 152 yX1_takeBack, Cond.instanceMethod yX1_takeBack, Cond.selects RX1 yX1_takeBack yX1_takeBack, Cond.code yX1_takeBack cX1_takeBack 4 none, Cond.fieldLink RX1 35 "EarlyValues$Program" "kinds" "[I", Cond.fieldLink RX1 42 "EarlyValues$Program" "bodies" "[[I", Cond.methodLink RX1 29 yX3_has, Cond.methodLink RX1 38 yX3_hasPlace, Cond.methodLink RL 52 yX9_undo, Cond.instanceMethod yX9_undo, Cond.selects RX9 yX9_undo yX9_undo, Cond.code yX9_undo cX9_undo 1 (some .int), Cond.methodLink RL 53 yX8_value, Cond.instanceMethod yX8_value, Cond.selects RX8 yX8_value yX8_value, Cond.code yX8_value cX8_value 6 (some .int), Cond.methodLink RX8 155 ⟨"EarlyValues$View", "rowOf", "(LEarlyValues$Program;IIII)I"⟩, Cond.sameMethod "EarlyValues$View" "EarlyValues$View" "rowOf" "(LEarlyValues$Program;IIII)I", Cond.selects RX0 ⟨"EarlyValues$View", "rowOf", "(LEarlyValues$Program;IIII)I"⟩ yX7_rowOf, Cond.instanceMethod yX7_rowOf, Cond.code yX7_rowOf cX7_rowOf 7 (some .int), Cond.methodLink RX7 51 yX3_has]
def wsL_law_r22 : List Cond := [Cond.methodLink RX7 58 ⟨"EarlyValues$View", "isDigit", "(I)Z"⟩, Cond.sameMethod "EarlyValues$View" "EarlyValues$View" "isDigit" "(I)Z", Cond.selects RX0 ⟨"EarlyValues$View", "isDigit", "(I)Z"⟩ yX7_isDigit, Cond.instanceMethod yX7_isDigit, Cond.code yX7_isDigit cX7_isDigit 2 (some .boolean), Cond.selects RX4 ⟨"EarlyValues$View", "isDigit", "(I)Z"⟩ yX7_isDigit, Cond.selects RX6 ⟨"EarlyValues$View", "isDigit", "(I)Z"⟩ yX7_isDigit, Cond.methodLink RX7 61 ⟨"EarlyValues$View", "rowsOf", "(LEarlyValues$Program;I)I"⟩, Cond.sameMethod "EarlyValues$View" "EarlyValues$View" "rowsOf" "(LEarlyValues$Program;I)I", Cond.selects RX0 ⟨"EarlyValues$View", "rowsOf", "(LEarlyValues$Program;I)I"⟩ yX7_rowsOf, Cond.instanceMethod yX7_rowsOf, Cond.code yX7_rowsOf cX7_rowsOf 3 (some .int), Cond.fieldLink RX7 55 "EarlyValues$Program" "arguments" "[I", Cond.selects RX4 ⟨"EarlyValues$View", "rowsOf", "(LEarlyValues$Program;I)I"⟩ yX7_rowsOf, Cond.selects RX6 ⟨"EarlyValues$View", "rowsOf", "(LEarlyValues$Program;I)I"⟩ yX7_rowsOf, Cond.selects RX4 ⟨"EarlyValues$View", "rowOf", "(LEarlyValues$Program;IIII)I"⟩ yX7_rowOf, Cond.selects RX6 ⟨"EarlyValues$View", "rowOf", "(LEarlyValues$Program;IIII)I"⟩ yX7_rowOf, Cond.methodLink RX8 161 yX8_solved, Cond.instanceMethod yX8_solved, Cond.selects RX8 yX8_solved yX8_solved, Cond.code yX8_solved cX8_solved 2 (some (.object "EarlyValues$View")), Cond.methodLink RX8 212 ⟨"EarlyValues$View", "solve", "(LEarlyValues$Program;)V"⟩, Cond.sameMethod "EarlyValues$View" "EarlyValues$View" "solve" "(LEarlyValues$Program;)V", Cond.selects RX0 ⟨"EarlyValues$View", "solve", "(LEarlyValues$Program;)V"⟩ yX7_solve]
def wsL_law_r23 : List Cond := [Cond.instanceMethod yX7_solve, Cond.code yX7_solve cX7_solve 4 none, Cond.fieldLink RX7 68 "EarlyValues$View" "taken" "I", Cond.fieldLink RX7 75 "EarlyValues$View" "fresh" "Z", Cond.methodLink RX7 65 ⟨"EarlyValues$View", "begin", "()V"⟩, Cond.sameMethod "EarlyValues$View" "EarlyValues$View" "begin" "()V", Cond.selects RX0 ⟨"EarlyValues$View", "begin", "()V"⟩ yX7_begin, Cond.instanceMethod yX7_begin, Cond.code yX7_begin cX7_begin 2 none, Cond.methodLink RX7 87 yJ7_fill_031fb, Cond.static yJ7_fill_031fb, Cond.initialized RJ7, Cond.code yJ7_fill_031fb cJ7_fill_031fb 4 none, Cond.selects RX4 ⟨"EarlyValues$View", "begin", "()V"⟩ yX7_begin, Cond.selects RX6 ⟨"EarlyValues$View", "begin", "()V"⟩ yX7_begin, Cond.methodLink RX7 71 ⟨"EarlyValues$View", "advance", "(LEarlyValues$Program;)Z"⟩, Cond.sameMethod "EarlyValues$View" "EarlyValues$View" "advance" "(LEarlyValues$Program;)Z", Cond.selects RX0 ⟨"EarlyValues$View", "advance", "(LEarlyValues$Program;)Z"⟩ yX7_advance, Cond.instanceMethod yX7_advance, Cond.code yX7_advance cX7_advance 7 (some .boolean), Cond.fieldLink RX7 93 "EarlyValues$Program" "functions" "I", Cond.methodLink RX7 83 ⟨"EarlyValues$View", "at", "(II)I"⟩, Cond.sameMethod "EarlyValues$View" "EarlyValues$View" "at" "(II)I", Cond.selects RX0 ⟨"EarlyValues$View", "at", "(II)I"⟩ yX7_at]
def wsL_law_r24 : List Cond := [Cond.instanceMethod yX7_at, Cond.code yX7_at cX7_at 4 (some .int), Cond.selects RX4 ⟨"EarlyValues$View", "at", "(II)I"⟩ yX7_at, Cond.selects RX6 ⟨"EarlyValues$View", "at", "(II)I"⟩ yX7_at, Cond.methodLink RX7 96 ⟨"EarlyValues$View", "mayGrow", "(I)Z"⟩, Cond.sameMethod "EarlyValues$View" "EarlyValues$View" "mayGrow" "(I)Z", Cond.selects RX0 ⟨"EarlyValues$View", "mayGrow", "(I)Z"⟩ yX0_mayGrow, Cond.instanceMethod yX0_mayGrow, Cond.code yX0_mayGrow cX0_mayGrow 2 (some .boolean), Cond.selects RX4 ⟨"EarlyValues$View", "mayGrow", "(I)Z"⟩ yX4_mayGrow, Cond.instanceMethod yX4_mayGrow, Cond.code yX4_mayGrow cX4_mayGrow 2 (some .boolean), Cond.selects RX6 ⟨"EarlyValues$View", "mayGrow", "(I)Z"⟩ yX6_mayGrow, Cond.instanceMethod yX6_mayGrow, Cond.code yX6_mayGrow cX6_mayGrow 2 (some .boolean), Cond.methodLink RX7 99 ⟨"EarlyValues$View", "handOver", "(LEarlyValues$Program;II)Z"⟩, Cond.sameMethod "EarlyValues$View" "EarlyValues$View" "handOver" "(LEarlyValues$Program;II)Z", Cond.selects RX0 ⟨"EarlyValues$View", "handOver", "(LEarlyValues$Program;II)Z"⟩ yX7_handOver, Cond.instanceMethod yX7_handOver, Cond.code yX7_handOver cX7_handOver 9 (some .boolean), Cond.fieldLink RX7 105 "EarlyValues$Program" "kinds" "[I", Cond.selects RX4 ⟨"EarlyValues$View", "handOver", "(LEarlyValues$Program;II)Z"⟩ yX7_handOver, Cond.selects RX6 ⟨"EarlyValues$View", "handOver", "(LEarlyValues$Program;II)Z"⟩ yX7_handOver, Cond.methodLink RX7 102 ⟨"EarlyValues$View", "bodyComesTo", "(LEarlyValues$Program;I)I"⟩]
def wsL_law_r25 : List Cond := [Cond.sameMethod "EarlyValues$View" "EarlyValues$View" "bodyComesTo" "(LEarlyValues$Program;I)I", Cond.selects RX0 ⟨"EarlyValues$View", "bodyComesTo", "(LEarlyValues$Program;I)I"⟩ yX7_bodyComesTo, Cond.instanceMethod yX7_bodyComesTo, Cond.code yX7_bodyComesTo cX7_bodyComesTo 9 (some .int), Cond.fieldLink RX7 108 "EarlyValues$View" "depth" "I", Cond.fieldLink RX7 111 "EarlyValues$Program" "lengths" "[I", Cond.fieldLink RX7 114 "EarlyValues$Program" "bodies" "[[I", Cond.methodLink RX7 117 yX3_partsOf, Cond.methodLink RX7 121 ⟨"EarlyValues$View", "pop", "()I"⟩, Cond.sameMethod "EarlyValues$View" "EarlyValues$View" "pop" "()I", Cond.selects RX0 ⟨"EarlyValues$View", "pop", "()I"⟩ yX7_pop, Cond.instanceMethod yX7_pop, Cond.code yX7_pop cX7_pop 1 (some .int), Cond.selects RX4 ⟨"EarlyValues$View", "pop", "()I"⟩ yX7_pop, Cond.selects RX6 ⟨"EarlyValues$View", "pop", "()I"⟩ yX7_pop, Cond.methodLink RX7 125 ⟨"EarlyValues$View", "letterComesTo", "(IIII)I"⟩, Cond.sameMethod "EarlyValues$View" "EarlyValues$View" "letterComesTo" "(IIII)I", Cond.selects RX0 ⟨"EarlyValues$View", "letterComesTo", "(IIII)I"⟩ yX7_letterComesTo, Cond.instanceMethod yX7_letterComesTo, Cond.code yX7_letterComesTo cX7_letterComesTo 6 (some .int), Cond.methodLink RX7 132 ⟨"EarlyValues$View", "less", "(I)I"⟩, Cond.sameMethod "EarlyValues$View" "EarlyValues$View" "less" "(I)I", Cond.selects RX0 ⟨"EarlyValues$View", "less", "(I)I"⟩ yX0_less, Cond.instanceMethod yX0_less]
def wsL_law_r26 : List Cond := [Cond.code yX0_less cX0_less 2 (some .int), Cond.selects RX4 ⟨"EarlyValues$View", "less", "(I)I"⟩ yX4_less, Cond.instanceMethod yX4_less, Cond.code yX4_less cX4_less 2 (some .int), Cond.selects RX6 ⟨"EarlyValues$View", "less", "(I)I"⟩ yX6_less, Cond.instanceMethod yX6_less, Cond.code yX6_less cX6_less 2 (some .int), Cond.methodLink RX6 9 Lib.Math.max.name, Cond.methodLink RX7 135 ⟨"EarlyValues$View", "sum", "(II)I"⟩, Cond.sameMethod "EarlyValues$View" "EarlyValues$View" "sum" "(II)I", Cond.selects RX0 ⟨"EarlyValues$View", "sum", "(II)I"⟩ yX0_sum, Cond.instanceMethod yX0_sum, Cond.code yX0_sum cX0_sum 5 (some .int), Cond.selects RX4 ⟨"EarlyValues$View", "sum", "(II)I"⟩ yX4_sum, Cond.instanceMethod yX4_sum, Cond.code yX4_sum cX4_sum 3 (some .int), Cond.selects RX6 ⟨"EarlyValues$View", "sum", "(II)I"⟩ yX6_sum, Cond.instanceMethod yX6_sum, Cond.code yX6_sum cX6_sum 3 (some .int), Cond.methodLink RX7 138 ⟨"EarlyValues$View", "chosen", "(III)I"⟩, Cond.sameMethod "EarlyValues$View" "EarlyValues$View" "chosen" "(III)I", Cond.selects RX0 ⟨"EarlyValues$View", "chosen", "(III)I"⟩ yX0_chosen, Cond.instanceMethod yX0_chosen, Cond.code yX0_chosen cX0_chosen 5 (some .int)]
def wsL_law_r27 : List Cond := [Cond.selects RX4 ⟨"EarlyValues$View", "chosen", "(III)I"⟩ yX4_chosen, Cond.instanceMethod yX4_chosen, Cond.code yX4_chosen cX4_chosen 4 (some .int), Cond.selects RX6 ⟨"EarlyValues$View", "chosen", "(III)I"⟩ yX6_chosen, Cond.instanceMethod yX6_chosen, Cond.code yX6_chosen cX6_chosen 4 (some .int), Cond.selects RX4 ⟨"EarlyValues$View", "letterComesTo", "(IIII)I"⟩ yX7_letterComesTo, Cond.selects RX6 ⟨"EarlyValues$View", "letterComesTo", "(IIII)I"⟩ yX7_letterComesTo, Cond.methodLink RX7 129 ⟨"EarlyValues$View", "push", "(I)V"⟩, Cond.sameMethod "EarlyValues$View" "EarlyValues$View" "push" "(I)V", Cond.selects RX0 ⟨"EarlyValues$View", "push", "(I)V"⟩ yX7_push, Cond.instanceMethod yX7_push, Cond.code yX7_push cX7_push 2 none, Cond.selects RX4 ⟨"EarlyValues$View", "push", "(I)V"⟩ yX7_push, Cond.selects RX6 ⟨"EarlyValues$View", "push", "(I)V"⟩ yX7_push, Cond.selects RX4 ⟨"EarlyValues$View", "bodyComesTo", "(LEarlyValues$Program;I)I"⟩ yX7_bodyComesTo, Cond.selects RX6 ⟨"EarlyValues$View", "bodyComesTo", "(LEarlyValues$Program;I)I"⟩ yX7_bodyComesTo, Cond.selects RX4 ⟨"EarlyValues$View", "advance", "(LEarlyValues$Program;)Z"⟩ yX7_advance, Cond.selects RX6 ⟨"EarlyValues$View", "advance", "(LEarlyValues$Program;)Z"⟩ yX7_advance, Cond.selects RX4 ⟨"EarlyValues$View", "solve", "(LEarlyValues$Program;)V"⟩ yX7_solve, Cond.selects RX6 ⟨"EarlyValues$View", "solve", "(LEarlyValues$Program;)V"⟩ yX7_solve, Cond.methodLink RX8 165 ⟨"EarlyValues$View", "at", "(II)I"⟩, Cond.methodLink RL 57 yX9_value, Cond.instanceMethod yX9_value]
def wsL_law_r28 : List Cond := [Cond.selects RX9 yX9_value yX9_value, Cond.code yX9_value cX9_value 5 (some .int), Cond.methodLink RX9 110 yX9_isRow, Cond.instanceMethod yX9_isRow, Cond.selects RX9 yX9_isRow yX9_isRow, Cond.code yX9_isRow cX9_isRow 7 (some .boolean), Cond.methodLink RX9 151 yX9_setAll, Cond.instanceMethod yX9_setAll, Cond.selects RX9 yX9_setAll yX9_setAll, Cond.code yX9_setAll cX9_setAll 1 none, Cond.methodLink RX9 125 yX9_sets, Cond.instanceMethod yX9_sets, Cond.selects RX9 yX9_sets yX9_sets, Cond.code yX9_sets cX9_sets 3 none, Cond.methodLink RX9 69 yX9_neverOf, Cond.static yX9_neverOf, Cond.code yX9_neverOf cX9_neverOf 1 (some .int), Cond.methodLink RX9 117 yX9_changes, Cond.instanceMethod yX9_changes, Cond.selects RX9 yX9_changes yX9_changes, Cond.code yX9_changes cX9_changes 10 (some .boolean), Cond.methodLink RX9 107 yX9_sizeOf, Cond.static yX9_sizeOf, Cond.code yX9_sizeOf cX9_sizeOf 1 (some .int)]
def wsL_law_r29 : List Cond := [Cond.methodLink RX9 114 yX9_comesTo, Cond.instanceMethod yX9_comesTo, Cond.selects RX9 yX9_comesTo yX9_comesTo, Cond.code yX9_comesTo cX9_comesTo 10 (some .int), Cond.methodLink RX9 100 yX9_isNever, Cond.static yX9_isNever, Cond.code yX9_isNever cX9_isNever 2 (some .boolean), Cond.methodLink RX9 104 yX9_bodyBy, Cond.instanceMethod yX9_bodyBy, Cond.selects RX9 yX9_bodyBy yX9_bodyBy, Cond.code yX9_bodyBy cX9_bodyBy 11 (some .int), Cond.methodLink RX9 93 yX9_constantBy, Cond.static yX9_constantBy, Cond.code yX9_constantBy cX9_constantBy 2 (some .int), Cond.methodLink RX9 96 yX9_madeBy, Cond.instanceMethod yX9_madeBy, Cond.selects RX9 yX9_madeBy yX9_madeBy, Cond.code yX9_madeBy cX9_madeBy 6 (some .int), Cond.methodLink RX9 72 yX9_rowOf, Cond.static yX9_rowOf, Cond.code yX9_rowOf cX9_rowOf 3 (some .int), Cond.methodLink RX9 76 yX9_tableAt, Cond.instanceMethod yX9_tableAt, Cond.selects RX9 yX9_tableAt yX9_tableAt]
def wsL_law_r30 : List Cond := [Cond.code yX9_tableAt cX9_tableAt 4 (some .int), Cond.methodLink RX9 79 yX9_valueBy, Cond.static yX9_valueBy, Cond.code yX9_valueBy cX9_valueBy 4 (some .int), Cond.methodLink RX9 83 yX9_roughBy, Cond.static yX9_roughBy, Cond.code yX9_roughBy cX9_roughBy 4 (some .int), Cond.methodLink RX9 86 yX9_fineBy, Cond.static yX9_fineBy, Cond.code yX9_fineBy cX9_fineBy 5 (some .int), Cond.methodLink RL 58 yX8_rough, Cond.instanceMethod yX8_rough, Cond.selects RX8 yX8_rough yX8_rough, Cond.code yX8_rough cX8_rough 3 (some .int), Cond.methodLink RX8 169 ⟨"EarlyValues$View", "rowsOf", "(LEarlyValues$Program;I)I"⟩, Cond.methodLink RL 61 yX9_rough, Cond.instanceMethod yX9_rough, Cond.selects RX9 yX9_rough yX9_rough, Cond.code yX9_rough cX9_rough 3 (some .int), Cond.methodLink RX9 154 yX9_rowsOf, Cond.instanceMethod yX9_rowsOf, Cond.selects RX9 yX9_rowsOf yX9_rowsOf, Cond.code yX9_rowsOf cX9_rowsOf 2 (some .int), Cond.methodLink RX9 157 yX9_roughAt]
def wsL_law_r31 : List Cond := [Cond.instanceMethod yX9_roughAt, Cond.selects RX9 yX9_roughAt yX9_roughAt, Cond.code yX9_roughAt cX9_roughAt 3 (some .int), Cond.methodLink RL 62 yX8_fine, Cond.instanceMethod yX8_fine, Cond.selects RX8 yX8_fine yX8_fine, Cond.code yX8_fine cX8_fine 6 (some .int), Cond.methodLink RL 65 yX9_fine, Cond.instanceMethod yX9_fine, Cond.selects RX9 yX9_fine yX9_fine, Cond.code yX9_fine cX9_fine 5 (some .int), Cond.methodLink RL 66 yX8_rounds, Cond.instanceMethod yX8_rounds, Cond.selects RX8 yX8_rounds yX8_rounds, Cond.code yX8_rounds cX8_rounds 2 (some .int), Cond.fieldLink RX8 173 "EarlyValues$View" "taken" "I", Cond.methodLink RL 69 yX9_rounds, Cond.instanceMethod yX9_rounds, Cond.selects RX9 yX9_rounds yX9_rounds, Cond.code yX9_rounds cX9_rounds 2 (some .int), Cond.methodLink RL 70 yX8_frontier, Cond.instanceMethod yX8_frontier, Cond.selects RX8 yX8_frontier yX8_frontier, Cond.code yX8_frontier cX8_frontier 6 (some .int)]
def wsL_law_r32 : List Cond := [Cond.methodLink RX8 176 yX8_isLeast, Cond.instanceMethod yX8_isLeast, Cond.selects RX8 yX8_isLeast yX8_isLeast, Cond.code yX8_isLeast cX8_isLeast 5 (some .boolean), Cond.methodLink RL 73 yX9_frontier, Cond.instanceMethod yX9_frontier, Cond.selects RX9 yX9_frontier yX9_frontier, Cond.code yX9_frontier cX9_frontier 6 (some .int), Cond.methodLink RX9 160 yX9_isFrontier, Cond.instanceMethod yX9_isFrontier, Cond.selects RX9 yX9_isFrontier yX9_isFrontier, Cond.code yX9_isFrontier cX9_isFrontier 5 (some .boolean), Cond.methodLink RL 74 yX8_strict, Cond.instanceMethod yX8_strict, Cond.selects RX8 yX8_strict yX8_strict, Cond.code yX8_strict cX8_strict 4 (some .int), Cond.methodLink RX8 180 yX8_strictView, Cond.instanceMethod yX8_strictView, Cond.selects RX8 yX8_strictView yX8_strictView, Cond.code yX8_strictView cX8_strictView 2 (some (.object "EarlyValues$View")), Cond.methodLink RX8 184 ⟨"EarlyValues$View", "strictBits", "(LEarlyValues$Program;I)I"⟩, Cond.sameMethod "EarlyValues$View" "EarlyValues$View" "strictBits" "(LEarlyValues$Program;I)I", Cond.selects RX0 ⟨"EarlyValues$View", "strictBits", "(LEarlyValues$Program;I)I"⟩ yX7_strictBits, Cond.instanceMethod yX7_strictBits]
def wsL_law_r33 : List Cond := [Cond.code yX7_strictBits cX7_strictBits 5 (some .int), Cond.methodLink RX7 79 ⟨"EarlyValues$View", "isStrict", "(LEarlyValues$Program;II)Z"⟩, Cond.sameMethod "EarlyValues$View" "EarlyValues$View" "isStrict" "(LEarlyValues$Program;II)Z", Cond.selects RX0 ⟨"EarlyValues$View", "isStrict", "(LEarlyValues$Program;II)Z"⟩ yX7_isStrict, Cond.instanceMethod yX7_isStrict, Cond.code yX7_isStrict cX7_isStrict 5 (some .boolean), Cond.selects RX4 ⟨"EarlyValues$View", "isStrict", "(LEarlyValues$Program;II)Z"⟩ yX7_isStrict, Cond.selects RX6 ⟨"EarlyValues$View", "isStrict", "(LEarlyValues$Program;II)Z"⟩ yX7_isStrict, Cond.selects RX4 ⟨"EarlyValues$View", "strictBits", "(LEarlyValues$Program;I)I"⟩ yX7_strictBits, Cond.selects RX6 ⟨"EarlyValues$View", "strictBits", "(LEarlyValues$Program;I)I"⟩ yX7_strictBits, Cond.methodLink RL 77 yX9_strict, Cond.instanceMethod yX9_strict, Cond.selects RX9 yX9_strict yX9_strict, Cond.code yX9_strict cX9_strict 3 (some .int), Cond.methodLink RX9 175 yX9_strictSet, Cond.instanceMethod yX9_strictSet, Cond.selects RX9 yX9_strictSet yX9_strictSet, Cond.code yX9_strictSet cX9_strictSet 6 (some .int), Cond.methodLink RX9 166 yX9_roughStrict, Cond.instanceMethod yX9_roughStrict, Cond.selects RX9 yX9_roughStrict yX9_roughStrict, Cond.code yX9_roughStrict cX9_roughStrict 3 (some .int), Cond.methodLink RX9 169 yX9_fineStrict, Cond.instanceMethod yX9_fineStrict]
def wsL_law_r34 : List Cond := [Cond.selects RX9 yX9_fineStrict yX9_fineStrict, Cond.code yX9_fineStrict cX9_fineStrict 6 (some .int), Cond.methodLink RX9 172 yX9_trulyStrict, Cond.instanceMethod yX9_trulyStrict, Cond.selects RX9 yX9_trulyStrict yX9_trulyStrict, Cond.code yX9_trulyStrict cX9_trulyStrict 6 (some .int), Cond.methodLink RX9 163 yX9_argument, Cond.static yX9_argument, Cond.code yX9_argument cX9_argument 2 (some .int), Cond.methodLink RL 78 yX8_early, Cond.instanceMethod yX8_early, Cond.selects RX8 yX8_early yX8_early, Cond.code yX8_early cX8_early 8 (some .int), Cond.methodLink RX8 187 yJ6_bitCount_0f7a4, Cond.static yJ6_bitCount_0f7a4, Cond.initialized RJ6, Cond.code yJ6_bitCount_0f7a4 cJ6_bitCount_0f7a4 1 (some .int), Cond.constant RJ6 265 (1431655765), Cond.constant RJ6 266 (858993459), Cond.constant RJ6 267 (252645135), Cond.methodLink RL 81 yX9_early, Cond.instanceMethod yX9_early, Cond.selects RX9 yX9_early yX9_early, Cond.code yX9_early cX9_early 6 (some .int)]
def wsL_law_r35 : List Cond := [Cond.methodLink RX9 178 yX9_bits, Cond.static yX9_bits, Cond.code yX9_bits cX9_bits 1 (some .int), Cond.methodLink RL 82 yX8_same, Cond.instanceMethod yX8_same, Cond.selects RX8 yX8_same yX8_same, Cond.code yX8_same cX8_same 5 (some .int), Cond.methodLink RL 85 yX9_same, Cond.instanceMethod yX9_same, Cond.selects RX9 yX9_same yX9_same, Cond.code yX9_same cX9_same 5 (some .int), Cond.methodLink RL 86 yX8_first, Cond.instanceMethod yX8_first, Cond.selects RX8 yX8_first yX8_first, Cond.code yX8_first cX8_first 7 (some .int), Cond.fieldLink RX8 192 "EarlyValues$View" "digits" "[[I", Cond.methodLink RL 89 yX9_first, Cond.instanceMethod yX9_first, Cond.selects RX9 yX9_first yX9_first, Cond.code yX9_first cX9_first 4 (some .int), Cond.methodLink RL 90 yX8_makes, Cond.instanceMethod yX8_makes, Cond.selects RX8 yX8_makes yX8_makes, Cond.code yX8_makes cX8_makes 5 (some .int)]
def wsL_law_r36 : List Cond := [Cond.methodLink RX8 195 ⟨"EarlyValues$View", "isStrict", "(LEarlyValues$Program;II)Z"⟩, Cond.methodLink RX8 199 ⟨"EarlyValues$View", "staysStrict", "(LEarlyValues$Program;II)Z"⟩, Cond.sameMethod "EarlyValues$View" "EarlyValues$View" "staysStrict" "(LEarlyValues$Program;II)Z", Cond.selects RX0 ⟨"EarlyValues$View", "staysStrict", "(LEarlyValues$Program;II)Z"⟩ yX7_staysStrict, Cond.instanceMethod yX7_staysStrict, Cond.code yX7_staysStrict cX7_staysStrict 7 (some .boolean), Cond.selects RX4 ⟨"EarlyValues$View", "staysStrict", "(LEarlyValues$Program;II)Z"⟩ yX7_staysStrict, Cond.selects RX6 ⟨"EarlyValues$View", "staysStrict", "(LEarlyValues$Program;II)Z"⟩ yX7_staysStrict, Cond.methodLink RL 93 yX9_makes, Cond.instanceMethod yX9_makes, Cond.selects RX9 yX9_makes yX9_makes, Cond.code yX9_makes cX9_makes 8 (some .int), Cond.methodLink RX9 65 yX9_letterBy, Cond.static yX9_letterBy, Cond.code yX9_letterBy cX9_letterBy 1 (some .int), Cond.methodLink RL 94 yX8_day, Cond.instanceMethod yX8_day, Cond.selects RX8 yX8_day yX8_day, Cond.code yX8_day cX8_day 7 (some .int), Cond.constantLong RX8 202 (7919), Cond.constantLong RX8 204 (6151), Cond.constantLong RX8 206 (65521), Cond.methodLink RX8 208 yX3_turnLetter, Cond.instanceMethod yX3_turnLetter]
def wsL_law_r37 : List Cond := [Cond.selects RX3 yX3_turnLetter yX3_turnLetter, Cond.code yX3_turnLetter cX3_turnLetter 7 none, Cond.methodLink RX3 51 yX3_fits, Cond.methodLink RX8 215 ⟨"EarlyValues$View", "rowsThatCome", "(LEarlyValues$Program;I)I"⟩, Cond.sameMethod "EarlyValues$View" "EarlyValues$View" "rowsThatCome" "(LEarlyValues$Program;I)I", Cond.selects RX0 ⟨"EarlyValues$View", "rowsThatCome", "(LEarlyValues$Program;I)I"⟩ yX7_rowsThatCome, Cond.instanceMethod yX7_rowsThatCome, Cond.code yX7_rowsThatCome cX7_rowsThatCome 5 (some .int), Cond.selects RX4 ⟨"EarlyValues$View", "rowsThatCome", "(LEarlyValues$Program;I)I"⟩ yX7_rowsThatCome, Cond.selects RX6 ⟨"EarlyValues$View", "rowsThatCome", "(LEarlyValues$Program;I)I"⟩ yX7_rowsThatCome, Cond.methodLink RL 97 yX9_day, Cond.instanceMethod yX9_day, Cond.selects RX9 yX9_day yX9_day, Cond.code yX9_day cX9_day 7 (some .int), Cond.constantLong RX9 184 (7919), Cond.constantLong RX9 186 (6151), Cond.constantLong RX9 188 (65521), Cond.methodLink RX9 190 yX9_turns, Cond.instanceMethod yX9_turns, Cond.selects RX9 yX9_turns yX9_turns, Cond.code yX9_turns cX9_turns 6 none, Cond.methodLink RX9 181 yX9_placeOf, Cond.static yX9_placeOf, Cond.code yX9_placeOf cX9_placeOf 2 (some .int)]
def wsL_law_r38 : List Cond := [Cond.methodLink RX9 193 yX9_valueRows, Cond.instanceMethod yX9_valueRows, Cond.selects RX9 yX9_valueRows yX9_valueRows, Cond.code yX9_valueRows cX9_valueRows 4 (some .int), Cond.methodLink RL 98 yX8_keep, Cond.instanceMethod yX8_keep, Cond.selects RX8 yX8_keep yX8_keep, Cond.code yX8_keep cX8_keep 1 (some .int), Cond.methodLink RL 101 yX9_keep, Cond.instanceMethod yX9_keep, Cond.selects RX9 yX9_keep yX9_keep, Cond.code yX9_keep cX9_keep 1 (some .int), Cond.methodLink RL 102 yX8_back, Cond.instanceMethod yX8_back, Cond.selects RX8 yX8_back yX8_back, Cond.code yX8_back cX8_back 1 (some .int), Cond.methodLink RL 105 yX9_back, Cond.instanceMethod yX9_back, Cond.selects RX9 yX9_back yX9_back, Cond.code yX9_back cX9_back 1 (some .int), Cond.methodLink RL 106 yX8_count, Cond.instanceMethod yX8_count, Cond.selects RX8 yX8_count yX8_count, Cond.code yX8_count cX8_count 2 (some .int)]
def wsL_law_r39 : List Cond := [Cond.methodLink RX8 218 yX3_allOf, Cond.instanceMethod yX3_allOf, Cond.selects RX3 yX3_allOf yX3_allOf, Cond.code yX3_allOf cX3_allOf 4 (some .int), Cond.methodLink RL 109 yX9_count, Cond.instanceMethod yX9_count, Cond.selects RX9 yX9_count yX9_count, Cond.code yX9_count cX9_count 2 (some .int), Cond.methodLink RX9 197 yX9_sumOf, Cond.instanceMethod yX9_sumOf, Cond.selects RX9 yX9_sumOf yX9_sumOf, Cond.code yX9_sumOf cX9_sumOf 4 (some .int)]
def wsL_law : List Cond := (wsL_law_r1 ++ (wsL_law_r2 ++ (wsL_law_r3 ++ (wsL_law_r4 ++ (wsL_law_r5 ++ (wsL_law_r6 ++ (wsL_law_r7 ++ (wsL_law_r8 ++ (wsL_law_r9 ++ (wsL_law_r10 ++ (wsL_law_r11 ++ (wsL_law_r12 ++ (wsL_law_r13 ++ (wsL_law_r14 ++ (wsL_law_r15 ++ (wsL_law_r16 ++ (wsL_law_r17 ++ (wsL_law_r18 ++ (wsL_law_r19 ++ (wsL_law_r20 ++ (wsL_law_r21 ++ (wsL_law_r22 ++ (wsL_law_r23 ++ (wsL_law_r24 ++ (wsL_law_r25 ++ (wsL_law_r26 ++ (wsL_law_r27 ++ (wsL_law_r28 ++ (wsL_law_r29 ++ (wsL_law_r30 ++ (wsL_law_r31 ++ (wsL_law_r32 ++ (wsL_law_r33 ++ (wsL_law_r34 ++ (wsL_law_r35 ++ (wsL_law_r36 ++ (wsL_law_r37 ++ (wsL_law_r38 ++ wsL_law_r39)))))))))))))))))))))))))))))))))))))) ++ wsX80 ++ wsX90 ++ wsX50 ++ wsX30 ++ wsX10 ++ wsX60 ++ wsX40 ++ wsX00 ++ ([] : List Cond)
theorem inlX0 : ∀ w ∈ wsX00, w ∈ wsL_law := fun _ h => List.mem_append_left _ (List.mem_append_right _ h)
theorem inlX1 : ∀ w ∈ wsX10, w ∈ wsL_law := fun _ h => List.mem_append_left _ (List.mem_append_left _ (List.mem_append_left _ (List.mem_append_left _ (List.mem_append_right _ h))))
theorem inX2 : ∀ w ∈ wsX20, w ∈ lw_tbl := by decide +kernel
theorem inlX3 : ∀ w ∈ wsX30, w ∈ wsL_law := fun _ h => List.mem_append_left _ (List.mem_append_left _ (List.mem_append_left _ (List.mem_append_left _ (List.mem_append_left _ (List.mem_append_right _ h)))))
theorem inlX4 : ∀ w ∈ wsX40, w ∈ wsL_law := fun _ h => List.mem_append_left _ (List.mem_append_left _ (List.mem_append_right _ h))
theorem inlX5 : ∀ w ∈ wsX50, w ∈ wsL_law := fun _ h => List.mem_append_left _ (List.mem_append_left _ (List.mem_append_left _ (List.mem_append_left _ (List.mem_append_left _ (List.mem_append_left _ (List.mem_append_right _ h))))))
theorem inlX6 : ∀ w ∈ wsX60, w ∈ wsL_law := fun _ h => List.mem_append_left _ (List.mem_append_left _ (List.mem_append_left _ (List.mem_append_right _ h)))
theorem inX7 : ∀ w ∈ wsX70, w ∈ lw_tbl := by decide +kernel
theorem inlX8 : ∀ w ∈ wsX80, w ∈ wsL_law := fun _ h => List.mem_append_left _ (List.mem_append_left _ (List.mem_append_left _ (List.mem_append_left _ (List.mem_append_left _ (List.mem_append_left _ (List.mem_append_left _ (List.mem_append_left _ (List.mem_append_right _ h))))))))
theorem inlX9 : ∀ w ∈ wsX90, w ∈ wsL_law := fun _ h => List.mem_append_left _ (List.mem_append_left _ (List.mem_append_left _ (List.mem_append_left _ (List.mem_append_left _ (List.mem_append_left _ (List.mem_append_left _ (List.mem_append_right _ h)))))))
theorem inJx145de : ∀ w ∈ wsJx145de0, w ∈ lw_tbl := by decide +kernel
theorem inJx9f9b0 : ∀ w ∈ wsJx9f9b00, w ∈ lw_tbl := by decide +kernel
theorem inJ11 : ∀ w ∈ wsJ110, w ∈ lw_tbl := by decide +kernel
theorem inJxb160c : ∀ w ∈ wsJxb160c0, w ∈ lw_tbl := by decide +kernel
theorem inJ6 : ∀ w ∈ wsJ60, w ∈ lw_tbl := by decide +kernel
theorem inJ9 : ∀ w ∈ wsJ90, w ∈ lw_tbl := by decide +kernel
theorem inJ0 : ∀ w ∈ wsJ00, w ∈ lw_tbl := by decide +kernel
theorem inJ1 : ∀ w ∈ wsJ10, w ∈ lw_tbl := by decide +kernel
theorem inJ2 : ∀ w ∈ wsJ20, w ∈ lw_tbl := by decide +kernel
theorem inJ10 : ∀ w ∈ wsJ100, w ∈ lw_tbl := by decide +kernel
theorem inJxfd54e : ∀ w ∈ wsJxfd54e0, w ∈ lw_tbl := by decide +kernel
theorem inJx3cf43 : ∀ w ∈ wsJx3cf430, w ∈ lw_tbl := by decide +kernel
theorem inJ7 : ∀ w ∈ wsJ70, w ∈ lw_tbl := by decide +kernel
theorem inJ3 : ∀ w ∈ wsJ30, w ∈ lw_tbl := by decide +kernel
set_option maxRecDepth 20000 in
theorem ggX0_init_X7_init : GoodIn wsX0_init wsX7_init := goodIn_r _ [4, 5, 6, 7, 8, 9, 10, 11, 12, 13, 14, 15, 16, 17, 18, 19, 20, 21, 22, 23, 24, 25, 3, 26, 27, 28, 29, 30, 31, 32, 33, 34, 35, 36, 37, 38, 39, 40, 41, 42, 43, 44, 45, 46, 47, 48, 49, 50, 51, 52, 53, 54, 55, 56, 57, 58, 59, 60, 61, 62, 63, 64, 65, 66, 67] (by decide +kernel) (by decide +kernel)
set_option maxRecDepth 20000 in
theorem gX0_init_X7_init : GoodIn wsX0_init (wsX7_init) := ggX0_init_X7_init
theorem dX0_init_0 : decode cX0_init 0 = .ok (.aload_n 0, 1) := by decide +kernel
theorem dX0_init_1 : decode cX0_init 1 = .ok (.iconst 4, 1) := by decide +kernel
theorem dX0_init_2 : decode cX0_init 2 = .ok (.iconst 0, 1) := by decide +kernel
theorem dX0_init_3 : decode cX0_init 3 = .ok (.iconst 1, 1) := by decide +kernel
theorem dX0_init_4 : decode cX0_init 4 = .ok (.iconst 2, 1) := by decide +kernel
theorem dX0_init_5 : decode cX0_init 5 = .ok (.invokespecial 3, 3) := by decide +kernel
theorem dX0_init_8 : decode cX0_init 8 = .ok (.return_, 1) := by decide +kernel
theorem dX0_less_0 : decode cX0_less 0 = .ok (.iload_n 1, 1) := by decide +kernel
theorem dX0_less_1 : decode cX0_less 1 = .ok (.iconst 2, 1) := by decide +kernel
theorem dX0_less_2 : decode cX0_less 2 = .ok (.iand, 1) := by decide +kernel
theorem dX0_less_3 : decode cX0_less 3 = .ok (.ifCond .eq 7, 3) := by decide +kernel
theorem dX0_less_6 : decode cX0_less 6 = .ok (.iconst 3, 1) := by decide +kernel
theorem dX0_less_7 : decode cX0_less 7 = .ok (.goto 4, 3) := by decide +kernel
theorem dX0_less_10 : decode cX0_less 10 = .ok (.iload_n 1, 1) := by decide +kernel
theorem dX0_less_11 : decode cX0_less 11 = .ok (.ireturn, 1) := by decide +kernel
theorem dX0_sum_0 : decode cX0_sum 0 = .ok (.iload_n 1, 1) := by decide +kernel
theorem dX0_sum_1 : decode cX0_sum 1 = .ok (.iload_n 2, 1) := by decide +kernel
theorem dX0_sum_2 : decode cX0_sum 2 = .ok (.iand, 1) := by decide +kernel
theorem dX0_sum_3 : decode cX0_sum 3 = .ok (.iconst 2, 1) := by decide +kernel
theorem dX0_sum_4 : decode cX0_sum 4 = .ok (.iand, 1) := by decide +kernel
theorem dX0_sum_5 : decode cX0_sum 5 = .ok (.ifCond .eq 5, 3) := by decide +kernel
theorem dX0_sum_8 : decode cX0_sum 8 = .ok (.iconst 3, 1) := by decide +kernel
theorem dX0_sum_9 : decode cX0_sum 9 = .ok (.ireturn, 1) := by decide +kernel
theorem dX0_sum_10 : decode cX0_sum 10 = .ok (.iload_n 1, 1) := by decide +kernel
theorem dX0_sum_11 : decode cX0_sum 11 = .ok (.iload_n 2, 1) := by decide +kernel
theorem dX0_sum_12 : decode cX0_sum 12 = .ok (.iand, 1) := by decide +kernel
theorem dX0_sum_13 : decode cX0_sum 13 = .ok (.iconst 1, 1) := by decide +kernel
theorem dX0_sum_14 : decode cX0_sum 14 = .ok (.iand, 1) := by decide +kernel
theorem dX0_sum_15 : decode cX0_sum 15 = .ok (.istore_n 3, 1) := by decide +kernel
theorem dX0_sum_16 : decode cX0_sum 16 = .ok (.iload_n 1, 1) := by decide +kernel
theorem dX0_sum_17 : decode cX0_sum 17 = .ok (.iload_n 2, 1) := by decide +kernel
theorem dX0_sum_18 : decode cX0_sum 18 = .ok (.ior, 1) := by decide +kernel
theorem dX0_sum_19 : decode cX0_sum 19 = .ok (.iconst 2, 1) := by decide +kernel
theorem dX0_sum_20 : decode cX0_sum 20 = .ok (.iand, 1) := by decide +kernel
theorem dX0_sum_21 : decode cX0_sum 21 = .ok (.istore 4, 2) := by decide +kernel
theorem dX0_sum_23 : decode cX0_sum 23 = .ok (.iload_n 3, 1) := by decide +kernel
theorem dX0_sum_24 : decode cX0_sum 24 = .ok (.iload 4, 2) := by decide +kernel
theorem dX0_sum_26 : decode cX0_sum 26 = .ok (.ior, 1) := by decide +kernel
theorem dX0_sum_27 : decode cX0_sum 27 = .ok (.ireturn, 1) := by decide +kernel
theorem dX0_chosen_0 : decode cX0_chosen 0 = .ok (.iconst 0, 1) := by decide +kernel
theorem dX0_chosen_1 : decode cX0_chosen 1 = .ok (.istore 4, 2) := by decide +kernel
theorem dX0_chosen_3 : decode cX0_chosen 3 = .ok (.iload_n 1, 1) := by decide +kernel
theorem dX0_chosen_4 : decode cX0_chosen 4 = .ok (.iconst 1, 1) := by decide +kernel
theorem dX0_chosen_5 : decode cX0_chosen 5 = .ok (.iand, 1) := by decide +kernel
theorem dX0_chosen_6 : decode cX0_chosen 6 = .ok (.ifCond .eq 9, 3) := by decide +kernel
theorem dX0_chosen_9 : decode cX0_chosen 9 = .ok (.iload 4, 2) := by decide +kernel
theorem dX0_chosen_11 : decode cX0_chosen 11 = .ok (.iload_n 3, 1) := by decide +kernel
theorem dX0_chosen_12 : decode cX0_chosen 12 = .ok (.ior, 1) := by decide +kernel
theorem dX0_chosen_13 : decode cX0_chosen 13 = .ok (.istore 4, 2) := by decide +kernel
theorem dX0_chosen_15 : decode cX0_chosen 15 = .ok (.iload_n 1, 1) := by decide +kernel
theorem dX0_chosen_16 : decode cX0_chosen 16 = .ok (.iconst 2, 1) := by decide +kernel
theorem dX0_chosen_17 : decode cX0_chosen 17 = .ok (.iand, 1) := by decide +kernel
theorem dX0_chosen_18 : decode cX0_chosen 18 = .ok (.ifCond .eq 9, 3) := by decide +kernel
theorem dX0_chosen_21 : decode cX0_chosen 21 = .ok (.iload 4, 2) := by decide +kernel
theorem dX0_chosen_23 : decode cX0_chosen 23 = .ok (.iload_n 2, 1) := by decide +kernel
theorem dX0_chosen_24 : decode cX0_chosen 24 = .ok (.ior, 1) := by decide +kernel
theorem dX0_chosen_25 : decode cX0_chosen 25 = .ok (.istore 4, 2) := by decide +kernel
theorem dX0_chosen_27 : decode cX0_chosen 27 = .ok (.iload 4, 2) := by decide +kernel
theorem dX0_chosen_29 : decode cX0_chosen 29 = .ok (.ireturn, 1) := by decide +kernel
theorem dX0_mayGrow_0 : decode cX0_mayGrow 0 = .ok (.iload_n 1, 1) := by decide +kernel
theorem dX0_mayGrow_1 : decode cX0_mayGrow 1 = .ok (.iconst 3, 1) := by decide +kernel
theorem dX0_mayGrow_2 : decode cX0_mayGrow 2 = .ok (.if_icmp .eq 7, 3) := by decide +kernel
theorem dX0_mayGrow_5 : decode cX0_mayGrow 5 = .ok (.iconst 1, 1) := by decide +kernel
theorem dX0_mayGrow_6 : decode cX0_mayGrow 6 = .ok (.goto 4, 3) := by decide +kernel
theorem dX0_mayGrow_9 : decode cX0_mayGrow 9 = .ok (.iconst 0, 1) := by decide +kernel
theorem dX0_mayGrow_10 : decode cX0_mayGrow 10 = .ok (.ireturn, 1) := by decide +kernel
theorem dX1_init_0 : decode cX1_init 0 = .ok (.aload_n 0, 1) := by decide +kernel
theorem dX1_init_1 : decode cX1_init 1 = .ok (.invokespecial 1, 3) := by decide +kernel
theorem dX1_init_4 : decode cX1_init 4 = .ok (.aload_n 0, 1) := by decide +kernel
theorem dX1_init_5 : decode cX1_init 5 = .ok (.bipush 8, 2) := by decide +kernel
theorem dX1_init_7 : decode cX1_init 7 = .ok (.newarray .int, 2) := by decide +kernel
theorem dX1_init_9 : decode cX1_init 9 = .ok (.putfield 9, 3) := by decide +kernel
theorem dX1_init_12 : decode cX1_init 12 = .ok (.aload_n 0, 1) := by decide +kernel
theorem dX1_init_13 : decode cX1_init 13 = .ok (.bipush 8, 2) := by decide +kernel
theorem dX1_init_15 : decode cX1_init 15 = .ok (.newarray .int, 2) := by decide +kernel
theorem dX1_init_17 : decode cX1_init 17 = .ok (.putfield 13, 3) := by decide +kernel
theorem dX1_init_20 : decode cX1_init 20 = .ok (.aload_n 0, 1) := by decide +kernel
theorem dX1_init_21 : decode cX1_init 21 = .ok (.bipush 8, 2) := by decide +kernel
theorem dX1_init_23 : decode cX1_init 23 = .ok (.newarray .int, 2) := by decide +kernel
theorem dX1_init_25 : decode cX1_init 25 = .ok (.putfield 16, 3) := by decide +kernel
theorem dX1_init_28 : decode cX1_init 28 = .ok (.return_, 1) := by decide +kernel
theorem dX1_add_0 : decode cX1_add 0 = .ok (.aload_n 0, 1) := by decide +kernel
theorem dX1_add_1 : decode cX1_add 1 = .ok (.getfield 19, 3) := by decide +kernel
theorem dX1_add_4 : decode cX1_add 4 = .ok (.bipush 8, 2) := by decide +kernel
theorem dX1_add_6 : decode cX1_add 6 = .ok (.if_icmp .lt 60, 3) := by decide +kernel
theorem dX1_add_9 : decode cX1_add 9 = .ok (.aload_n 0, 1) := by decide +kernel
theorem dX1_add_10 : decode cX1_add 10 = .ok (.bipush 7, 2) := by decide +kernel
theorem dX1_add_12 : decode cX1_add 12 = .ok (.putfield 19, 3) := by decide +kernel
theorem dX1_add_15 : decode cX1_add 15 = .ok (.aload_n 0, 1) := by decide +kernel
theorem dX1_add_16 : decode cX1_add 16 = .ok (.getfield 9, 3) := by decide +kernel
theorem dX1_add_19 : decode cX1_add 19 = .ok (.iconst 1, 1) := by decide +kernel
theorem dX1_add_20 : decode cX1_add 20 = .ok (.aload_n 0, 1) := by decide +kernel
theorem dX1_add_21 : decode cX1_add 21 = .ok (.getfield 9, 3) := by decide +kernel
theorem dX1_add_24 : decode cX1_add 24 = .ok (.iconst 0, 1) := by decide +kernel
theorem dX1_add_25 : decode cX1_add 25 = .ok (.aload_n 0, 1) := by decide +kernel
theorem dX1_add_26 : decode cX1_add 26 = .ok (.getfield 19, 3) := by decide +kernel
theorem dX1_add_29 : decode cX1_add 29 = .ok (.invokestatic 23, 3) := by decide +kernel
theorem dX1_add_32 : decode cX1_add 32 = .ok (.aload_n 0, 1) := by decide +kernel
theorem dX1_add_33 : decode cX1_add 33 = .ok (.getfield 13, 3) := by decide +kernel
theorem dX1_add_36 : decode cX1_add 36 = .ok (.iconst 1, 1) := by decide +kernel
theorem dX1_add_37 : decode cX1_add 37 = .ok (.aload_n 0, 1) := by decide +kernel
theorem dX1_add_38 : decode cX1_add 38 = .ok (.getfield 13, 3) := by decide +kernel
theorem dX1_add_41 : decode cX1_add 41 = .ok (.iconst 0, 1) := by decide +kernel
theorem dX1_add_42 : decode cX1_add 42 = .ok (.aload_n 0, 1) := by decide +kernel
theorem dX1_add_43 : decode cX1_add 43 = .ok (.getfield 19, 3) := by decide +kernel
theorem dX1_add_46 : decode cX1_add 46 = .ok (.invokestatic 23, 3) := by decide +kernel
theorem dX1_add_49 : decode cX1_add 49 = .ok (.aload_n 0, 1) := by decide +kernel
theorem dX1_add_50 : decode cX1_add 50 = .ok (.getfield 16, 3) := by decide +kernel
theorem dX1_add_53 : decode cX1_add 53 = .ok (.iconst 1, 1) := by decide +kernel
theorem dX1_add_54 : decode cX1_add 54 = .ok (.aload_n 0, 1) := by decide +kernel
theorem dX1_add_55 : decode cX1_add 55 = .ok (.getfield 16, 3) := by decide +kernel
theorem dX1_add_58 : decode cX1_add 58 = .ok (.iconst 0, 1) := by decide +kernel
theorem dX1_add_59 : decode cX1_add 59 = .ok (.aload_n 0, 1) := by decide +kernel
theorem dX1_add_60 : decode cX1_add 60 = .ok (.getfield 19, 3) := by decide +kernel
theorem dX1_add_63 : decode cX1_add 63 = .ok (.invokestatic 23, 3) := by decide +kernel
theorem dX1_add_66 : decode cX1_add 66 = .ok (.aload_n 0, 1) := by decide +kernel
theorem dX1_add_67 : decode cX1_add 67 = .ok (.getfield 9, 3) := by decide +kernel
theorem dX1_add_70 : decode cX1_add 70 = .ok (.aload_n 0, 1) := by decide +kernel
theorem dX1_add_71 : decode cX1_add 71 = .ok (.getfield 19, 3) := by decide +kernel
theorem dX1_add_74 : decode cX1_add 74 = .ok (.iload_n 1, 1) := by decide +kernel
theorem dX1_add_75 : decode cX1_add 75 = .ok (.iastore, 1) := by decide +kernel
theorem dX1_add_76 : decode cX1_add 76 = .ok (.aload_n 0, 1) := by decide +kernel
theorem dX1_add_77 : decode cX1_add 77 = .ok (.getfield 13, 3) := by decide +kernel
theorem dX1_add_80 : decode cX1_add 80 = .ok (.aload_n 0, 1) := by decide +kernel
theorem dX1_add_81 : decode cX1_add 81 = .ok (.getfield 19, 3) := by decide +kernel
theorem dX1_add_84 : decode cX1_add 84 = .ok (.iload_n 2, 1) := by decide +kernel
theorem dX1_add_85 : decode cX1_add 85 = .ok (.iastore, 1) := by decide +kernel
theorem dX1_add_86 : decode cX1_add 86 = .ok (.aload_n 0, 1) := by decide +kernel
theorem dX1_add_87 : decode cX1_add 87 = .ok (.getfield 16, 3) := by decide +kernel
theorem dX1_add_90 : decode cX1_add 90 = .ok (.aload_n 0, 1) := by decide +kernel
theorem dX1_add_91 : decode cX1_add 91 = .ok (.getfield 19, 3) := by decide +kernel
theorem dX1_add_94 : decode cX1_add 94 = .ok (.iload_n 3, 1) := by decide +kernel
theorem dX1_add_95 : decode cX1_add 95 = .ok (.iastore, 1) := by decide +kernel
theorem dX1_add_96 : decode cX1_add 96 = .ok (.aload_n 0, 1) := by decide +kernel
theorem dX1_add_97 : decode cX1_add 97 = .ok (.dup, 1) := by decide +kernel
theorem dX1_add_98 : decode cX1_add 98 = .ok (.getfield 19, 3) := by decide +kernel
theorem dX1_add_101 : decode cX1_add 101 = .ok (.iconst 1, 1) := by decide +kernel
theorem dX1_add_102 : decode cX1_add 102 = .ok (.iadd, 1) := by decide +kernel
theorem dX1_add_103 : decode cX1_add 103 = .ok (.putfield 19, 3) := by decide +kernel
theorem dX1_add_106 : decode cX1_add 106 = .ok (.return_, 1) := by decide +kernel
set_option maxRecDepth 20000 in
theorem ggX1_takeBack_X3_has : GoodIn wsX1_takeBack wsX3_has := goodIn_r _ [11, 12, 23, 24, 25, 26, 27] (by decide +kernel) (by decide +kernel)
set_option maxRecDepth 20000 in
theorem gX1_takeBack_X3_has : GoodIn wsX1_takeBack (wsV RX1 29 RX3 yX3_has wsX3_has) := goodIn_app (goodIn_of _ (by decide +kernel)) ggX1_takeBack_X3_has
set_option maxRecDepth 20000 in
theorem ggX1_takeBack_X3_hasPlace : GoodIn wsX1_takeBack wsX3_hasPlace := goodIn_r _ [16, 17, 18, 8, 9, 10, 11, 12, 23, 24, 25, 26, 27] (by decide +kernel) (by decide +kernel)
set_option maxRecDepth 20000 in
theorem gX1_takeBack_X3_hasPlace : GoodIn wsX1_takeBack (wsV RX1 38 RX3 yX3_hasPlace wsX3_hasPlace) := goodIn_app (goodIn_of _ (by decide +kernel)) ggX1_takeBack_X3_hasPlace
theorem dX1_takeBack_0 : decode cX1_takeBack 0 = .ok (.aload_n 0, 1) := by decide +kernel
theorem dX1_takeBack_1 : decode cX1_takeBack 1 = .ok (.getfield 19, 3) := by decide +kernel
theorem dX1_takeBack_4 : decode cX1_takeBack 4 = .ok (.ifCond .le 12, 3) := by decide +kernel
theorem dX1_takeBack_7 : decode cX1_takeBack 7 = .ok (.aload_n 0, 1) := by decide +kernel
theorem dX1_takeBack_8 : decode cX1_takeBack 8 = .ok (.getfield 19, 3) := by decide +kernel
theorem dX1_takeBack_11 : decode cX1_takeBack 11 = .ok (.bipush 8, 2) := by decide +kernel
theorem dX1_takeBack_13 : decode cX1_takeBack 13 = .ok (.if_icmp .le 4, 3) := by decide +kernel
theorem dX1_takeBack_16 : decode cX1_takeBack 16 = .ok (.return_, 1) := by decide +kernel
theorem dX1_takeBack_17 : decode cX1_takeBack 17 = .ok (.aload_n 0, 1) := by decide +kernel
theorem dX1_takeBack_18 : decode cX1_takeBack 18 = .ok (.dup, 1) := by decide +kernel
theorem dX1_takeBack_19 : decode cX1_takeBack 19 = .ok (.getfield 19, 3) := by decide +kernel
theorem dX1_takeBack_22 : decode cX1_takeBack 22 = .ok (.iconst 1, 1) := by decide +kernel
theorem dX1_takeBack_23 : decode cX1_takeBack 23 = .ok (.isub, 1) := by decide +kernel
theorem dX1_takeBack_24 : decode cX1_takeBack 24 = .ok (.putfield 19, 3) := by decide +kernel
theorem dX1_takeBack_27 : decode cX1_takeBack 27 = .ok (.aload_n 0, 1) := by decide +kernel
theorem dX1_takeBack_28 : decode cX1_takeBack 28 = .ok (.getfield 9, 3) := by decide +kernel
theorem dX1_takeBack_31 : decode cX1_takeBack 31 = .ok (.aload_n 0, 1) := by decide +kernel
theorem dX1_takeBack_32 : decode cX1_takeBack 32 = .ok (.getfield 19, 3) := by decide +kernel
theorem dX1_takeBack_35 : decode cX1_takeBack 35 = .ok (.iaload, 1) := by decide +kernel
theorem dX1_takeBack_36 : decode cX1_takeBack 36 = .ok (.istore_n 2, 1) := by decide +kernel
theorem dX1_takeBack_37 : decode cX1_takeBack 37 = .ok (.aload_n 0, 1) := by decide +kernel
theorem dX1_takeBack_38 : decode cX1_takeBack 38 = .ok (.getfield 13, 3) := by decide +kernel
theorem dX1_takeBack_41 : decode cX1_takeBack 41 = .ok (.aload_n 0, 1) := by decide +kernel
theorem dX1_takeBack_42 : decode cX1_takeBack 42 = .ok (.getfield 19, 3) := by decide +kernel
theorem dX1_takeBack_45 : decode cX1_takeBack 45 = .ok (.iaload, 1) := by decide +kernel
theorem dX1_takeBack_46 : decode cX1_takeBack 46 = .ok (.istore_n 3, 1) := by decide +kernel
theorem dX1_takeBack_47 : decode cX1_takeBack 47 = .ok (.iload_n 3, 1) := by decide +kernel
theorem dX1_takeBack_48 : decode cX1_takeBack 48 = .ok (.iconst (-1), 1) := by decide +kernel
theorem dX1_takeBack_49 : decode cX1_takeBack 49 = .ok (.if_icmp .ne 29, 3) := by decide +kernel
theorem dX1_takeBack_52 : decode cX1_takeBack 52 = .ok (.aload_n 1, 1) := by decide +kernel
theorem dX1_takeBack_53 : decode cX1_takeBack 53 = .ok (.iload_n 2, 1) := by decide +kernel
theorem dX1_takeBack_54 : decode cX1_takeBack 54 = .ok (.invokevirtual 29, 3) := by decide +kernel
theorem dX1_takeBack_57 : decode cX1_takeBack 57 = .ok (.ifCond .eq 21, 3) := by decide +kernel
theorem dX1_takeBack_60 : decode cX1_takeBack 60 = .ok (.aload_n 1, 1) := by decide +kernel
theorem dX1_takeBack_61 : decode cX1_takeBack 61 = .ok (.getfield 35, 3) := by decide +kernel
theorem dX1_takeBack_64 : decode cX1_takeBack 64 = .ok (.iload_n 2, 1) := by decide +kernel
theorem dX1_takeBack_65 : decode cX1_takeBack 65 = .ok (.aload_n 0, 1) := by decide +kernel
theorem dX1_takeBack_66 : decode cX1_takeBack 66 = .ok (.getfield 16, 3) := by decide +kernel
theorem dX1_takeBack_69 : decode cX1_takeBack 69 = .ok (.aload_n 0, 1) := by decide +kernel
theorem dX1_takeBack_70 : decode cX1_takeBack 70 = .ok (.getfield 19, 3) := by decide +kernel
theorem dX1_takeBack_73 : decode cX1_takeBack 73 = .ok (.iaload, 1) := by decide +kernel
theorem dX1_takeBack_74 : decode cX1_takeBack 74 = .ok (.iastore, 1) := by decide +kernel
theorem dX1_takeBack_75 : decode cX1_takeBack 75 = .ok (.goto 29, 3) := by decide +kernel
theorem dX1_takeBack_78 : decode cX1_takeBack 78 = .ok (.aload_n 1, 1) := by decide +kernel
theorem dX1_takeBack_79 : decode cX1_takeBack 79 = .ok (.iload_n 2, 1) := by decide +kernel
theorem dX1_takeBack_80 : decode cX1_takeBack 80 = .ok (.iload_n 3, 1) := by decide +kernel
theorem dX1_takeBack_81 : decode cX1_takeBack 81 = .ok (.invokevirtual 38, 3) := by decide +kernel
theorem dX1_takeBack_84 : decode cX1_takeBack 84 = .ok (.ifCond .eq 20, 3) := by decide +kernel
theorem dX1_takeBack_87 : decode cX1_takeBack 87 = .ok (.aload_n 1, 1) := by decide +kernel
theorem dX1_takeBack_88 : decode cX1_takeBack 88 = .ok (.getfield 42, 3) := by decide +kernel
theorem dX1_takeBack_91 : decode cX1_takeBack 91 = .ok (.iload_n 2, 1) := by decide +kernel
theorem dX1_takeBack_92 : decode cX1_takeBack 92 = .ok (.aaload, 1) := by decide +kernel
theorem dX1_takeBack_93 : decode cX1_takeBack 93 = .ok (.iload_n 3, 1) := by decide +kernel
theorem dX1_takeBack_94 : decode cX1_takeBack 94 = .ok (.aload_n 0, 1) := by decide +kernel
theorem dX1_takeBack_95 : decode cX1_takeBack 95 = .ok (.getfield 16, 3) := by decide +kernel
theorem dX1_takeBack_98 : decode cX1_takeBack 98 = .ok (.aload_n 0, 1) := by decide +kernel
theorem dX1_takeBack_99 : decode cX1_takeBack 99 = .ok (.getfield 19, 3) := by decide +kernel
theorem dX1_takeBack_102 : decode cX1_takeBack 102 = .ok (.iaload, 1) := by decide +kernel
theorem dX1_takeBack_103 : decode cX1_takeBack 103 = .ok (.iastore, 1) := by decide +kernel
theorem dX1_takeBack_104 : decode cX1_takeBack 104 = .ok (.return_, 1) := by decide +kernel
theorem dX1_clear_0 : decode cX1_clear 0 = .ok (.aload_n 0, 1) := by decide +kernel
theorem dX1_clear_1 : decode cX1_clear 1 = .ok (.iconst 0, 1) := by decide +kernel
theorem dX1_clear_2 : decode cX1_clear 2 = .ok (.putfield 19, 3) := by decide +kernel
theorem dX1_clear_5 : decode cX1_clear 5 = .ok (.return_, 1) := by decide +kernel
set_option maxRecDepth 20000 in
theorem ggX2_numberOf_J0_indexOf_0f7a4 : GoodIn wsX2_numberOf wsJ0_indexOf_0f7a4 := goodIn_r _ [5, 6, 7, 8, 4, 9, 10, 11, 12, 13, 14, 15, 16, 17, 18, 19, 20, 21, 22, 23, 24, 25, 26, 27, 28, 29, 30, 31, 32, 33, 34, 35, 36, 37, 38, 39, 40, 41, 42, 43, 44, 45, 46, 47, 48, 49, 50, 51, 52, 53, 54, 55, 56, 57, 58, 59, 60, 61, 62, 63, 64, 65, 66, 67, 68, 69, 70, 71, 72, 73, 74, 75, 76, 77, 78, 79, 80, 81, 82, 83, 84, 85, 86, 87, 88, 89] (by decide +kernel) (by decide +kernel)
set_option maxRecDepth 20000 in
theorem gX2_numberOf_J0_indexOf_0f7a4 : GoodIn wsX2_numberOf (wsV RX2 13 RJ0 yJ0_indexOf_0f7a4 wsJ0_indexOf_0f7a4) := goodIn_app (goodIn_of _ (by decide +kernel)) ggX2_numberOf_J0_indexOf_0f7a4
theorem dX2_numberOf_0 : decode cX2_numberOf 0 = .ok (.iload_n 0, 1) := by decide +kernel
theorem dX2_numberOf_1 : decode cX2_numberOf 1 = .ok (.bipush 32, 2) := by decide +kernel
theorem dX2_numberOf_3 : decode cX2_numberOf 3 = .ok (.if_icmp .lt 9, 3) := by decide +kernel
theorem dX2_numberOf_6 : decode cX2_numberOf 6 = .ok (.iload_n 0, 1) := by decide +kernel
theorem dX2_numberOf_7 : decode cX2_numberOf 7 = .ok (.bipush 126, 2) := by decide +kernel
theorem dX2_numberOf_9 : decode cX2_numberOf 9 = .ok (.if_icmp .le 7, 3) := by decide +kernel
theorem dX2_numberOf_12 : decode cX2_numberOf 12 = .ok (.iconst (-1), 1) := by decide +kernel
theorem dX2_numberOf_13 : decode cX2_numberOf 13 = .ok (.goto 10, 3) := by decide +kernel
theorem dX2_numberOf_16 : decode cX2_numberOf 16 = .ok (.ldc 11, 2) := by decide +kernel
theorem dX2_numberOf_18 : decode cX2_numberOf 18 = .ok (.iload_n 0, 1) := by decide +kernel
theorem dX2_numberOf_19 : decode cX2_numberOf 19 = .ok (.i2c, 1) := by decide +kernel
theorem dX2_numberOf_20 : decode cX2_numberOf 20 = .ok (.invokevirtual 13, 3) := by decide +kernel
theorem dX2_numberOf_23 : decode cX2_numberOf 23 = .ok (.ireturn, 1) := by decide +kernel
set_option maxRecDepth 20000 in
theorem ggX2_signOf_J0_charAt_5068e : GoodIn wsX2_signOf wsJ0_charAt_5068e := goodIn_r _ [5, 6, 7, 8, 9, 4, 10, 11, 12, 13, 14, 15, 16, 17, 18, 19, 20, 21, 22, 23, 24, 25, 26, 27, 28, 29, 30, 31, 32, 33, 34, 35, 36, 37, 38, 39, 40, 41] (by decide +kernel) (by decide +kernel)
set_option maxRecDepth 20000 in
theorem gX2_signOf_J0_charAt_5068e : GoodIn wsX2_signOf (wsV RX2 19 RJ0 yJ0_charAt_5068e wsJ0_charAt_5068e) := goodIn_app (goodIn_of _ (by decide +kernel)) ggX2_signOf_J0_charAt_5068e
theorem dX2_signOf_0 : decode cX2_signOf 0 = .ok (.iload_n 0, 1) := by decide +kernel
theorem dX2_signOf_1 : decode cX2_signOf 1 = .ok (.ifCond .lt 9, 3) := by decide +kernel
theorem dX2_signOf_4 : decode cX2_signOf 4 = .ok (.iload_n 0, 1) := by decide +kernel
theorem dX2_signOf_5 : decode cX2_signOf 5 = .ok (.bipush 14, 2) := by decide +kernel
theorem dX2_signOf_7 : decode cX2_signOf 7 = .ok (.if_icmp .lt 7, 3) := by decide +kernel
theorem dX2_signOf_10 : decode cX2_signOf 10 = .ok (.iconst (-1), 1) := by decide +kernel
theorem dX2_signOf_11 : decode cX2_signOf 11 = .ok (.goto 9, 3) := by decide +kernel
theorem dX2_signOf_14 : decode cX2_signOf 14 = .ok (.ldc 11, 2) := by decide +kernel
theorem dX2_signOf_16 : decode cX2_signOf 16 = .ok (.iload_n 0, 1) := by decide +kernel
theorem dX2_signOf_17 : decode cX2_signOf 17 = .ok (.invokevirtual 19, 3) := by decide +kernel
theorem dX2_signOf_20 : decode cX2_signOf 20 = .ok (.ireturn, 1) := by decide +kernel
theorem dX3_init_0 : decode cX3_init 0 = .ok (.aload_n 0, 1) := by decide +kernel
theorem dX3_init_1 : decode cX3_init 1 = .ok (.invokespecial 1, 3) := by decide +kernel
theorem dX3_init_4 : decode cX3_init 4 = .ok (.aload_n 0, 1) := by decide +kernel
theorem dX3_init_5 : decode cX3_init 5 = .ok (.iconst 4, 1) := by decide +kernel
theorem dX3_init_6 : decode cX3_init 6 = .ok (.newarray .int, 2) := by decide +kernel
theorem dX3_init_8 : decode cX3_init 8 = .ok (.putfield 9, 3) := by decide +kernel
theorem dX3_init_11 : decode cX3_init 11 = .ok (.aload_n 0, 1) := by decide +kernel
theorem dX3_init_12 : decode cX3_init 12 = .ok (.iconst 4, 1) := by decide +kernel
theorem dX3_init_13 : decode cX3_init 13 = .ok (.newarray .int, 2) := by decide +kernel
theorem dX3_init_15 : decode cX3_init 15 = .ok (.putfield 13, 3) := by decide +kernel
theorem dX3_init_18 : decode cX3_init 18 = .ok (.aload_n 0, 1) := by decide +kernel
theorem dX3_init_19 : decode cX3_init 19 = .ok (.iconst 4, 1) := by decide +kernel
theorem dX3_init_20 : decode cX3_init 20 = .ok (.newarray .int, 2) := by decide +kernel
theorem dX3_init_22 : decode cX3_init 22 = .ok (.putfield 16, 3) := by decide +kernel
theorem dX3_init_25 : decode cX3_init 25 = .ok (.aload_n 0, 1) := by decide +kernel
theorem dX3_init_26 : decode cX3_init 26 = .ok (.iconst 4, 1) := by decide +kernel
theorem dX3_init_27 : decode cX3_init 27 = .ok (.bipush 24, 2) := by decide +kernel
theorem dX3_init_29 : decode cX3_init 29 = .ok (.multianewarray 19 2, 4) := by decide +kernel
theorem dX3_init_33 : decode cX3_init 33 = .ok (.putfield 21, 3) := by decide +kernel
theorem dX3_init_36 : decode cX3_init 36 = .ok (.return_, 1) := by decide +kernel
theorem dX3_takeFrom_0 : decode cX3_takeFrom 0 = .ok (.aload_n 0, 1) := by decide +kernel
theorem dX3_takeFrom_1 : decode cX3_takeFrom 1 = .ok (.aload_n 1, 1) := by decide +kernel
theorem dX3_takeFrom_2 : decode cX3_takeFrom 2 = .ok (.getfield 24, 3) := by decide +kernel
theorem dX3_takeFrom_5 : decode cX3_takeFrom 5 = .ok (.putfield 24, 3) := by decide +kernel
theorem dX3_takeFrom_8 : decode cX3_takeFrom 8 = .ok (.iconst 0, 1) := by decide +kernel
theorem dX3_takeFrom_9 : decode cX3_takeFrom 9 = .ok (.istore_n 2, 1) := by decide +kernel
theorem dX3_takeFrom_10 : decode cX3_takeFrom 10 = .ok (.iload_n 2, 1) := by decide +kernel
theorem dX3_takeFrom_11 : decode cX3_takeFrom 11 = .ok (.iconst 4, 1) := by decide +kernel
theorem dX3_takeFrom_12 : decode cX3_takeFrom 12 = .ok (.if_icmp .ge 64, 3) := by decide +kernel
theorem dX3_takeFrom_15 : decode cX3_takeFrom 15 = .ok (.aload_n 0, 1) := by decide +kernel
theorem dX3_takeFrom_16 : decode cX3_takeFrom 16 = .ok (.getfield 9, 3) := by decide +kernel
theorem dX3_takeFrom_19 : decode cX3_takeFrom 19 = .ok (.iload_n 2, 1) := by decide +kernel
theorem dX3_takeFrom_20 : decode cX3_takeFrom 20 = .ok (.aload_n 1, 1) := by decide +kernel
theorem dX3_takeFrom_21 : decode cX3_takeFrom 21 = .ok (.getfield 9, 3) := by decide +kernel
theorem dX3_takeFrom_24 : decode cX3_takeFrom 24 = .ok (.iload_n 2, 1) := by decide +kernel
theorem dX3_takeFrom_25 : decode cX3_takeFrom 25 = .ok (.iaload, 1) := by decide +kernel
theorem dX3_takeFrom_26 : decode cX3_takeFrom 26 = .ok (.iastore, 1) := by decide +kernel
theorem dX3_takeFrom_27 : decode cX3_takeFrom 27 = .ok (.aload_n 0, 1) := by decide +kernel
theorem dX3_takeFrom_28 : decode cX3_takeFrom 28 = .ok (.getfield 13, 3) := by decide +kernel
theorem dX3_takeFrom_31 : decode cX3_takeFrom 31 = .ok (.iload_n 2, 1) := by decide +kernel
theorem dX3_takeFrom_32 : decode cX3_takeFrom 32 = .ok (.aload_n 1, 1) := by decide +kernel
theorem dX3_takeFrom_33 : decode cX3_takeFrom 33 = .ok (.getfield 13, 3) := by decide +kernel
theorem dX3_takeFrom_36 : decode cX3_takeFrom 36 = .ok (.iload_n 2, 1) := by decide +kernel
theorem dX3_takeFrom_37 : decode cX3_takeFrom 37 = .ok (.iaload, 1) := by decide +kernel
theorem dX3_takeFrom_38 : decode cX3_takeFrom 38 = .ok (.iastore, 1) := by decide +kernel
theorem dX3_takeFrom_39 : decode cX3_takeFrom 39 = .ok (.aload_n 0, 1) := by decide +kernel
theorem dX3_takeFrom_40 : decode cX3_takeFrom 40 = .ok (.getfield 16, 3) := by decide +kernel
theorem dX3_takeFrom_43 : decode cX3_takeFrom 43 = .ok (.iload_n 2, 1) := by decide +kernel
theorem dX3_takeFrom_44 : decode cX3_takeFrom 44 = .ok (.aload_n 1, 1) := by decide +kernel
theorem dX3_takeFrom_45 : decode cX3_takeFrom 45 = .ok (.getfield 16, 3) := by decide +kernel
theorem dX3_takeFrom_48 : decode cX3_takeFrom 48 = .ok (.iload_n 2, 1) := by decide +kernel
theorem dX3_takeFrom_49 : decode cX3_takeFrom 49 = .ok (.iaload, 1) := by decide +kernel
theorem dX3_takeFrom_50 : decode cX3_takeFrom 50 = .ok (.iastore, 1) := by decide +kernel
theorem dX3_takeFrom_51 : decode cX3_takeFrom 51 = .ok (.aload_n 1, 1) := by decide +kernel
theorem dX3_takeFrom_52 : decode cX3_takeFrom 52 = .ok (.getfield 21, 3) := by decide +kernel
theorem dX3_takeFrom_55 : decode cX3_takeFrom 55 = .ok (.iload_n 2, 1) := by decide +kernel
theorem dX3_takeFrom_56 : decode cX3_takeFrom 56 = .ok (.aaload, 1) := by decide +kernel
theorem dX3_takeFrom_57 : decode cX3_takeFrom 57 = .ok (.iconst 0, 1) := by decide +kernel
theorem dX3_takeFrom_58 : decode cX3_takeFrom 58 = .ok (.aload_n 0, 1) := by decide +kernel
theorem dX3_takeFrom_59 : decode cX3_takeFrom 59 = .ok (.getfield 21, 3) := by decide +kernel
theorem dX3_takeFrom_62 : decode cX3_takeFrom 62 = .ok (.iload_n 2, 1) := by decide +kernel
theorem dX3_takeFrom_63 : decode cX3_takeFrom 63 = .ok (.aaload, 1) := by decide +kernel
theorem dX3_takeFrom_64 : decode cX3_takeFrom 64 = .ok (.iconst 0, 1) := by decide +kernel
theorem dX3_takeFrom_65 : decode cX3_takeFrom 65 = .ok (.bipush 24, 2) := by decide +kernel
theorem dX3_takeFrom_67 : decode cX3_takeFrom 67 = .ok (.invokestatic 28, 3) := by decide +kernel
theorem dX3_takeFrom_70 : decode cX3_takeFrom 70 = .ok (.iinc 2 1, 3) := by decide +kernel
theorem dX3_takeFrom_73 : decode cX3_takeFrom 73 = .ok (.goto (-63), 3) := by decide +kernel
theorem dX3_takeFrom_76 : decode cX3_takeFrom 76 = .ok (.return_, 1) := by decide +kernel
theorem dX3_has_0 : decode cX3_has 0 = .ok (.iload_n 1, 1) := by decide +kernel
theorem dX3_has_1 : decode cX3_has 1 = .ok (.ifCond .lt 15, 3) := by decide +kernel
theorem dX3_has_4 : decode cX3_has 4 = .ok (.iload_n 1, 1) := by decide +kernel
theorem dX3_has_5 : decode cX3_has 5 = .ok (.aload_n 0, 1) := by decide +kernel
theorem dX3_has_6 : decode cX3_has 6 = .ok (.getfield 24, 3) := by decide +kernel
theorem dX3_has_9 : decode cX3_has 9 = .ok (.if_icmp .ge 7, 3) := by decide +kernel
theorem dX3_has_12 : decode cX3_has 12 = .ok (.iconst 1, 1) := by decide +kernel
theorem dX3_has_13 : decode cX3_has 13 = .ok (.goto 4, 3) := by decide +kernel
theorem dX3_has_16 : decode cX3_has 16 = .ok (.iconst 0, 1) := by decide +kernel
theorem dX3_has_17 : decode cX3_has 17 = .ok (.ireturn, 1) := by decide +kernel
set_option maxRecDepth 20000 in
theorem ggX3_hasPlace_X3_has : GoodIn wsX3_hasPlace wsX3_has := goodIn_r _ [6, 7, 8, 9, 10, 11, 12] (by decide +kernel) (by decide +kernel)
set_option maxRecDepth 20000 in
theorem gX3_hasPlace_X3_has : GoodIn wsX3_hasPlace (wsV RX3 34 RX3 yX3_has wsX3_has) := goodIn_app (goodIn_of _ (by decide +kernel)) ggX3_hasPlace_X3_has
theorem dX3_hasPlace_0 : decode cX3_hasPlace 0 = .ok (.aload_n 0, 1) := by decide +kernel
theorem dX3_hasPlace_1 : decode cX3_hasPlace 1 = .ok (.iload_n 1, 1) := by decide +kernel
theorem dX3_hasPlace_2 : decode cX3_hasPlace 2 = .ok (.invokevirtual 34, 3) := by decide +kernel
theorem dX3_hasPlace_5 : decode cX3_hasPlace 5 = .ok (.ifCond .eq 21, 3) := by decide +kernel
theorem dX3_hasPlace_8 : decode cX3_hasPlace 8 = .ok (.iload_n 2, 1) := by decide +kernel
theorem dX3_hasPlace_9 : decode cX3_hasPlace 9 = .ok (.ifCond .lt 17, 3) := by decide +kernel
theorem dX3_hasPlace_12 : decode cX3_hasPlace 12 = .ok (.iload_n 2, 1) := by decide +kernel
theorem dX3_hasPlace_13 : decode cX3_hasPlace 13 = .ok (.aload_n 0, 1) := by decide +kernel
theorem dX3_hasPlace_14 : decode cX3_hasPlace 14 = .ok (.getfield 16, 3) := by decide +kernel
theorem dX3_hasPlace_17 : decode cX3_hasPlace 17 = .ok (.iload_n 1, 1) := by decide +kernel
theorem dX3_hasPlace_18 : decode cX3_hasPlace 18 = .ok (.iaload, 1) := by decide +kernel
theorem dX3_hasPlace_19 : decode cX3_hasPlace 19 = .ok (.if_icmp .ge 7, 3) := by decide +kernel
theorem dX3_hasPlace_22 : decode cX3_hasPlace 22 = .ok (.iconst 1, 1) := by decide +kernel
theorem dX3_hasPlace_23 : decode cX3_hasPlace 23 = .ok (.goto 4, 3) := by decide +kernel
theorem dX3_hasPlace_26 : decode cX3_hasPlace 26 = .ok (.iconst 0, 1) := by decide +kernel
theorem dX3_hasPlace_27 : decode cX3_hasPlace 27 = .ok (.ireturn, 1) := by decide +kernel
set_option maxRecDepth 20000 in
theorem ggX3_partsOf_X3_has : GoodIn wsX3_partsOf wsX3_has := goodIn_r _ [6, 7, 8, 9, 10, 11, 12] (by decide +kernel) (by decide +kernel)
set_option maxRecDepth 20000 in
theorem gX3_partsOf_X3_has : GoodIn wsX3_partsOf (wsV RX3 34 RX3 yX3_has wsX3_has) := goodIn_app (goodIn_of _ (by decide +kernel)) ggX3_partsOf_X3_has
theorem dX3_partsOf_0 : decode cX3_partsOf 0 = .ok (.aload_n 0, 1) := by decide +kernel
theorem dX3_partsOf_1 : decode cX3_partsOf 1 = .ok (.iload_n 1, 1) := by decide +kernel
theorem dX3_partsOf_2 : decode cX3_partsOf 2 = .ok (.bipush 10, 2) := by decide +kernel
theorem dX3_partsOf_4 : decode cX3_partsOf 4 = .ok (.isub, 1) := by decide +kernel
theorem dX3_partsOf_5 : decode cX3_partsOf 5 = .ok (.invokevirtual 34, 3) := by decide +kernel
theorem dX3_partsOf_8 : decode cX3_partsOf 8 = .ok (.ifCond .eq 13, 3) := by decide +kernel
theorem dX3_partsOf_11 : decode cX3_partsOf 11 = .ok (.aload_n 0, 1) := by decide +kernel
theorem dX3_partsOf_12 : decode cX3_partsOf 12 = .ok (.getfield 9, 3) := by decide +kernel
theorem dX3_partsOf_15 : decode cX3_partsOf 15 = .ok (.iload_n 1, 1) := by decide +kernel
theorem dX3_partsOf_16 : decode cX3_partsOf 16 = .ok (.bipush 10, 2) := by decide +kernel
theorem dX3_partsOf_18 : decode cX3_partsOf 18 = .ok (.isub, 1) := by decide +kernel
theorem dX3_partsOf_19 : decode cX3_partsOf 19 = .ok (.iaload, 1) := by decide +kernel
theorem dX3_partsOf_20 : decode cX3_partsOf 20 = .ok (.ireturn, 1) := by decide +kernel
theorem dX3_partsOf_21 : decode cX3_partsOf 21 = .ok (.iload_n 1, 1) := by decide +kernel
theorem dX3_partsOf_22 : decode cX3_partsOf 22 = .ok (.tableswitch 36 6 9 #[30, 32, 32, 34], 30) := by decide +kernel
theorem dX3_partsOf_52 : decode cX3_partsOf 52 = .ok (.iconst 1, 1) := by decide +kernel
theorem dX3_partsOf_53 : decode cX3_partsOf 53 = .ok (.ireturn, 1) := by decide +kernel
theorem dX3_partsOf_54 : decode cX3_partsOf 54 = .ok (.iconst 2, 1) := by decide +kernel
theorem dX3_partsOf_55 : decode cX3_partsOf 55 = .ok (.ireturn, 1) := by decide +kernel
theorem dX3_partsOf_56 : decode cX3_partsOf 56 = .ok (.iconst 3, 1) := by decide +kernel
theorem dX3_partsOf_57 : decode cX3_partsOf 57 = .ok (.ireturn, 1) := by decide +kernel
theorem dX3_partsOf_58 : decode cX3_partsOf 58 = .ok (.iconst 0, 1) := by decide +kernel
theorem dX3_partsOf_59 : decode cX3_partsOf 59 = .ok (.ireturn, 1) := by decide +kernel
set_option maxRecDepth 20000 in
theorem ggX3_mayStand_X3_has : GoodIn wsX3_mayStand wsX3_has := goodIn_r _ [6, 7, 8, 9, 10, 11, 12] (by decide +kernel) (by decide +kernel)
set_option maxRecDepth 20000 in
theorem gX3_mayStand_X3_has : GoodIn wsX3_mayStand (wsV RX3 34 RX3 yX3_has wsX3_has) := goodIn_app (goodIn_of _ (by decide +kernel)) ggX3_mayStand_X3_has
theorem dX3_mayStand_0 : decode cX3_mayStand 0 = .ok (.aload_n 0, 1) := by decide +kernel
theorem dX3_mayStand_1 : decode cX3_mayStand 1 = .ok (.iload_n 1, 1) := by decide +kernel
theorem dX3_mayStand_2 : decode cX3_mayStand 2 = .ok (.invokevirtual 34, 3) := by decide +kernel
theorem dX3_mayStand_5 : decode cX3_mayStand 5 = .ok (.ifCond .eq 7, 3) := by decide +kernel
theorem dX3_mayStand_8 : decode cX3_mayStand 8 = .ok (.iload_n 2, 1) := by decide +kernel
theorem dX3_mayStand_9 : decode cX3_mayStand 9 = .ok (.ifCond .ge 5, 3) := by decide +kernel
theorem dX3_mayStand_12 : decode cX3_mayStand 12 = .ok (.iconst 0, 1) := by decide +kernel
theorem dX3_mayStand_13 : decode cX3_mayStand 13 = .ok (.ireturn, 1) := by decide +kernel
theorem dX3_mayStand_14 : decode cX3_mayStand 14 = .ok (.iload_n 2, 1) := by decide +kernel
theorem dX3_mayStand_15 : decode cX3_mayStand 15 = .ok (.bipush 10, 2) := by decide +kernel
theorem dX3_mayStand_17 : decode cX3_mayStand 17 = .ok (.if_icmp .lt 12, 3) := by decide +kernel
theorem dX3_mayStand_20 : decode cX3_mayStand 20 = .ok (.aload_n 0, 1) := by decide +kernel
theorem dX3_mayStand_21 : decode cX3_mayStand 21 = .ok (.iload_n 2, 1) := by decide +kernel
theorem dX3_mayStand_22 : decode cX3_mayStand 22 = .ok (.bipush 10, 2) := by decide +kernel
theorem dX3_mayStand_24 : decode cX3_mayStand 24 = .ok (.isub, 1) := by decide +kernel
theorem dX3_mayStand_25 : decode cX3_mayStand 25 = .ok (.invokevirtual 34, 3) := by decide +kernel
theorem dX3_mayStand_28 : decode cX3_mayStand 28 = .ok (.ireturn, 1) := by decide +kernel
theorem dX3_mayStand_29 : decode cX3_mayStand 29 = .ok (.iload_n 2, 1) := by decide +kernel
theorem dX3_mayStand_30 : decode cX3_mayStand 30 = .ok (.iconst 3, 1) := by decide +kernel
theorem dX3_mayStand_31 : decode cX3_mayStand 31 = .ok (.if_icmp .lt 21, 3) := by decide +kernel
theorem dX3_mayStand_34 : decode cX3_mayStand 34 = .ok (.iload_n 2, 1) := by decide +kernel
theorem dX3_mayStand_35 : decode cX3_mayStand 35 = .ok (.bipush 6, 2) := by decide +kernel
theorem dX3_mayStand_37 : decode cX3_mayStand 37 = .ok (.if_icmp .ge 15, 3) := by decide +kernel
theorem dX3_mayStand_40 : decode cX3_mayStand 40 = .ok (.iload_n 2, 1) := by decide +kernel
theorem dX3_mayStand_41 : decode cX3_mayStand 41 = .ok (.iconst 3, 1) := by decide +kernel
theorem dX3_mayStand_42 : decode cX3_mayStand 42 = .ok (.isub, 1) := by decide +kernel
theorem dX3_mayStand_43 : decode cX3_mayStand 43 = .ok (.aload_n 0, 1) := by decide +kernel
theorem dX3_mayStand_44 : decode cX3_mayStand 44 = .ok (.getfield 9, 3) := by decide +kernel
theorem dX3_mayStand_47 : decode cX3_mayStand 47 = .ok (.iload_n 1, 1) := by decide +kernel
theorem dX3_mayStand_48 : decode cX3_mayStand 48 = .ok (.iaload, 1) := by decide +kernel
theorem dX3_mayStand_49 : decode cX3_mayStand 49 = .ok (.if_icmp .ge 7, 3) := by decide +kernel
theorem dX3_mayStand_52 : decode cX3_mayStand 52 = .ok (.iconst 1, 1) := by decide +kernel
theorem dX3_mayStand_53 : decode cX3_mayStand 53 = .ok (.goto 4, 3) := by decide +kernel
theorem dX3_mayStand_56 : decode cX3_mayStand 56 = .ok (.iconst 0, 1) := by decide +kernel
theorem dX3_mayStand_57 : decode cX3_mayStand 57 = .ok (.ireturn, 1) := by decide +kernel
set_option maxRecDepth 20000 in
theorem ggX3_fits_X3_hasPlace : GoodIn wsX3_fits wsX3_hasPlace := goodIn_r _ [6, 7, 8, 9, 10, 5, 11, 12, 22, 23, 24, 25, 26] (by decide +kernel) (by decide +kernel)
set_option maxRecDepth 20000 in
theorem gX3_fits_X3_hasPlace : GoodIn wsX3_fits (wsV RX3 40 RX3 yX3_hasPlace wsX3_hasPlace) := goodIn_app (goodIn_of _ (by decide +kernel)) ggX3_fits_X3_hasPlace
set_option maxRecDepth 20000 in
theorem ggX3_fits_X3_mayStand : GoodIn wsX3_fits wsX3_mayStand := goodIn_r _ [16, 17, 8, 9, 10, 5, 11, 12, 22, 23, 24, 25, 26] (by decide +kernel) (by decide +kernel)
set_option maxRecDepth 20000 in
theorem gX3_fits_X3_mayStand : GoodIn wsX3_fits (wsV RX3 44 RX3 yX3_mayStand wsX3_mayStand) := goodIn_app (goodIn_of _ (by decide +kernel)) ggX3_fits_X3_mayStand
set_option maxRecDepth 20000 in
theorem ggX3_fits_X3_partsOf : GoodIn wsX3_fits wsX3_partsOf := goodIn_r _ [21, 17, 8, 9, 10, 5, 11, 12, 22, 23, 24, 25, 26] (by decide +kernel) (by decide +kernel)
set_option maxRecDepth 20000 in
theorem gX3_fits_X3_partsOf : GoodIn wsX3_fits (wsV RX3 47 RX3 yX3_partsOf wsX3_partsOf) := goodIn_app (goodIn_of _ (by decide +kernel)) ggX3_fits_X3_partsOf
theorem dX3_fits_0 : decode cX3_fits 0 = .ok (.aload_n 0, 1) := by decide +kernel
theorem dX3_fits_1 : decode cX3_fits 1 = .ok (.iload_n 1, 1) := by decide +kernel
theorem dX3_fits_2 : decode cX3_fits 2 = .ok (.iload_n 2, 1) := by decide +kernel
theorem dX3_fits_3 : decode cX3_fits 3 = .ok (.invokevirtual 40, 3) := by decide +kernel
theorem dX3_fits_6 : decode cX3_fits 6 = .ok (.ifCond .eq 36, 3) := by decide +kernel
theorem dX3_fits_9 : decode cX3_fits 9 = .ok (.aload_n 0, 1) := by decide +kernel
theorem dX3_fits_10 : decode cX3_fits 10 = .ok (.iload_n 1, 1) := by decide +kernel
theorem dX3_fits_11 : decode cX3_fits 11 = .ok (.iload_n 3, 1) := by decide +kernel
theorem dX3_fits_12 : decode cX3_fits 12 = .ok (.invokevirtual 44, 3) := by decide +kernel
theorem dX3_fits_15 : decode cX3_fits 15 = .ok (.ifCond .eq 27, 3) := by decide +kernel
theorem dX3_fits_18 : decode cX3_fits 18 = .ok (.aload_n 0, 1) := by decide +kernel
theorem dX3_fits_19 : decode cX3_fits 19 = .ok (.iload_n 3, 1) := by decide +kernel
theorem dX3_fits_20 : decode cX3_fits 20 = .ok (.invokevirtual 47, 3) := by decide +kernel
theorem dX3_fits_23 : decode cX3_fits 23 = .ok (.aload_n 0, 1) := by decide +kernel
theorem dX3_fits_24 : decode cX3_fits 24 = .ok (.aload_n 0, 1) := by decide +kernel
theorem dX3_fits_25 : decode cX3_fits 25 = .ok (.getfield 21, 3) := by decide +kernel
theorem dX3_fits_28 : decode cX3_fits 28 = .ok (.iload_n 1, 1) := by decide +kernel
theorem dX3_fits_29 : decode cX3_fits 29 = .ok (.aaload, 1) := by decide +kernel
theorem dX3_fits_30 : decode cX3_fits 30 = .ok (.iload_n 2, 1) := by decide +kernel
theorem dX3_fits_31 : decode cX3_fits 31 = .ok (.iaload, 1) := by decide +kernel
theorem dX3_fits_32 : decode cX3_fits 32 = .ok (.invokevirtual 47, 3) := by decide +kernel
theorem dX3_fits_35 : decode cX3_fits 35 = .ok (.if_icmp .ne 7, 3) := by decide +kernel
theorem dX3_fits_38 : decode cX3_fits 38 = .ok (.iconst 1, 1) := by decide +kernel
theorem dX3_fits_39 : decode cX3_fits 39 = .ok (.goto 4, 3) := by decide +kernel
theorem dX3_fits_42 : decode cX3_fits 42 = .ok (.iconst 0, 1) := by decide +kernel
theorem dX3_fits_43 : decode cX3_fits 43 = .ok (.ireturn, 1) := by decide +kernel
set_option maxRecDepth 20000 in
theorem ggX3_turnLetter_X3_has : GoodIn wsX3_turnLetter wsX3_has := goodIn_r _ [8, 1, 26, 27, 28, 29, 30] (by decide +kernel) (by decide +kernel)
set_option maxRecDepth 20000 in
theorem gX3_turnLetter_X3_has : GoodIn wsX3_turnLetter (wsV RX3 34 RX3 yX3_has wsX3_has) := goodIn_app (goodIn_of _ (by decide +kernel)) ggX3_turnLetter_X3_has
set_option maxRecDepth 20000 in
theorem ggX3_turnLetter_X3_fits : GoodIn wsX3_turnLetter wsX3_fits := goodIn_r _ [12, 3, 13, 14, 15, 7, 16, 2, 4, 5, 6, 8, 1, 17, 18, 19, 20, 21, 22, 23, 24, 25, 26, 27, 28, 29, 30] (by decide +kernel) (by decide +kernel)
set_option maxRecDepth 20000 in
theorem gX3_turnLetter_X3_fits : GoodIn wsX3_turnLetter (wsV RX3 51 RX3 yX3_fits wsX3_fits) := goodIn_app (goodIn_of _ (by decide +kernel)) ggX3_turnLetter_X3_fits
theorem dX3_turnLetter_0 : decode cX3_turnLetter 0 = .ok (.iload_n 1, 1) := by decide +kernel
theorem dX3_turnLetter_1 : decode cX3_turnLetter 1 = .ok (.ifCond .lt 10, 3) := by decide +kernel
theorem dX3_turnLetter_4 : decode cX3_turnLetter 4 = .ok (.aload_n 0, 1) := by decide +kernel
theorem dX3_turnLetter_5 : decode cX3_turnLetter 5 = .ok (.getfield 24, 3) := by decide +kernel
theorem dX3_turnLetter_8 : decode cX3_turnLetter 8 = .ok (.ifCond .gt 4, 3) := by decide +kernel
theorem dX3_turnLetter_11 : decode cX3_turnLetter 11 = .ok (.return_, 1) := by decide +kernel
theorem dX3_turnLetter_12 : decode cX3_turnLetter 12 = .ok (.iload_n 1, 1) := by decide +kernel
theorem dX3_turnLetter_13 : decode cX3_turnLetter 13 = .ok (.aload_n 0, 1) := by decide +kernel
theorem dX3_turnLetter_14 : decode cX3_turnLetter 14 = .ok (.getfield 24, 3) := by decide +kernel
theorem dX3_turnLetter_17 : decode cX3_turnLetter 17 = .ok (.irem, 1) := by decide +kernel
theorem dX3_turnLetter_18 : decode cX3_turnLetter 18 = .ok (.istore_n 2, 1) := by decide +kernel
theorem dX3_turnLetter_19 : decode cX3_turnLetter 19 = .ok (.aload_n 0, 1) := by decide +kernel
theorem dX3_turnLetter_20 : decode cX3_turnLetter 20 = .ok (.iload_n 2, 1) := by decide +kernel
theorem dX3_turnLetter_21 : decode cX3_turnLetter 21 = .ok (.invokevirtual 34, 3) := by decide +kernel
theorem dX3_turnLetter_24 : decode cX3_turnLetter 24 = .ok (.ifCond .eq 12, 3) := by decide +kernel
theorem dX3_turnLetter_27 : decode cX3_turnLetter 27 = .ok (.aload_n 0, 1) := by decide +kernel
theorem dX3_turnLetter_28 : decode cX3_turnLetter 28 = .ok (.getfield 16, 3) := by decide +kernel
theorem dX3_turnLetter_31 : decode cX3_turnLetter 31 = .ok (.iload_n 2, 1) := by decide +kernel
theorem dX3_turnLetter_32 : decode cX3_turnLetter 32 = .ok (.iaload, 1) := by decide +kernel
theorem dX3_turnLetter_33 : decode cX3_turnLetter 33 = .ok (.ifCond .gt 4, 3) := by decide +kernel
theorem dX3_turnLetter_36 : decode cX3_turnLetter 36 = .ok (.return_, 1) := by decide +kernel
theorem dX3_turnLetter_37 : decode cX3_turnLetter 37 = .ok (.iload_n 1, 1) := by decide +kernel
theorem dX3_turnLetter_38 : decode cX3_turnLetter 38 = .ok (.bipush 8, 2) := by decide +kernel
theorem dX3_turnLetter_40 : decode cX3_turnLetter 40 = .ok (.idiv, 1) := by decide +kernel
theorem dX3_turnLetter_41 : decode cX3_turnLetter 41 = .ok (.aload_n 0, 1) := by decide +kernel
theorem dX3_turnLetter_42 : decode cX3_turnLetter 42 = .ok (.getfield 16, 3) := by decide +kernel
theorem dX3_turnLetter_45 : decode cX3_turnLetter 45 = .ok (.iload_n 2, 1) := by decide +kernel
theorem dX3_turnLetter_46 : decode cX3_turnLetter 46 = .ok (.iaload, 1) := by decide +kernel
theorem dX3_turnLetter_47 : decode cX3_turnLetter 47 = .ok (.irem, 1) := by decide +kernel
theorem dX3_turnLetter_48 : decode cX3_turnLetter 48 = .ok (.istore_n 3, 1) := by decide +kernel
theorem dX3_turnLetter_49 : decode cX3_turnLetter 49 = .ok (.aload_n 0, 1) := by decide +kernel
theorem dX3_turnLetter_50 : decode cX3_turnLetter 50 = .ok (.getfield 21, 3) := by decide +kernel
theorem dX3_turnLetter_53 : decode cX3_turnLetter 53 = .ok (.iload_n 2, 1) := by decide +kernel
theorem dX3_turnLetter_54 : decode cX3_turnLetter 54 = .ok (.aaload, 1) := by decide +kernel
theorem dX3_turnLetter_55 : decode cX3_turnLetter 55 = .ok (.iload_n 3, 1) := by decide +kernel
theorem dX3_turnLetter_56 : decode cX3_turnLetter 56 = .ok (.iaload, 1) := by decide +kernel
theorem dX3_turnLetter_57 : decode cX3_turnLetter 57 = .ok (.istore 4, 2) := by decide +kernel
theorem dX3_turnLetter_59 : decode cX3_turnLetter 59 = .ok (.iconst 1, 1) := by decide +kernel
theorem dX3_turnLetter_60 : decode cX3_turnLetter 60 = .ok (.istore 5, 2) := by decide +kernel
theorem dX3_turnLetter_62 : decode cX3_turnLetter 62 = .ok (.iload 5, 2) := by decide +kernel
theorem dX3_turnLetter_64 : decode cX3_turnLetter 64 = .ok (.bipush 14, 2) := by decide +kernel
theorem dX3_turnLetter_66 : decode cX3_turnLetter 66 = .ok (.if_icmp .ge 41, 3) := by decide +kernel
theorem dX3_turnLetter_69 : decode cX3_turnLetter 69 = .ok (.iload 4, 2) := by decide +kernel
theorem dX3_turnLetter_71 : decode cX3_turnLetter 71 = .ok (.iload 5, 2) := by decide +kernel
theorem dX3_turnLetter_73 : decode cX3_turnLetter 73 = .ok (.iadd, 1) := by decide +kernel
theorem dX3_turnLetter_74 : decode cX3_turnLetter 74 = .ok (.bipush 14, 2) := by decide +kernel
theorem dX3_turnLetter_76 : decode cX3_turnLetter 76 = .ok (.irem, 1) := by decide +kernel
theorem dX3_turnLetter_77 : decode cX3_turnLetter 77 = .ok (.istore 6, 2) := by decide +kernel
theorem dX3_turnLetter_79 : decode cX3_turnLetter 79 = .ok (.aload_n 0, 1) := by decide +kernel
theorem dX3_turnLetter_80 : decode cX3_turnLetter 80 = .ok (.iload_n 2, 1) := by decide +kernel
theorem dX3_turnLetter_81 : decode cX3_turnLetter 81 = .ok (.iload_n 3, 1) := by decide +kernel
theorem dX3_turnLetter_82 : decode cX3_turnLetter 82 = .ok (.iload 6, 2) := by decide +kernel
theorem dX3_turnLetter_84 : decode cX3_turnLetter 84 = .ok (.invokevirtual 51, 3) := by decide +kernel
theorem dX3_turnLetter_87 : decode cX3_turnLetter 87 = .ok (.ifCond .eq 14, 3) := by decide +kernel
theorem dX3_turnLetter_90 : decode cX3_turnLetter 90 = .ok (.aload_n 0, 1) := by decide +kernel
theorem dX3_turnLetter_91 : decode cX3_turnLetter 91 = .ok (.getfield 21, 3) := by decide +kernel
theorem dX3_turnLetter_94 : decode cX3_turnLetter 94 = .ok (.iload_n 2, 1) := by decide +kernel
theorem dX3_turnLetter_95 : decode cX3_turnLetter 95 = .ok (.aaload, 1) := by decide +kernel
theorem dX3_turnLetter_96 : decode cX3_turnLetter 96 = .ok (.iload_n 3, 1) := by decide +kernel
theorem dX3_turnLetter_97 : decode cX3_turnLetter 97 = .ok (.iload 6, 2) := by decide +kernel
theorem dX3_turnLetter_99 : decode cX3_turnLetter 99 = .ok (.iastore, 1) := by decide +kernel
theorem dX3_turnLetter_100 : decode cX3_turnLetter 100 = .ok (.return_, 1) := by decide +kernel
theorem dX3_turnLetter_101 : decode cX3_turnLetter 101 = .ok (.iinc 5 1, 3) := by decide +kernel
theorem dX3_turnLetter_104 : decode cX3_turnLetter 104 = .ok (.goto (-42), 3) := by decide +kernel
theorem dX3_turnLetter_107 : decode cX3_turnLetter 107 = .ok (.return_, 1) := by decide +kernel
theorem dX3_allOf_0 : decode cX3_allOf 0 = .ok (.iconst 0, 1) := by decide +kernel
theorem dX3_allOf_1 : decode cX3_allOf 1 = .ok (.istore_n 2, 1) := by decide +kernel
theorem dX3_allOf_2 : decode cX3_allOf 2 = .ok (.iconst 0, 1) := by decide +kernel
theorem dX3_allOf_3 : decode cX3_allOf 3 = .ok (.istore_n 3, 1) := by decide +kernel
theorem dX3_allOf_4 : decode cX3_allOf 4 = .ok (.iload_n 3, 1) := by decide +kernel
theorem dX3_allOf_5 : decode cX3_allOf 5 = .ok (.aload_n 0, 1) := by decide +kernel
theorem dX3_allOf_6 : decode cX3_allOf 6 = .ok (.getfield 24, 3) := by decide +kernel
theorem dX3_allOf_9 : decode cX3_allOf 9 = .ok (.if_icmp .ge 21, 3) := by decide +kernel
theorem dX3_allOf_12 : decode cX3_allOf 12 = .ok (.iload_n 3, 1) := by decide +kernel
theorem dX3_allOf_13 : decode cX3_allOf 13 = .ok (.aload_n 1, 1) := by decide +kernel
theorem dX3_allOf_14 : decode cX3_allOf 14 = .ok (.arraylength, 1) := by decide +kernel
theorem dX3_allOf_15 : decode cX3_allOf 15 = .ok (.if_icmp .ge 15, 3) := by decide +kernel
theorem dX3_allOf_18 : decode cX3_allOf 18 = .ok (.iload_n 2, 1) := by decide +kernel
theorem dX3_allOf_19 : decode cX3_allOf 19 = .ok (.aload_n 1, 1) := by decide +kernel
theorem dX3_allOf_20 : decode cX3_allOf 20 = .ok (.iload_n 3, 1) := by decide +kernel
theorem dX3_allOf_21 : decode cX3_allOf 21 = .ok (.iaload, 1) := by decide +kernel
theorem dX3_allOf_22 : decode cX3_allOf 22 = .ok (.iadd, 1) := by decide +kernel
theorem dX3_allOf_23 : decode cX3_allOf 23 = .ok (.istore_n 2, 1) := by decide +kernel
theorem dX3_allOf_24 : decode cX3_allOf 24 = .ok (.iinc 3 1, 3) := by decide +kernel
theorem dX3_allOf_27 : decode cX3_allOf 27 = .ok (.goto (-23), 3) := by decide +kernel
theorem dX3_allOf_30 : decode cX3_allOf 30 = .ok (.iload_n 2, 1) := by decide +kernel
theorem dX3_allOf_31 : decode cX3_allOf 31 = .ok (.ireturn, 1) := by decide +kernel
set_option maxRecDepth 20000 in
theorem ggX4_init_X7_init : GoodIn wsX4_init wsX7_init := goodIn_r _ [4, 5, 6, 7, 8, 9, 10, 11, 12, 13, 14, 15, 16, 17, 18, 19, 20, 21, 22, 23, 24, 25, 3, 26, 27, 28, 29, 30, 31, 32, 33, 34, 35, 36, 37, 38, 39, 40, 41, 42, 43, 44, 45, 46, 47, 48, 49, 50, 51, 52, 53, 54, 55, 56, 57, 58, 59, 60, 61, 62, 63, 64, 65, 66, 67] (by decide +kernel) (by decide +kernel)
set_option maxRecDepth 20000 in
theorem gX4_init_X7_init : GoodIn wsX4_init (wsX7_init) := ggX4_init_X7_init
theorem dX4_init_0 : decode cX4_init 0 = .ok (.aload_n 0, 1) := by decide +kernel
theorem dX4_init_1 : decode cX4_init 1 = .ok (.iconst 2, 1) := by decide +kernel
theorem dX4_init_2 : decode cX4_init 2 = .ok (.iconst 0, 1) := by decide +kernel
theorem dX4_init_3 : decode cX4_init 3 = .ok (.iconst 1, 1) := by decide +kernel
theorem dX4_init_4 : decode cX4_init 4 = .ok (.iconst 1, 1) := by decide +kernel
theorem dX4_init_5 : decode cX4_init 5 = .ok (.invokespecial 1, 3) := by decide +kernel
theorem dX4_init_8 : decode cX4_init 8 = .ok (.return_, 1) := by decide +kernel
theorem dX4_less_0 : decode cX4_less 0 = .ok (.iload_n 1, 1) := by decide +kernel
theorem dX4_less_1 : decode cX4_less 1 = .ok (.ireturn, 1) := by decide +kernel
theorem dX4_sum_0 : decode cX4_sum 0 = .ok (.iconst 1, 1) := by decide +kernel
theorem dX4_sum_1 : decode cX4_sum 1 = .ok (.ireturn, 1) := by decide +kernel
theorem dX4_chosen_0 : decode cX4_chosen 0 = .ok (.iload_n 2, 1) := by decide +kernel
theorem dX4_chosen_1 : decode cX4_chosen 1 = .ok (.iload_n 3, 1) := by decide +kernel
theorem dX4_chosen_2 : decode cX4_chosen 2 = .ok (.ior, 1) := by decide +kernel
theorem dX4_chosen_3 : decode cX4_chosen 3 = .ok (.ireturn, 1) := by decide +kernel
theorem dX4_mayGrow_0 : decode cX4_mayGrow 0 = .ok (.iload_n 1, 1) := by decide +kernel
theorem dX4_mayGrow_1 : decode cX4_mayGrow 1 = .ok (.ifCond .ne 7, 3) := by decide +kernel
theorem dX4_mayGrow_4 : decode cX4_mayGrow 4 = .ok (.iconst 1, 1) := by decide +kernel
theorem dX4_mayGrow_5 : decode cX4_mayGrow 5 = .ok (.goto 4, 3) := by decide +kernel
theorem dX4_mayGrow_8 : decode cX4_mayGrow 8 = .ok (.iconst 0, 1) := by decide +kernel
theorem dX4_mayGrow_9 : decode cX4_mayGrow 9 = .ok (.ireturn, 1) := by decide +kernel
set_option maxRecDepth 20000 in
theorem ggX5_init_X3_init : GoodIn wsX5_init wsX3_init := goodIn_r _ [12, 13, 2, 3, 14, 15, 16, 17, 18, 19, 20, 21, 22, 23, 24] (by decide +kernel) (by decide +kernel)
set_option maxRecDepth 20000 in
theorem gX5_init_X3_init : GoodIn wsX5_init (wsX3_init) := ggX5_init_X3_init
theorem dX5_init_0 : decode cX5_init 0 = .ok (.aload_n 0, 1) := by decide +kernel
theorem dX5_init_1 : decode cX5_init 1 = .ok (.invokespecial 3, 3) := by decide +kernel
theorem dX5_init_4 : decode cX5_init 4 = .ok (.aload_n 0, 1) := by decide +kernel
theorem dX5_init_5 : decode cX5_init 5 = .ok (.new 9, 3) := by decide +kernel
theorem dX5_init_8 : decode cX5_init 8 = .ok (.dup, 1) := by decide +kernel
theorem dX5_init_9 : decode cX5_init 9 = .ok (.invokespecial 11, 3) := by decide +kernel
theorem dX5_init_12 : decode cX5_init 12 = .ok (.putfield 12, 3) := by decide +kernel
theorem dX5_init_15 : decode cX5_init 15 = .ok (.aload_n 0, 1) := by decide +kernel
theorem dX5_init_16 : decode cX5_init 16 = .ok (.sipush 200, 3) := by decide +kernel
theorem dX5_init_19 : decode cX5_init 19 = .ok (.newarray .char, 2) := by decide +kernel
theorem dX5_init_21 : decode cX5_init 21 = .ok (.putfield 18, 3) := by decide +kernel
theorem dX5_init_24 : decode cX5_init 24 = .ok (.return_, 1) := by decide +kernel
theorem dX5_add_0 : decode cX5_add 0 = .ok (.aload_n 0, 1) := by decide +kernel
theorem dX5_add_1 : decode cX5_add 1 = .ok (.getfield 22, 3) := by decide +kernel
theorem dX5_add_4 : decode cX5_add 4 = .ok (.sipush 200, 3) := by decide +kernel
theorem dX5_add_7 : decode cX5_add 7 = .ok (.if_icmp .ge 23, 3) := by decide +kernel
theorem dX5_add_10 : decode cX5_add 10 = .ok (.aload_n 0, 1) := by decide +kernel
theorem dX5_add_11 : decode cX5_add 11 = .ok (.getfield 18, 3) := by decide +kernel
theorem dX5_add_14 : decode cX5_add 14 = .ok (.aload_n 0, 1) := by decide +kernel
theorem dX5_add_15 : decode cX5_add 15 = .ok (.getfield 22, 3) := by decide +kernel
theorem dX5_add_18 : decode cX5_add 18 = .ok (.iload_n 1, 1) := by decide +kernel
theorem dX5_add_19 : decode cX5_add 19 = .ok (.castore, 1) := by decide +kernel
theorem dX5_add_20 : decode cX5_add 20 = .ok (.aload_n 0, 1) := by decide +kernel
theorem dX5_add_21 : decode cX5_add 21 = .ok (.dup, 1) := by decide +kernel
theorem dX5_add_22 : decode cX5_add 22 = .ok (.getfield 22, 3) := by decide +kernel
theorem dX5_add_25 : decode cX5_add 25 = .ok (.iconst 1, 1) := by decide +kernel
theorem dX5_add_26 : decode cX5_add 26 = .ok (.iadd, 1) := by decide +kernel
theorem dX5_add_27 : decode cX5_add 27 = .ok (.putfield 22, 3) := by decide +kernel
theorem dX5_add_30 : decode cX5_add 30 = .ok (.return_, 1) := by decide +kernel
theorem dX5_clear_0 : decode cX5_clear 0 = .ok (.aload_n 0, 1) := by decide +kernel
theorem dX5_clear_1 : decode cX5_clear 1 = .ok (.iconst 0, 1) := by decide +kernel
theorem dX5_clear_2 : decode cX5_clear 2 = .ok (.putfield 22, 3) := by decide +kernel
theorem dX5_clear_5 : decode cX5_clear 5 = .ok (.return_, 1) := by decide +kernel
set_option maxRecDepth 20000 in
theorem ggX5_read_X5_readItem : GoodIn wsX5_read wsX5_readItem := goodIn_r _ [10, 11, 12, 13, 9, 14, 1, 5, 15, 16, 17, 18, 19, 3, 4, 20, 21, 22, 23, 24, 2, 25, 26, 27, 28, 29, 30, 31, 32, 33, 34, 35, 36, 37, 38, 39, 40, 41, 42, 43, 44, 45, 46, 47, 48, 49, 50, 51, 52, 53, 54, 55, 56, 57, 58, 59, 60, 61, 62, 63, 64, 65, 66, 67, 68, 69, 70, 71, 72, 73, 74, 75, 76, 77, 78, 79, 80, 81, 82, 83, 84, 85, 86, 87, 88, 89, 90, 91, 92, 93, 94, 95, 96, 97, 98, 99, 100, 101, 102, 103, 104, 105, 106, 107, 108, 109, 110, 111, 112, 113, 114, 115, 116, 117, 118, 119, 120, 121, 122, 123, 124, 125, 126, 127, 128, 129, 130, 131, 132, 133, 134, 135, 136, 137, 138, 139, 140, 141, 142, 143, 144, 145, 146, 147, 148, 149, 150] (by decide +kernel) (by decide +kernel)
set_option maxRecDepth 20000 in
theorem gX5_read_X5_readItem : GoodIn wsX5_read (wsV RX5 35 RX5 yX5_readItem wsX5_readItem) := goodIn_app (goodIn_of _ (by decide +kernel)) ggX5_read_X5_readItem
theorem dX5_read_0 : decode cX5_read 0 = .ok (.aload_n 0, 1) := by decide +kernel
theorem dX5_read_1 : decode cX5_read 1 = .ok (.iconst 0, 1) := by decide +kernel
theorem dX5_read_2 : decode cX5_read 2 = .ok (.putfield 26, 3) := by decide +kernel
theorem dX5_read_5 : decode cX5_read 5 = .ok (.aload_n 0, 1) := by decide +kernel
theorem dX5_read_6 : decode cX5_read 6 = .ok (.iconst 0, 1) := by decide +kernel
theorem dX5_read_7 : decode cX5_read 7 = .ok (.putfield 29, 3) := by decide +kernel
theorem dX5_read_10 : decode cX5_read 10 = .ok (.aload_n 0, 1) := by decide +kernel
theorem dX5_read_11 : decode cX5_read 11 = .ok (.getfield 12, 3) := by decide +kernel
theorem dX5_read_14 : decode cX5_read 14 = .ok (.iconst 0, 1) := by decide +kernel
theorem dX5_read_15 : decode cX5_read 15 = .ok (.putfield 32, 3) := by decide +kernel
theorem dX5_read_18 : decode cX5_read 18 = .ok (.iconst 0, 1) := by decide +kernel
theorem dX5_read_19 : decode cX5_read 19 = .ok (.istore_n 1, 1) := by decide +kernel
theorem dX5_read_20 : decode cX5_read 20 = .ok (.iload_n 1, 1) := by decide +kernel
theorem dX5_read_21 : decode cX5_read 21 = .ok (.sipush 200, 3) := by decide +kernel
theorem dX5_read_24 : decode cX5_read 24 = .ok (.if_icmp .ge 34, 3) := by decide +kernel
theorem dX5_read_27 : decode cX5_read 27 = .ok (.aload_n 0, 1) := by decide +kernel
theorem dX5_read_28 : decode cX5_read 28 = .ok (.getfield 26, 3) := by decide +kernel
theorem dX5_read_31 : decode cX5_read 31 = .ok (.aload_n 0, 1) := by decide +kernel
theorem dX5_read_32 : decode cX5_read 32 = .ok (.getfield 22, 3) := by decide +kernel
theorem dX5_read_35 : decode cX5_read 35 = .ok (.if_icmp .ge 23, 3) := by decide +kernel
theorem dX5_read_38 : decode cX5_read 38 = .ok (.aload_n 0, 1) := by decide +kernel
theorem dX5_read_39 : decode cX5_read 39 = .ok (.getfield 26, 3) := by decide +kernel
theorem dX5_read_42 : decode cX5_read 42 = .ok (.istore_n 2, 1) := by decide +kernel
theorem dX5_read_43 : decode cX5_read 43 = .ok (.aload_n 0, 1) := by decide +kernel
theorem dX5_read_44 : decode cX5_read 44 = .ok (.invokevirtual 35, 3) := by decide +kernel
theorem dX5_read_47 : decode cX5_read 47 = .ok (.ifCond .ne 5, 3) := by decide +kernel
theorem dX5_read_50 : decode cX5_read 50 = .ok (.iload_n 2, 1) := by decide +kernel
theorem dX5_read_51 : decode cX5_read 51 = .ok (.ireturn, 1) := by decide +kernel
theorem dX5_read_52 : decode cX5_read 52 = .ok (.iinc 1 1, 3) := by decide +kernel
theorem dX5_read_55 : decode cX5_read 55 = .ok (.goto (-35), 3) := by decide +kernel
theorem dX5_read_58 : decode cX5_read 58 = .ok (.bipush (-4), 2) := by decide +kernel
theorem dX5_read_60 : decode cX5_read 60 = .ok (.ireturn, 1) := by decide +kernel
theorem dX5_toldAll_0 : decode cX5_toldAll 0 = .ok (.aload_n 0, 1) := by decide +kernel
theorem dX5_toldAll_1 : decode cX5_toldAll 1 = .ok (.getfield 12, 3) := by decide +kernel
theorem dX5_toldAll_4 : decode cX5_toldAll 4 = .ok (.getfield 32, 3) := by decide +kernel
theorem dX5_toldAll_7 : decode cX5_toldAll 7 = .ok (.ifCond .le 21, 3) := by decide +kernel
theorem dX5_toldAll_10 : decode cX5_toldAll 10 = .ok (.aload_n 0, 1) := by decide +kernel
theorem dX5_toldAll_11 : decode cX5_toldAll 11 = .ok (.getfield 29, 3) := by decide +kernel
theorem dX5_toldAll_14 : decode cX5_toldAll 14 = .ok (.aload_n 0, 1) := by decide +kernel
theorem dX5_toldAll_15 : decode cX5_toldAll 15 = .ok (.getfield 12, 3) := by decide +kernel
theorem dX5_toldAll_18 : decode cX5_toldAll 18 = .ok (.getfield 32, 3) := by decide +kernel
theorem dX5_toldAll_21 : decode cX5_toldAll 21 = .ok (.if_icmp .ne 7, 3) := by decide +kernel
theorem dX5_toldAll_24 : decode cX5_toldAll 24 = .ok (.iconst 1, 1) := by decide +kernel
theorem dX5_toldAll_25 : decode cX5_toldAll 25 = .ok (.goto 4, 3) := by decide +kernel
theorem dX5_toldAll_28 : decode cX5_toldAll 28 = .ok (.iconst 0, 1) := by decide +kernel
theorem dX5_toldAll_29 : decode cX5_toldAll 29 = .ok (.ireturn, 1) := by decide +kernel
theorem dX5_next_0 : decode cX5_next 0 = .ok (.aload_n 0, 1) := by decide +kernel
theorem dX5_next_1 : decode cX5_next 1 = .ok (.getfield 26, 3) := by decide +kernel
theorem dX5_next_4 : decode cX5_next 4 = .ok (.aload_n 0, 1) := by decide +kernel
theorem dX5_next_5 : decode cX5_next 5 = .ok (.getfield 22, 3) := by decide +kernel
theorem dX5_next_8 : decode cX5_next 8 = .ok (.if_icmp .lt 5, 3) := by decide +kernel
theorem dX5_next_11 : decode cX5_next 11 = .ok (.iconst 0, 1) := by decide +kernel
theorem dX5_next_12 : decode cX5_next 12 = .ok (.ireturn, 1) := by decide +kernel
theorem dX5_next_13 : decode cX5_next 13 = .ok (.aload_n 0, 1) := by decide +kernel
theorem dX5_next_14 : decode cX5_next 14 = .ok (.getfield 18, 3) := by decide +kernel
theorem dX5_next_17 : decode cX5_next 17 = .ok (.aload_n 0, 1) := by decide +kernel
theorem dX5_next_18 : decode cX5_next 18 = .ok (.getfield 26, 3) := by decide +kernel
theorem dX5_next_21 : decode cX5_next 21 = .ok (.caload, 1) := by decide +kernel
theorem dX5_next_22 : decode cX5_next 22 = .ok (.istore_n 1, 1) := by decide +kernel
theorem dX5_next_23 : decode cX5_next 23 = .ok (.aload_n 0, 1) := by decide +kernel
theorem dX5_next_24 : decode cX5_next 24 = .ok (.dup, 1) := by decide +kernel
theorem dX5_next_25 : decode cX5_next 25 = .ok (.getfield 26, 3) := by decide +kernel
theorem dX5_next_28 : decode cX5_next 28 = .ok (.iconst 1, 1) := by decide +kernel
theorem dX5_next_29 : decode cX5_next 29 = .ok (.iadd, 1) := by decide +kernel
theorem dX5_next_30 : decode cX5_next 30 = .ok (.putfield 26, 3) := by decide +kernel
theorem dX5_next_33 : decode cX5_next 33 = .ok (.iload_n 1, 1) := by decide +kernel
theorem dX5_next_34 : decode cX5_next 34 = .ok (.ireturn, 1) := by decide +kernel
set_option maxRecDepth 20000 in
theorem ggX5_readItem_X5_next : GoodIn wsX5_readItem wsX5_next := goodIn_r _ [5, 6, 7, 8, 137, 138, 139, 140, 141] (by decide +kernel) (by decide +kernel)
set_option maxRecDepth 20000 in
theorem gX5_readItem_X5_next : GoodIn wsX5_readItem (wsV RX5 39 RX5 yX5_next wsX5_next) := goodIn_app (goodIn_of _ (by decide +kernel)) ggX5_readItem_X5_next
set_option maxRecDepth 20000 in
theorem ggX5_readItem_X5_readArguments : GoodIn wsX5_readItem wsX5_readArguments := goodIn_r _ [12, 13, 14, 15, 1, 2, 3, 4, 5, 6, 7, 8, 137, 138, 139, 140, 141, 142, 143, 144, 145, 146] (by decide +kernel) (by decide +kernel)
set_option maxRecDepth 20000 in
theorem gX5_readItem_X5_readArguments : GoodIn wsX5_readItem (wsV RX5 43 RX5 yX5_readArguments wsX5_readArguments) := goodIn_app (goodIn_of _ (by decide +kernel)) ggX5_readItem_X5_readArguments
set_option maxRecDepth 20000 in
theorem ggX5_readItem_X5_readFunction : GoodIn wsX5_readItem wsX5_readFunction := goodIn_r _ [19, 13, 20, 21, 22, 23, 24, 25, 26, 27, 1, 2, 3, 4, 5, 6, 7, 8, 28, 29, 30, 31, 32, 33, 34, 35, 36, 37, 38, 39, 40, 41, 42, 43, 44, 45, 46, 47, 48, 49, 50, 51, 52, 53, 54, 55, 56, 57, 58, 59, 60, 61, 62, 63, 64, 65, 66, 67, 68, 69, 70, 71, 72, 73, 74, 75, 76, 77, 78, 79, 80, 81, 82, 83, 84, 85, 86, 87, 88, 89, 90, 91, 92, 93, 94, 95, 96, 97, 98, 99, 100, 101, 102, 103, 104, 105, 106, 107, 108, 109, 110, 111, 112, 113, 114, 115, 116, 117, 118, 119, 120, 121, 122, 123, 124, 125, 126, 127, 128, 129, 130, 131, 132, 133, 134, 135, 136, 137, 138, 139, 140, 141, 142, 143, 144, 145, 146] (by decide +kernel) (by decide +kernel)
set_option maxRecDepth 20000 in
theorem gX5_readItem_X5_readFunction : GoodIn wsX5_readItem (wsV RX5 46 RX5 yX5_readFunction wsX5_readFunction) := goodIn_app (goodIn_of _ (by decide +kernel)) ggX5_readItem_X5_readFunction
theorem dX5_readItem_0 : decode cX5_readItem 0 = .ok (.aload_n 0, 1) := by decide +kernel
theorem dX5_readItem_1 : decode cX5_readItem 1 = .ok (.invokevirtual 39, 3) := by decide +kernel
theorem dX5_readItem_4 : decode cX5_readItem 4 = .ok (.istore_n 1, 1) := by decide +kernel
theorem dX5_readItem_5 : decode cX5_readItem 5 = .ok (.iload_n 1, 1) := by decide +kernel
theorem dX5_readItem_6 : decode cX5_readItem 6 = .ok (.bipush 110, 2) := by decide +kernel
theorem dX5_readItem_8 : decode cX5_readItem 8 = .ok (.if_icmp .ne 10, 3) := by decide +kernel
theorem dX5_readItem_11 : decode cX5_readItem 11 = .ok (.aload_n 0, 1) := by decide +kernel
theorem dX5_readItem_12 : decode cX5_readItem 12 = .ok (.invokevirtual 43, 3) := by decide +kernel
theorem dX5_readItem_15 : decode cX5_readItem 15 = .ok (.goto 21, 3) := by decide +kernel
theorem dX5_readItem_18 : decode cX5_readItem 18 = .ok (.iload_n 1, 1) := by decide +kernel
theorem dX5_readItem_19 : decode cX5_readItem 19 = .ok (.bipush 102, 2) := by decide +kernel
theorem dX5_readItem_21 : decode cX5_readItem 21 = .ok (.if_icmp .ne 14, 3) := by decide +kernel
theorem dX5_readItem_24 : decode cX5_readItem 24 = .ok (.aload_n 0, 1) := by decide +kernel
theorem dX5_readItem_25 : decode cX5_readItem 25 = .ok (.invokevirtual 46, 3) := by decide +kernel
theorem dX5_readItem_28 : decode cX5_readItem 28 = .ok (.ifCond .eq 7, 3) := by decide +kernel
theorem dX5_readItem_31 : decode cX5_readItem 31 = .ok (.iconst 1, 1) := by decide +kernel
theorem dX5_readItem_32 : decode cX5_readItem 32 = .ok (.goto 4, 3) := by decide +kernel
theorem dX5_readItem_35 : decode cX5_readItem 35 = .ok (.iconst 0, 1) := by decide +kernel
theorem dX5_readItem_36 : decode cX5_readItem 36 = .ok (.ireturn, 1) := by decide +kernel
set_option maxRecDepth 20000 in
theorem ggX5_readArguments_X5_next : GoodIn wsX5_readArguments wsX5_next := goodIn_r _ [8, 9, 10, 11, 12, 13, 14, 15, 16] (by decide +kernel) (by decide +kernel)
set_option maxRecDepth 20000 in
theorem gX5_readArguments_X5_next : GoodIn wsX5_readArguments (wsV RX5 39 RX5 yX5_next wsX5_next) := goodIn_app (goodIn_of _ (by decide +kernel)) ggX5_readArguments_X5_next
theorem dX5_readArguments_0 : decode cX5_readArguments 0 = .ok (.aload_n 0, 1) := by decide +kernel
theorem dX5_readArguments_1 : decode cX5_readArguments 1 = .ok (.getfield 12, 3) := by decide +kernel
theorem dX5_readArguments_4 : decode cX5_readArguments 4 = .ok (.getfield 32, 3) := by decide +kernel
theorem dX5_readArguments_7 : decode cX5_readArguments 7 = .ok (.ifCond .le 5, 3) := by decide +kernel
theorem dX5_readArguments_10 : decode cX5_readArguments 10 = .ok (.iconst 0, 1) := by decide +kernel
theorem dX5_readArguments_11 : decode cX5_readArguments 11 = .ok (.ireturn, 1) := by decide +kernel
theorem dX5_readArguments_12 : decode cX5_readArguments 12 = .ok (.iconst 0, 1) := by decide +kernel
theorem dX5_readArguments_13 : decode cX5_readArguments 13 = .ok (.istore_n 1, 1) := by decide +kernel
theorem dX5_readArguments_14 : decode cX5_readArguments 14 = .ok (.iload_n 1, 1) := by decide +kernel
theorem dX5_readArguments_15 : decode cX5_readArguments 15 = .ok (.iconst 4, 1) := by decide +kernel
theorem dX5_readArguments_16 : decode cX5_readArguments 16 = .ok (.if_icmp .ge 67, 3) := by decide +kernel
theorem dX5_readArguments_19 : decode cX5_readArguments 19 = .ok (.aload_n 0, 1) := by decide +kernel
theorem dX5_readArguments_20 : decode cX5_readArguments 20 = .ok (.invokevirtual 39, 3) := by decide +kernel
theorem dX5_readArguments_23 : decode cX5_readArguments 23 = .ok (.istore_n 2, 1) := by decide +kernel
theorem dX5_readArguments_24 : decode cX5_readArguments 24 = .ok (.iload_n 2, 1) := by decide +kernel
theorem dX5_readArguments_25 : decode cX5_readArguments 25 = .ok (.bipush 59, 2) := by decide +kernel
theorem dX5_readArguments_27 : decode cX5_readArguments 27 = .ok (.if_icmp .ne 13, 3) := by decide +kernel
theorem dX5_readArguments_30 : decode cX5_readArguments 30 = .ok (.iload_n 1, 1) := by decide +kernel
theorem dX5_readArguments_31 : decode cX5_readArguments 31 = .ok (.ifCond .le 7, 3) := by decide +kernel
theorem dX5_readArguments_34 : decode cX5_readArguments 34 = .ok (.iconst 1, 1) := by decide +kernel
theorem dX5_readArguments_35 : decode cX5_readArguments 35 = .ok (.goto 4, 3) := by decide +kernel
theorem dX5_readArguments_38 : decode cX5_readArguments 38 = .ok (.iconst 0, 1) := by decide +kernel
theorem dX5_readArguments_39 : decode cX5_readArguments 39 = .ok (.ireturn, 1) := by decide +kernel
theorem dX5_readArguments_40 : decode cX5_readArguments 40 = .ok (.iload_n 2, 1) := by decide +kernel
theorem dX5_readArguments_41 : decode cX5_readArguments 41 = .ok (.bipush 48, 2) := by decide +kernel
theorem dX5_readArguments_43 : decode cX5_readArguments 43 = .ok (.if_icmp .lt 9, 3) := by decide +kernel
theorem dX5_readArguments_46 : decode cX5_readArguments 46 = .ok (.iload_n 2, 1) := by decide +kernel
theorem dX5_readArguments_47 : decode cX5_readArguments 47 = .ok (.bipush 51, 2) := by decide +kernel
theorem dX5_readArguments_49 : decode cX5_readArguments 49 = .ok (.if_icmp .le 5, 3) := by decide +kernel
theorem dX5_readArguments_52 : decode cX5_readArguments 52 = .ok (.iconst 0, 1) := by decide +kernel
theorem dX5_readArguments_53 : decode cX5_readArguments 53 = .ok (.ireturn, 1) := by decide +kernel
theorem dX5_readArguments_54 : decode cX5_readArguments 54 = .ok (.aload_n 0, 1) := by decide +kernel
theorem dX5_readArguments_55 : decode cX5_readArguments 55 = .ok (.getfield 12, 3) := by decide +kernel
theorem dX5_readArguments_58 : decode cX5_readArguments 58 = .ok (.getfield 49, 3) := by decide +kernel
theorem dX5_readArguments_61 : decode cX5_readArguments 61 = .ok (.iload_n 1, 1) := by decide +kernel
theorem dX5_readArguments_62 : decode cX5_readArguments 62 = .ok (.iload_n 2, 1) := by decide +kernel
theorem dX5_readArguments_63 : decode cX5_readArguments 63 = .ok (.bipush 48, 2) := by decide +kernel
theorem dX5_readArguments_65 : decode cX5_readArguments 65 = .ok (.isub, 1) := by decide +kernel
theorem dX5_readArguments_66 : decode cX5_readArguments 66 = .ok (.iastore, 1) := by decide +kernel
theorem dX5_readArguments_67 : decode cX5_readArguments 67 = .ok (.aload_n 0, 1) := by decide +kernel
theorem dX5_readArguments_68 : decode cX5_readArguments 68 = .ok (.getfield 12, 3) := by decide +kernel
theorem dX5_readArguments_71 : decode cX5_readArguments 71 = .ok (.iload_n 1, 1) := by decide +kernel
theorem dX5_readArguments_72 : decode cX5_readArguments 72 = .ok (.iconst 1, 1) := by decide +kernel
theorem dX5_readArguments_73 : decode cX5_readArguments 73 = .ok (.iadd, 1) := by decide +kernel
theorem dX5_readArguments_74 : decode cX5_readArguments 74 = .ok (.putfield 32, 3) := by decide +kernel
theorem dX5_readArguments_77 : decode cX5_readArguments 77 = .ok (.iinc 1 1, 3) := by decide +kernel
theorem dX5_readArguments_80 : decode cX5_readArguments 80 = .ok (.goto (-66), 3) := by decide +kernel
theorem dX5_readArguments_83 : decode cX5_readArguments 83 = .ok (.aload_n 0, 1) := by decide +kernel
theorem dX5_readArguments_84 : decode cX5_readArguments 84 = .ok (.invokevirtual 39, 3) := by decide +kernel
theorem dX5_readArguments_87 : decode cX5_readArguments 87 = .ok (.bipush 59, 2) := by decide +kernel
theorem dX5_readArguments_89 : decode cX5_readArguments 89 = .ok (.if_icmp .ne 7, 3) := by decide +kernel
theorem dX5_readArguments_92 : decode cX5_readArguments 92 = .ok (.iconst 1, 1) := by decide +kernel
theorem dX5_readArguments_93 : decode cX5_readArguments 93 = .ok (.goto 4, 3) := by decide +kernel
theorem dX5_readArguments_96 : decode cX5_readArguments 96 = .ok (.iconst 0, 1) := by decide +kernel
theorem dX5_readArguments_97 : decode cX5_readArguments 97 = .ok (.ireturn, 1) := by decide +kernel
set_option maxRecDepth 20000 in
theorem ggX5_readFunction_X3_has : GoodIn wsX5_readFunction wsX3_has := goodIn_r _ [8, 9, 132, 133, 134, 135, 136] (by decide +kernel) (by decide +kernel)
set_option maxRecDepth 20000 in
theorem gX5_readFunction_X3_has : GoodIn wsX5_readFunction (wsV RX5 53 RX3 yX3_has wsX3_has) := goodIn_app (goodIn_of _ (by decide +kernel)) ggX5_readFunction_X3_has
set_option maxRecDepth 20000 in
theorem ggX5_readFunction_X5_next : GoodIn wsX5_readFunction wsX5_next := goodIn_r _ [14, 15, 16, 17, 127, 128, 129, 130, 131] (by decide +kernel) (by decide +kernel)
set_option maxRecDepth 20000 in
theorem gX5_readFunction_X5_next : GoodIn wsX5_readFunction (wsV RX5 39 RX5 yX5_next wsX5_next) := goodIn_app (goodIn_of _ (by decide +kernel)) ggX5_readFunction_X5_next
set_option maxRecDepth 20000 in
theorem ggX5_readFunction_X5_readBody : GoodIn wsX5_readFunction wsX5_readBody := goodIn_r _ [21, 1, 2, 22, 23, 10, 11, 12, 13, 14, 15, 16, 17, 24, 25, 26, 27, 28, 29, 30, 31, 32, 33, 34, 35, 36, 37, 38, 39, 40, 41, 42, 43, 44, 45, 46, 47, 48, 49, 50, 51, 52, 53, 54, 55, 56, 57, 58, 59, 60, 61, 62, 63, 64, 65, 66, 67, 68, 69, 70, 71, 72, 73, 74, 75, 76, 77, 78, 79, 80, 81, 82, 83, 84, 85, 86, 87, 88, 89, 90, 91, 92, 93, 94, 95, 96, 97, 98, 99, 100, 101, 102, 103, 104, 105, 106, 107, 108, 109, 110, 111, 112, 113, 114, 115, 116, 117, 118, 119, 7, 120, 121, 122, 5, 6, 8, 9, 123, 124, 125, 126, 127, 128, 129, 130, 131, 132, 133, 134, 135, 136] (by decide +kernel) (by decide +kernel)
set_option maxRecDepth 20000 in
theorem gX5_readFunction_X5_readBody : GoodIn wsX5_readFunction (wsV RX5 60 RX5 yX5_readBody wsX5_readBody) := goodIn_app (goodIn_of _ (by decide +kernel)) ggX5_readFunction_X5_readBody
theorem dX5_readFunction_0 : decode cX5_readFunction 0 = .ok (.aload_n 0, 1) := by decide +kernel
theorem dX5_readFunction_1 : decode cX5_readFunction 1 = .ok (.getfield 12, 3) := by decide +kernel
theorem dX5_readFunction_4 : decode cX5_readFunction 4 = .ok (.aload_n 0, 1) := by decide +kernel
theorem dX5_readFunction_5 : decode cX5_readFunction 5 = .ok (.getfield 29, 3) := by decide +kernel
theorem dX5_readFunction_8 : decode cX5_readFunction 8 = .ok (.invokevirtual 53, 3) := by decide +kernel
theorem dX5_readFunction_11 : decode cX5_readFunction 11 = .ok (.ifCond .ne 5, 3) := by decide +kernel
theorem dX5_readFunction_14 : decode cX5_readFunction 14 = .ok (.iconst 0, 1) := by decide +kernel
theorem dX5_readFunction_15 : decode cX5_readFunction 15 = .ok (.ireturn, 1) := by decide +kernel
theorem dX5_readFunction_16 : decode cX5_readFunction 16 = .ok (.aload_n 0, 1) := by decide +kernel
theorem dX5_readFunction_17 : decode cX5_readFunction 17 = .ok (.invokevirtual 39, 3) := by decide +kernel
theorem dX5_readFunction_20 : decode cX5_readFunction 20 = .ok (.bipush 48, 2) := by decide +kernel
theorem dX5_readFunction_22 : decode cX5_readFunction 22 = .ok (.isub, 1) := by decide +kernel
theorem dX5_readFunction_23 : decode cX5_readFunction 23 = .ok (.istore_n 1, 1) := by decide +kernel
theorem dX5_readFunction_24 : decode cX5_readFunction 24 = .ok (.iload_n 1, 1) := by decide +kernel
theorem dX5_readFunction_25 : decode cX5_readFunction 25 = .ok (.ifCond .lt 8, 3) := by decide +kernel
theorem dX5_readFunction_28 : decode cX5_readFunction 28 = .ok (.iload_n 1, 1) := by decide +kernel
theorem dX5_readFunction_29 : decode cX5_readFunction 29 = .ok (.iconst 3, 1) := by decide +kernel
theorem dX5_readFunction_30 : decode cX5_readFunction 30 = .ok (.if_icmp .le 5, 3) := by decide +kernel
theorem dX5_readFunction_33 : decode cX5_readFunction 33 = .ok (.iconst 0, 1) := by decide +kernel
theorem dX5_readFunction_34 : decode cX5_readFunction 34 = .ok (.ireturn, 1) := by decide +kernel
theorem dX5_readFunction_35 : decode cX5_readFunction 35 = .ok (.aload_n 0, 1) := by decide +kernel
theorem dX5_readFunction_36 : decode cX5_readFunction 36 = .ok (.getfield 12, 3) := by decide +kernel
theorem dX5_readFunction_39 : decode cX5_readFunction 39 = .ok (.getfield 57, 3) := by decide +kernel
theorem dX5_readFunction_42 : decode cX5_readFunction 42 = .ok (.aload_n 0, 1) := by decide +kernel
theorem dX5_readFunction_43 : decode cX5_readFunction 43 = .ok (.getfield 29, 3) := by decide +kernel
theorem dX5_readFunction_46 : decode cX5_readFunction 46 = .ok (.iload_n 1, 1) := by decide +kernel
theorem dX5_readFunction_47 : decode cX5_readFunction 47 = .ok (.iastore, 1) := by decide +kernel
theorem dX5_readFunction_48 : decode cX5_readFunction 48 = .ok (.aload_n 0, 1) := by decide +kernel
theorem dX5_readFunction_49 : decode cX5_readFunction 49 = .ok (.invokevirtual 39, 3) := by decide +kernel
theorem dX5_readFunction_52 : decode cX5_readFunction 52 = .ok (.bipush 44, 2) := by decide +kernel
theorem dX5_readFunction_54 : decode cX5_readFunction 54 = .ok (.if_icmp .ne 19, 3) := by decide +kernel
theorem dX5_readFunction_57 : decode cX5_readFunction 57 = .ok (.aload_n 0, 1) := by decide +kernel
theorem dX5_readFunction_58 : decode cX5_readFunction 58 = .ok (.invokevirtual 60, 3) := by decide +kernel
theorem dX5_readFunction_61 : decode cX5_readFunction 61 = .ok (.ifCond .eq 12, 3) := by decide +kernel
theorem dX5_readFunction_64 : decode cX5_readFunction 64 = .ok (.aload_n 0, 1) := by decide +kernel
theorem dX5_readFunction_65 : decode cX5_readFunction 65 = .ok (.invokevirtual 39, 3) := by decide +kernel
theorem dX5_readFunction_68 : decode cX5_readFunction 68 = .ok (.bipush 59, 2) := by decide +kernel
theorem dX5_readFunction_70 : decode cX5_readFunction 70 = .ok (.if_icmp .eq 5, 3) := by decide +kernel
theorem dX5_readFunction_73 : decode cX5_readFunction 73 = .ok (.iconst 0, 1) := by decide +kernel
theorem dX5_readFunction_74 : decode cX5_readFunction 74 = .ok (.ireturn, 1) := by decide +kernel
theorem dX5_readFunction_75 : decode cX5_readFunction 75 = .ok (.aload_n 0, 1) := by decide +kernel
theorem dX5_readFunction_76 : decode cX5_readFunction 76 = .ok (.dup, 1) := by decide +kernel
theorem dX5_readFunction_77 : decode cX5_readFunction 77 = .ok (.getfield 29, 3) := by decide +kernel
theorem dX5_readFunction_80 : decode cX5_readFunction 80 = .ok (.iconst 1, 1) := by decide +kernel
theorem dX5_readFunction_81 : decode cX5_readFunction 81 = .ok (.iadd, 1) := by decide +kernel
theorem dX5_readFunction_82 : decode cX5_readFunction 82 = .ok (.putfield 29, 3) := by decide +kernel
theorem dX5_readFunction_85 : decode cX5_readFunction 85 = .ok (.iconst 1, 1) := by decide +kernel
theorem dX5_readFunction_86 : decode cX5_readFunction 86 = .ok (.ireturn, 1) := by decide +kernel
set_option maxRecDepth 20000 in
theorem ggX5_readBody_X5_next : GoodIn wsX5_readBody wsX5_next := goodIn_r _ [9, 10, 11, 12, 121, 122, 123, 124, 125] (by decide +kernel) (by decide +kernel)
set_option maxRecDepth 20000 in
theorem gX5_readBody_X5_next : GoodIn wsX5_readBody (wsV RX5 39 RX5 yX5_next wsX5_next) := goodIn_app (goodIn_of _ (by decide +kernel)) ggX5_readBody_X5_next
set_option maxRecDepth 20000 in
theorem ggX5_readBody_X2_numberOf : GoodIn wsX5_readBody wsX2_numberOf := goodIn_r _ [16, 17, 18, 19, 20, 21, 22, 23, 24, 25, 26, 27, 28, 29, 30, 31, 32, 33, 34, 35, 36, 37, 38, 39, 40, 41, 42, 43, 44, 45, 46, 47, 48, 49, 50, 51, 52, 53, 54, 55, 56, 57, 58, 59, 60, 61, 62, 63, 64, 65, 66, 67, 68, 69, 70, 71, 72, 73, 74, 75, 76, 77, 78, 79, 80, 81, 82, 83, 84, 85, 86, 87, 88, 89, 90, 91, 92, 93, 94, 95, 96, 97, 98, 99, 100, 101, 102, 103, 104, 105] (by decide +kernel) (by decide +kernel)
set_option maxRecDepth 20000 in
theorem gX5_readBody_X2_numberOf : GoodIn wsX5_readBody (va_wsS RX5 63 yX2_numberOf wsX2_numberOf) := goodIn_app (goodIn_of _ (by decide +kernel)) ggX5_readBody_X2_numberOf
set_option maxRecDepth 20000 in
theorem ggX5_readBody_X3_mayStand : GoodIn wsX5_readBody wsX3_mayStand := goodIn_r _ [110, 111, 112, 113, 114, 109, 115, 116, 126, 127, 128, 129, 130] (by decide +kernel) (by decide +kernel)
set_option maxRecDepth 20000 in
theorem gX5_readBody_X3_mayStand : GoodIn wsX5_readBody (wsV RX5 69 RX3 yX3_mayStand wsX3_mayStand) := goodIn_app (goodIn_of _ (by decide +kernel)) ggX5_readBody_X3_mayStand
set_option maxRecDepth 20000 in
theorem ggX5_readBody_X3_partsOf : GoodIn wsX5_readBody wsX3_partsOf := goodIn_r _ [120, 111, 112, 113, 114, 109, 115, 116, 126, 127, 128, 129, 130] (by decide +kernel) (by decide +kernel)
set_option maxRecDepth 20000 in
theorem gX5_readBody_X3_partsOf : GoodIn wsX5_readBody (wsV RX5 76 RX3 yX3_partsOf wsX3_partsOf) := goodIn_app (goodIn_of _ (by decide +kernel)) ggX5_readBody_X3_partsOf
theorem dX5_readBody_0 : decode cX5_readBody 0 = .ok (.iconst 1, 1) := by decide +kernel
theorem dX5_readBody_1 : decode cX5_readBody 1 = .ok (.istore_n 1, 1) := by decide +kernel
theorem dX5_readBody_2 : decode cX5_readBody 2 = .ok (.iconst 0, 1) := by decide +kernel
theorem dX5_readBody_3 : decode cX5_readBody 3 = .ok (.istore_n 2, 1) := by decide +kernel
theorem dX5_readBody_4 : decode cX5_readBody 4 = .ok (.iload_n 1, 1) := by decide +kernel
theorem dX5_readBody_5 : decode cX5_readBody 5 = .ok (.ifCond .le 68, 3) := by decide +kernel
theorem dX5_readBody_8 : decode cX5_readBody 8 = .ok (.iload_n 2, 1) := by decide +kernel
theorem dX5_readBody_9 : decode cX5_readBody 9 = .ok (.bipush 24, 2) := by decide +kernel
theorem dX5_readBody_11 : decode cX5_readBody 11 = .ok (.if_icmp .ge 62, 3) := by decide +kernel
theorem dX5_readBody_14 : decode cX5_readBody 14 = .ok (.aload_n 0, 1) := by decide +kernel
theorem dX5_readBody_15 : decode cX5_readBody 15 = .ok (.invokevirtual 39, 3) := by decide +kernel
theorem dX5_readBody_18 : decode cX5_readBody 18 = .ok (.invokestatic 63, 3) := by decide +kernel
theorem dX5_readBody_21 : decode cX5_readBody 21 = .ok (.istore_n 3, 1) := by decide +kernel
theorem dX5_readBody_22 : decode cX5_readBody 22 = .ok (.aload_n 0, 1) := by decide +kernel
theorem dX5_readBody_23 : decode cX5_readBody 23 = .ok (.getfield 12, 3) := by decide +kernel
theorem dX5_readBody_26 : decode cX5_readBody 26 = .ok (.aload_n 0, 1) := by decide +kernel
theorem dX5_readBody_27 : decode cX5_readBody 27 = .ok (.getfield 29, 3) := by decide +kernel
theorem dX5_readBody_30 : decode cX5_readBody 30 = .ok (.iload_n 3, 1) := by decide +kernel
theorem dX5_readBody_31 : decode cX5_readBody 31 = .ok (.invokevirtual 69, 3) := by decide +kernel
theorem dX5_readBody_34 : decode cX5_readBody 34 = .ok (.ifCond .ne 5, 3) := by decide +kernel
theorem dX5_readBody_37 : decode cX5_readBody 37 = .ok (.iconst 0, 1) := by decide +kernel
theorem dX5_readBody_38 : decode cX5_readBody 38 = .ok (.ireturn, 1) := by decide +kernel
theorem dX5_readBody_39 : decode cX5_readBody 39 = .ok (.aload_n 0, 1) := by decide +kernel
theorem dX5_readBody_40 : decode cX5_readBody 40 = .ok (.getfield 12, 3) := by decide +kernel
theorem dX5_readBody_43 : decode cX5_readBody 43 = .ok (.getfield 73, 3) := by decide +kernel
theorem dX5_readBody_46 : decode cX5_readBody 46 = .ok (.aload_n 0, 1) := by decide +kernel
theorem dX5_readBody_47 : decode cX5_readBody 47 = .ok (.getfield 29, 3) := by decide +kernel
theorem dX5_readBody_50 : decode cX5_readBody 50 = .ok (.aaload, 1) := by decide +kernel
theorem dX5_readBody_51 : decode cX5_readBody 51 = .ok (.iload_n 2, 1) := by decide +kernel
theorem dX5_readBody_52 : decode cX5_readBody 52 = .ok (.iload_n 3, 1) := by decide +kernel
theorem dX5_readBody_53 : decode cX5_readBody 53 = .ok (.iastore, 1) := by decide +kernel
theorem dX5_readBody_54 : decode cX5_readBody 54 = .ok (.iload_n 1, 1) := by decide +kernel
theorem dX5_readBody_55 : decode cX5_readBody 55 = .ok (.aload_n 0, 1) := by decide +kernel
theorem dX5_readBody_56 : decode cX5_readBody 56 = .ok (.getfield 12, 3) := by decide +kernel
theorem dX5_readBody_59 : decode cX5_readBody 59 = .ok (.iload_n 3, 1) := by decide +kernel
theorem dX5_readBody_60 : decode cX5_readBody 60 = .ok (.invokevirtual 76, 3) := by decide +kernel
theorem dX5_readBody_63 : decode cX5_readBody 63 = .ok (.iconst 1, 1) := by decide +kernel
theorem dX5_readBody_64 : decode cX5_readBody 64 = .ok (.isub, 1) := by decide +kernel
theorem dX5_readBody_65 : decode cX5_readBody 65 = .ok (.iadd, 1) := by decide +kernel
theorem dX5_readBody_66 : decode cX5_readBody 66 = .ok (.istore_n 1, 1) := by decide +kernel
theorem dX5_readBody_67 : decode cX5_readBody 67 = .ok (.iinc 2 1, 3) := by decide +kernel
theorem dX5_readBody_70 : decode cX5_readBody 70 = .ok (.goto (-66), 3) := by decide +kernel
theorem dX5_readBody_73 : decode cX5_readBody 73 = .ok (.aload_n 0, 1) := by decide +kernel
theorem dX5_readBody_74 : decode cX5_readBody 74 = .ok (.getfield 12, 3) := by decide +kernel
theorem dX5_readBody_77 : decode cX5_readBody 77 = .ok (.getfield 79, 3) := by decide +kernel
theorem dX5_readBody_80 : decode cX5_readBody 80 = .ok (.aload_n 0, 1) := by decide +kernel
theorem dX5_readBody_81 : decode cX5_readBody 81 = .ok (.getfield 29, 3) := by decide +kernel
theorem dX5_readBody_84 : decode cX5_readBody 84 = .ok (.iload_n 2, 1) := by decide +kernel
theorem dX5_readBody_85 : decode cX5_readBody 85 = .ok (.iastore, 1) := by decide +kernel
theorem dX5_readBody_86 : decode cX5_readBody 86 = .ok (.iload_n 1, 1) := by decide +kernel
theorem dX5_readBody_87 : decode cX5_readBody 87 = .ok (.ifCond .ne 7, 3) := by decide +kernel
theorem dX5_readBody_90 : decode cX5_readBody 90 = .ok (.iconst 1, 1) := by decide +kernel
theorem dX5_readBody_91 : decode cX5_readBody 91 = .ok (.goto 4, 3) := by decide +kernel
theorem dX5_readBody_94 : decode cX5_readBody 94 = .ok (.iconst 0, 1) := by decide +kernel
theorem dX5_readBody_95 : decode cX5_readBody 95 = .ok (.ireturn, 1) := by decide +kernel
set_option maxRecDepth 20000 in
theorem ggX6_init_X7_init : GoodIn wsX6_init wsX7_init := goodIn_r _ [4, 5, 6, 7, 8, 9, 10, 11, 12, 13, 14, 15, 16, 17, 18, 19, 20, 21, 22, 23, 24, 25, 3, 26, 27, 28, 29, 30, 31, 32, 33, 34, 35, 36, 37, 38, 39, 40, 41, 42, 43, 44, 45, 46, 47, 48, 49, 50, 51, 52, 53, 54, 55, 56, 57, 58, 59, 60, 61, 62, 63, 64, 65, 66, 67] (by decide +kernel) (by decide +kernel)
set_option maxRecDepth 20000 in
theorem gX6_init_X7_init : GoodIn wsX6_init (wsX7_init) := ggX6_init_X7_init
theorem dX6_init_0 : decode cX6_init 0 = .ok (.aload_n 0, 1) := by decide +kernel
theorem dX6_init_1 : decode cX6_init 1 = .ok (.iconst 5, 1) := by decide +kernel
theorem dX6_init_2 : decode cX6_init 2 = .ok (.iconst 4, 1) := by decide +kernel
theorem dX6_init_3 : decode cX6_init 3 = .ok (.iconst 0, 1) := by decide +kernel
theorem dX6_init_4 : decode cX6_init 4 = .ok (.iconst 1, 1) := by decide +kernel
theorem dX6_init_5 : decode cX6_init 5 = .ok (.invokespecial 3, 3) := by decide +kernel
theorem dX6_init_8 : decode cX6_init 8 = .ok (.return_, 1) := by decide +kernel
theorem dX6_less_0 : decode cX6_less 0 = .ok (.iload_n 1, 1) := by decide +kernel
theorem dX6_less_1 : decode cX6_less 1 = .ok (.iconst 1, 1) := by decide +kernel
theorem dX6_less_2 : decode cX6_less 2 = .ok (.isub, 1) := by decide +kernel
theorem dX6_less_3 : decode cX6_less 3 = .ok (.iconst 0, 1) := by decide +kernel
theorem dX6_less_4 : decode cX6_less 4 = .ok (.invokestatic 9, 3) := by decide +kernel
theorem dX6_less_7 : decode cX6_less 7 = .ok (.ireturn, 1) := by decide +kernel
theorem dX6_sum_0 : decode cX6_sum 0 = .ok (.iload_n 1, 1) := by decide +kernel
theorem dX6_sum_1 : decode cX6_sum 1 = .ok (.iload_n 2, 1) := by decide +kernel
theorem dX6_sum_2 : decode cX6_sum 2 = .ok (.iadd, 1) := by decide +kernel
theorem dX6_sum_3 : decode cX6_sum 3 = .ok (.iconst 3, 1) := by decide +kernel
theorem dX6_sum_4 : decode cX6_sum 4 = .ok (.iand, 1) := by decide +kernel
theorem dX6_sum_5 : decode cX6_sum 5 = .ok (.ireturn, 1) := by decide +kernel
theorem dX6_chosen_0 : decode cX6_chosen 0 = .ok (.iload_n 1, 1) := by decide +kernel
theorem dX6_chosen_1 : decode cX6_chosen 1 = .ok (.ifCond .ne 7, 3) := by decide +kernel
theorem dX6_chosen_4 : decode cX6_chosen 4 = .ok (.iload_n 3, 1) := by decide +kernel
theorem dX6_chosen_5 : decode cX6_chosen 5 = .ok (.goto 4, 3) := by decide +kernel
theorem dX6_chosen_8 : decode cX6_chosen 8 = .ok (.iload_n 2, 1) := by decide +kernel
theorem dX6_chosen_9 : decode cX6_chosen 9 = .ok (.ireturn, 1) := by decide +kernel
theorem dX6_mayGrow_0 : decode cX6_mayGrow 0 = .ok (.iload_n 1, 1) := by decide +kernel
theorem dX6_mayGrow_1 : decode cX6_mayGrow 1 = .ok (.iconst 4, 1) := by decide +kernel
theorem dX6_mayGrow_2 : decode cX6_mayGrow 2 = .ok (.if_icmp .ne 7, 3) := by decide +kernel
theorem dX6_mayGrow_5 : decode cX6_mayGrow 5 = .ok (.iconst 1, 1) := by decide +kernel
theorem dX6_mayGrow_6 : decode cX6_mayGrow 6 = .ok (.goto 4, 3) := by decide +kernel
theorem dX6_mayGrow_9 : decode cX6_mayGrow 9 = .ok (.iconst 0, 1) := by decide +kernel
theorem dX6_mayGrow_10 : decode cX6_mayGrow 10 = .ok (.ireturn, 1) := by decide +kernel
set_option maxRecDepth 20000 in
theorem ggX7_init_X7_countUp : GoodIn wsX7_init wsX7_countUp := goodIn_r _ [23, 13, 8, 26, 27, 28, 29, 30, 31, 32, 33, 34, 35, 36, 37, 38, 39, 40, 41, 42, 43, 44, 45, 46, 47, 48, 49, 50, 51, 52, 53, 54, 55, 56, 57, 58, 59, 60, 61, 62, 63, 64] (by decide +kernel) (by decide +kernel)
set_option maxRecDepth 20000 in
theorem gX7_init_X7_countUp_u39X0 : GoodIn wsX7_init (va_wsU RX7 39 RX0 "EarlyValues$View" ⟨"EarlyValues$View", "countUp", "(I)V"⟩ yX7_countUp wsX7_countUp) := goodIn_app (goodIn_of _ (by decide +kernel)) ggX7_init_X7_countUp
set_option maxRecDepth 20000 in
theorem gX7_init_X7_countUp_u39X4 : GoodIn wsX7_init (va_wsU RX7 39 RX4 "EarlyValues$View" ⟨"EarlyValues$View", "countUp", "(I)V"⟩ yX7_countUp wsX7_countUp) := goodIn_app (goodIn_of _ (by decide +kernel)) ggX7_init_X7_countUp
set_option maxRecDepth 20000 in
theorem gX7_init_X7_countUp_u39X6 : GoodIn wsX7_init (va_wsU RX7 39 RX6 "EarlyValues$View" ⟨"EarlyValues$View", "countUp", "(I)V"⟩ yX7_countUp wsX7_countUp) := goodIn_app (goodIn_of _ (by decide +kernel)) ggX7_init_X7_countUp
theorem dX7_init_0 : decode cX7_init 0 = .ok (.aload_n 0, 1) := by decide +kernel
theorem dX7_init_1 : decode cX7_init 1 = .ok (.invokespecial 1, 3) := by decide +kernel
theorem dX7_init_4 : decode cX7_init 4 = .ok (.aload_n 0, 1) := by decide +kernel
theorem dX7_init_5 : decode cX7_init 5 = .ok (.iconst 4, 1) := by decide +kernel
theorem dX7_init_6 : decode cX7_init 6 = .ok (.newarray .int, 2) := by decide +kernel
theorem dX7_init_8 : decode cX7_init 8 = .ok (.putfield 9, 3) := by decide +kernel
theorem dX7_init_11 : decode cX7_init 11 = .ok (.aload_n 0, 1) := by decide +kernel
theorem dX7_init_12 : decode cX7_init 12 = .ok (.iconst 3, 1) := by decide +kernel
theorem dX7_init_13 : decode cX7_init 13 = .ok (.newarray .int, 2) := by decide +kernel
theorem dX7_init_15 : decode cX7_init 15 = .ok (.putfield 15, 3) := by decide +kernel
theorem dX7_init_18 : decode cX7_init 18 = .ok (.aload_n 0, 1) := by decide +kernel
theorem dX7_init_19 : decode cX7_init 19 = .ok (.bipush 24, 2) := by decide +kernel
theorem dX7_init_21 : decode cX7_init 21 = .ok (.newarray .int, 2) := by decide +kernel
theorem dX7_init_23 : decode cX7_init 23 = .ok (.putfield 18, 3) := by decide +kernel
theorem dX7_init_26 : decode cX7_init 26 = .ok (.aload_n 0, 1) := by decide +kernel
theorem dX7_init_27 : decode cX7_init 27 = .ok (.iload_n 1, 1) := by decide +kernel
theorem dX7_init_28 : decode cX7_init 28 = .ok (.putfield 21, 3) := by decide +kernel
theorem dX7_init_31 : decode cX7_init 31 = .ok (.aload_n 0, 1) := by decide +kernel
theorem dX7_init_32 : decode cX7_init 32 = .ok (.iload_n 2, 1) := by decide +kernel
theorem dX7_init_33 : decode cX7_init 33 = .ok (.putfield 25, 3) := by decide +kernel
theorem dX7_init_36 : decode cX7_init 36 = .ok (.aload_n 0, 1) := by decide +kernel
theorem dX7_init_37 : decode cX7_init 37 = .ok (.iload_n 3, 1) := by decide +kernel
theorem dX7_init_38 : decode cX7_init 38 = .ok (.putfield 28, 3) := by decide +kernel
theorem dX7_init_41 : decode cX7_init 41 = .ok (.aload_n 0, 1) := by decide +kernel
theorem dX7_init_42 : decode cX7_init 42 = .ok (.iload 4, 2) := by decide +kernel
theorem dX7_init_44 : decode cX7_init 44 = .ok (.putfield 31, 3) := by decide +kernel
theorem dX7_init_47 : decode cX7_init 47 = .ok (.aload_n 0, 1) := by decide +kernel
theorem dX7_init_48 : decode cX7_init 48 = .ok (.getfield 9, 3) := by decide +kernel
theorem dX7_init_51 : decode cX7_init 51 = .ok (.iconst 0, 1) := by decide +kernel
theorem dX7_init_52 : decode cX7_init 52 = .ok (.iconst 1, 1) := by decide +kernel
theorem dX7_init_53 : decode cX7_init 53 = .ok (.iastore, 1) := by decide +kernel
theorem dX7_init_54 : decode cX7_init 54 = .ok (.iconst 1, 1) := by decide +kernel
theorem dX7_init_55 : decode cX7_init 55 = .ok (.istore 5, 2) := by decide +kernel
theorem dX7_init_57 : decode cX7_init 57 = .ok (.iload 5, 2) := by decide +kernel
theorem dX7_init_59 : decode cX7_init 59 = .ok (.aload_n 0, 1) := by decide +kernel
theorem dX7_init_60 : decode cX7_init 60 = .ok (.getfield 9, 3) := by decide +kernel
theorem dX7_init_63 : decode cX7_init 63 = .ok (.arraylength, 1) := by decide +kernel
theorem dX7_init_64 : decode cX7_init 64 = .ok (.if_icmp .ge 27, 3) := by decide +kernel
theorem dX7_init_67 : decode cX7_init 67 = .ok (.aload_n 0, 1) := by decide +kernel
theorem dX7_init_68 : decode cX7_init 68 = .ok (.getfield 9, 3) := by decide +kernel
theorem dX7_init_71 : decode cX7_init 71 = .ok (.iload 5, 2) := by decide +kernel
theorem dX7_init_73 : decode cX7_init 73 = .ok (.aload_n 0, 1) := by decide +kernel
theorem dX7_init_74 : decode cX7_init 74 = .ok (.getfield 9, 3) := by decide +kernel
theorem dX7_init_77 : decode cX7_init 77 = .ok (.iload 5, 2) := by decide +kernel
theorem dX7_init_79 : decode cX7_init 79 = .ok (.iconst 1, 1) := by decide +kernel
theorem dX7_init_80 : decode cX7_init 80 = .ok (.isub, 1) := by decide +kernel
theorem dX7_init_81 : decode cX7_init 81 = .ok (.iaload, 1) := by decide +kernel
theorem dX7_init_82 : decode cX7_init 82 = .ok (.iload_n 1, 1) := by decide +kernel
theorem dX7_init_83 : decode cX7_init 83 = .ok (.imul, 1) := by decide +kernel
theorem dX7_init_84 : decode cX7_init 84 = .ok (.iastore, 1) := by decide +kernel
theorem dX7_init_85 : decode cX7_init 85 = .ok (.iinc 5 1, 3) := by decide +kernel
theorem dX7_init_88 : decode cX7_init 88 = .ok (.goto (-31), 3) := by decide +kernel
theorem dX7_init_91 : decode cX7_init 91 = .ok (.aload_n 0, 1) := by decide +kernel
theorem dX7_init_92 : decode cX7_init 92 = .ok (.getfield 9, 3) := by decide +kernel
theorem dX7_init_95 : decode cX7_init 95 = .ok (.iconst 3, 1) := by decide +kernel
theorem dX7_init_96 : decode cX7_init 96 = .ok (.iaload, 1) := by decide +kernel
theorem dX7_init_97 : decode cX7_init 97 = .ok (.istore 5, 2) := by decide +kernel
theorem dX7_init_99 : decode cX7_init 99 = .ok (.aload_n 0, 1) := by decide +kernel
theorem dX7_init_100 : decode cX7_init 100 = .ok (.iconst 3, 1) := by decide +kernel
theorem dX7_init_101 : decode cX7_init 101 = .ok (.iload 5, 2) := by decide +kernel
theorem dX7_init_103 : decode cX7_init 103 = .ok (.multianewarray 34 2, 4) := by decide +kernel
theorem dX7_init_107 : decode cX7_init 107 = .ok (.putfield 36, 3) := by decide +kernel
theorem dX7_init_110 : decode cX7_init 110 = .ok (.iconst 1, 1) := by decide +kernel
theorem dX7_init_111 : decode cX7_init 111 = .ok (.istore 6, 2) := by decide +kernel
theorem dX7_init_113 : decode cX7_init 113 = .ok (.iload 6, 2) := by decide +kernel
theorem dX7_init_115 : decode cX7_init 115 = .ok (.iload 5, 2) := by decide +kernel
theorem dX7_init_117 : decode cX7_init 117 = .ok (.if_icmp .ge 15, 3) := by decide +kernel
theorem dX7_init_120 : decode cX7_init 120 = .ok (.aload_n 0, 1) := by decide +kernel
theorem dX7_init_121 : decode cX7_init 121 = .ok (.iload 6, 2) := by decide +kernel
theorem dX7_init_123 : decode cX7_init 123 = .ok (.invokevirtual 39, 3) := by decide +kernel
theorem dX7_init_126 : decode cX7_init 126 = .ok (.iinc 6 1, 3) := by decide +kernel
theorem dX7_init_129 : decode cX7_init 129 = .ok (.goto (-16), 3) := by decide +kernel
theorem dX7_init_132 : decode cX7_init 132 = .ok (.aload_n 0, 1) := by decide +kernel
theorem dX7_init_133 : decode cX7_init 133 = .ok (.iconst 4, 1) := by decide +kernel
theorem dX7_init_134 : decode cX7_init 134 = .ok (.iload 5, 2) := by decide +kernel
theorem dX7_init_136 : decode cX7_init 136 = .ok (.multianewarray 43 2, 4) := by decide +kernel
theorem dX7_init_140 : decode cX7_init 140 = .ok (.putfield 45, 3) := by decide +kernel
theorem dX7_init_143 : decode cX7_init 143 = .ok (.aload_n 0, 1) := by decide +kernel
theorem dX7_init_144 : decode cX7_init 144 = .ok (.iconst 4, 1) := by decide +kernel
theorem dX7_init_145 : decode cX7_init 145 = .ok (.iload 5, 2) := by decide +kernel
theorem dX7_init_147 : decode cX7_init 147 = .ok (.multianewarray 43 2, 4) := by decide +kernel
theorem dX7_init_151 : decode cX7_init 151 = .ok (.putfield 48, 3) := by decide +kernel
theorem dX7_init_154 : decode cX7_init 154 = .ok (.return_, 1) := by decide +kernel
theorem dX7_countUp_0 : decode cX7_countUp 0 = .ok (.iconst 1, 1) := by decide +kernel
theorem dX7_countUp_1 : decode cX7_countUp 1 = .ok (.istore_n 2, 1) := by decide +kernel
theorem dX7_countUp_2 : decode cX7_countUp 2 = .ok (.iconst 0, 1) := by decide +kernel
theorem dX7_countUp_3 : decode cX7_countUp 3 = .ok (.istore_n 3, 1) := by decide +kernel
theorem dX7_countUp_4 : decode cX7_countUp 4 = .ok (.iload_n 3, 1) := by decide +kernel
theorem dX7_countUp_5 : decode cX7_countUp 5 = .ok (.iconst 3, 1) := by decide +kernel
theorem dX7_countUp_6 : decode cX7_countUp 6 = .ok (.if_icmp .ge 64, 3) := by decide +kernel
theorem dX7_countUp_9 : decode cX7_countUp 9 = .ok (.aload_n 0, 1) := by decide +kernel
theorem dX7_countUp_10 : decode cX7_countUp 10 = .ok (.getfield 36, 3) := by decide +kernel
theorem dX7_countUp_13 : decode cX7_countUp 13 = .ok (.iload_n 3, 1) := by decide +kernel
theorem dX7_countUp_14 : decode cX7_countUp 14 = .ok (.aaload, 1) := by decide +kernel
theorem dX7_countUp_15 : decode cX7_countUp 15 = .ok (.iload_n 1, 1) := by decide +kernel
theorem dX7_countUp_16 : decode cX7_countUp 16 = .ok (.iconst 1, 1) := by decide +kernel
theorem dX7_countUp_17 : decode cX7_countUp 17 = .ok (.isub, 1) := by decide +kernel
theorem dX7_countUp_18 : decode cX7_countUp 18 = .ok (.iaload, 1) := by decide +kernel
theorem dX7_countUp_19 : decode cX7_countUp 19 = .ok (.iload_n 2, 1) := by decide +kernel
theorem dX7_countUp_20 : decode cX7_countUp 20 = .ok (.ifCond .eq 7, 3) := by decide +kernel
theorem dX7_countUp_23 : decode cX7_countUp 23 = .ok (.iconst 1, 1) := by decide +kernel
theorem dX7_countUp_24 : decode cX7_countUp 24 = .ok (.goto 4, 3) := by decide +kernel
theorem dX7_countUp_27 : decode cX7_countUp 27 = .ok (.iconst 0, 1) := by decide +kernel
theorem dX7_countUp_28 : decode cX7_countUp 28 = .ok (.iadd, 1) := by decide +kernel
theorem dX7_countUp_29 : decode cX7_countUp 29 = .ok (.istore 4, 2) := by decide +kernel
theorem dX7_countUp_31 : decode cX7_countUp 31 = .ok (.iload 4, 2) := by decide +kernel
theorem dX7_countUp_33 : decode cX7_countUp 33 = .ok (.aload_n 0, 1) := by decide +kernel
theorem dX7_countUp_34 : decode cX7_countUp 34 = .ok (.getfield 21, 3) := by decide +kernel
theorem dX7_countUp_37 : decode cX7_countUp 37 = .ok (.if_icmp .ne 7, 3) := by decide +kernel
theorem dX7_countUp_40 : decode cX7_countUp 40 = .ok (.iconst 1, 1) := by decide +kernel
theorem dX7_countUp_41 : decode cX7_countUp 41 = .ok (.goto 4, 3) := by decide +kernel
theorem dX7_countUp_44 : decode cX7_countUp 44 = .ok (.iconst 0, 1) := by decide +kernel
theorem dX7_countUp_45 : decode cX7_countUp 45 = .ok (.istore_n 2, 1) := by decide +kernel
theorem dX7_countUp_46 : decode cX7_countUp 46 = .ok (.aload_n 0, 1) := by decide +kernel
theorem dX7_countUp_47 : decode cX7_countUp 47 = .ok (.getfield 36, 3) := by decide +kernel
theorem dX7_countUp_50 : decode cX7_countUp 50 = .ok (.iload_n 3, 1) := by decide +kernel
theorem dX7_countUp_51 : decode cX7_countUp 51 = .ok (.aaload, 1) := by decide +kernel
theorem dX7_countUp_52 : decode cX7_countUp 52 = .ok (.iload_n 1, 1) := by decide +kernel
theorem dX7_countUp_53 : decode cX7_countUp 53 = .ok (.iload_n 2, 1) := by decide +kernel
theorem dX7_countUp_54 : decode cX7_countUp 54 = .ok (.ifCond .eq 7, 3) := by decide +kernel
theorem dX7_countUp_57 : decode cX7_countUp 57 = .ok (.iconst 0, 1) := by decide +kernel
theorem dX7_countUp_58 : decode cX7_countUp 58 = .ok (.goto 5, 3) := by decide +kernel
theorem dX7_countUp_61 : decode cX7_countUp 61 = .ok (.iload 4, 2) := by decide +kernel
theorem dX7_countUp_63 : decode cX7_countUp 63 = .ok (.iastore, 1) := by decide +kernel
theorem dX7_countUp_64 : decode cX7_countUp 64 = .ok (.iinc 3 1, 3) := by decide +kernel
theorem dX7_countUp_67 : decode cX7_countUp 67 = .ok (.goto (-63), 3) := by decide +kernel
theorem dX7_countUp_70 : decode cX7_countUp 70 = .ok (.return_, 1) := by decide +kernel
set_option maxRecDepth 20000 in
theorem ggX7_rowsOf_X3_has : GoodIn wsX7_rowsOf wsX3_has := goodIn_r _ [7, 8, 48, 49, 50, 51, 52] (by decide +kernel) (by decide +kernel)
set_option maxRecDepth 20000 in
theorem gX7_rowsOf_X3_has : GoodIn wsX7_rowsOf (wsV RX7 51 RX3 yX3_has wsX3_has) := goodIn_app (goodIn_of _ (by decide +kernel)) ggX7_rowsOf_X3_has
theorem dX7_rowsOf_0 : decode cX7_rowsOf 0 = .ok (.aload_n 1, 1) := by decide +kernel
theorem dX7_rowsOf_1 : decode cX7_rowsOf 1 = .ok (.iload_n 2, 1) := by decide +kernel
theorem dX7_rowsOf_2 : decode cX7_rowsOf 2 = .ok (.invokevirtual 51, 3) := by decide +kernel
theorem dX7_rowsOf_5 : decode cX7_rowsOf 5 = .ok (.ifCond .eq 17, 3) := by decide +kernel
theorem dX7_rowsOf_8 : decode cX7_rowsOf 8 = .ok (.aload_n 0, 1) := by decide +kernel
theorem dX7_rowsOf_9 : decode cX7_rowsOf 9 = .ok (.getfield 9, 3) := by decide +kernel
theorem dX7_rowsOf_12 : decode cX7_rowsOf 12 = .ok (.aload_n 1, 1) := by decide +kernel
theorem dX7_rowsOf_13 : decode cX7_rowsOf 13 = .ok (.getfield 55, 3) := by decide +kernel
theorem dX7_rowsOf_16 : decode cX7_rowsOf 16 = .ok (.iload_n 2, 1) := by decide +kernel
theorem dX7_rowsOf_17 : decode cX7_rowsOf 17 = .ok (.iaload, 1) := by decide +kernel
theorem dX7_rowsOf_18 : decode cX7_rowsOf 18 = .ok (.iaload, 1) := by decide +kernel
theorem dX7_rowsOf_19 : decode cX7_rowsOf 19 = .ok (.goto 4, 3) := by decide +kernel
theorem dX7_rowsOf_22 : decode cX7_rowsOf 22 = .ok (.iconst 0, 1) := by decide +kernel
theorem dX7_rowsOf_23 : decode cX7_rowsOf 23 = .ok (.ireturn, 1) := by decide +kernel
set_option maxRecDepth 20000 in
theorem ggX7_rowOf_X3_has : GoodIn wsX7_rowOf wsX3_has := goodIn_r _ [6, 7, 64, 65, 66, 67, 68] (by decide +kernel) (by decide +kernel)
set_option maxRecDepth 20000 in
theorem gX7_rowOf_X3_has : GoodIn wsX7_rowOf (wsV RX7 51 RX3 yX3_has wsX3_has) := goodIn_app (goodIn_of _ (by decide +kernel)) ggX7_rowOf_X3_has
set_option maxRecDepth 20000 in
theorem ggX7_rowOf_X7_isDigit : GoodIn wsX7_rowOf wsX7_isDigit := goodIn_r _ [13, 14, 25, 26, 27, 28, 29, 30, 31, 32, 33, 34, 35, 36, 37, 38, 39, 40, 41, 42, 43, 44, 45, 46, 47, 48, 49, 50, 51, 52, 53, 54, 55, 56, 57, 58, 59, 60, 61, 62, 63] (by decide +kernel) (by decide +kernel)
set_option maxRecDepth 20000 in
theorem gX7_rowOf_X7_isDigit_u58X0 : GoodIn wsX7_rowOf (va_wsU RX7 58 RX0 "EarlyValues$View" ⟨"EarlyValues$View", "isDigit", "(I)Z"⟩ yX7_isDigit wsX7_isDigit) := goodIn_app (goodIn_of _ (by decide +kernel)) ggX7_rowOf_X7_isDigit
set_option maxRecDepth 20000 in
theorem gX7_rowOf_X7_isDigit_u58X4 : GoodIn wsX7_rowOf (va_wsU RX7 58 RX4 "EarlyValues$View" ⟨"EarlyValues$View", "isDigit", "(I)Z"⟩ yX7_isDigit wsX7_isDigit) := goodIn_app (goodIn_of _ (by decide +kernel)) ggX7_rowOf_X7_isDigit
set_option maxRecDepth 20000 in
theorem gX7_rowOf_X7_isDigit_u58X6 : GoodIn wsX7_rowOf (va_wsU RX7 58 RX6 "EarlyValues$View" ⟨"EarlyValues$View", "isDigit", "(I)Z"⟩ yX7_isDigit wsX7_isDigit) := goodIn_app (goodIn_of _ (by decide +kernel)) ggX7_rowOf_X7_isDigit
set_option maxRecDepth 20000 in
theorem ggX7_rowOf_X7_rowsOf : GoodIn wsX7_rowOf wsX7_rowsOf := goodIn_r _ [21, 1, 22, 2, 3, 4, 5, 6, 7, 25, 26, 27, 28, 29, 30, 31, 32, 33, 34, 35, 36, 37, 38, 39, 40, 41, 42, 43, 44, 45, 46, 47, 48, 49, 50, 51, 52, 53, 54, 55, 56, 57, 58, 59, 60, 61, 62, 63, 64, 65, 66, 67, 68] (by decide +kernel) (by decide +kernel)
set_option maxRecDepth 20000 in
theorem gX7_rowOf_X7_rowsOf_u61X0 : GoodIn wsX7_rowOf (va_wsU RX7 61 RX0 "EarlyValues$View" ⟨"EarlyValues$View", "rowsOf", "(LEarlyValues$Program;I)I"⟩ yX7_rowsOf wsX7_rowsOf) := goodIn_app (goodIn_of _ (by decide +kernel)) ggX7_rowOf_X7_rowsOf
set_option maxRecDepth 20000 in
theorem gX7_rowOf_X7_rowsOf_u61X4 : GoodIn wsX7_rowOf (va_wsU RX7 61 RX4 "EarlyValues$View" ⟨"EarlyValues$View", "rowsOf", "(LEarlyValues$Program;I)I"⟩ yX7_rowsOf wsX7_rowsOf) := goodIn_app (goodIn_of _ (by decide +kernel)) ggX7_rowOf_X7_rowsOf
set_option maxRecDepth 20000 in
theorem gX7_rowOf_X7_rowsOf_u61X6 : GoodIn wsX7_rowOf (va_wsU RX7 61 RX6 "EarlyValues$View" ⟨"EarlyValues$View", "rowsOf", "(LEarlyValues$Program;I)I"⟩ yX7_rowsOf wsX7_rowsOf) := goodIn_app (goodIn_of _ (by decide +kernel)) ggX7_rowOf_X7_rowsOf
theorem dX7_rowOf_0 : decode cX7_rowOf 0 = .ok (.aload_n 1, 1) := by decide +kernel
theorem dX7_rowOf_1 : decode cX7_rowOf 1 = .ok (.iload_n 2, 1) := by decide +kernel
theorem dX7_rowOf_2 : decode cX7_rowOf 2 = .ok (.invokevirtual 51, 3) := by decide +kernel
theorem dX7_rowOf_5 : decode cX7_rowOf 5 = .ok (.ifCond .eq 29, 3) := by decide +kernel
theorem dX7_rowOf_8 : decode cX7_rowOf 8 = .ok (.aload_n 0, 1) := by decide +kernel
theorem dX7_rowOf_9 : decode cX7_rowOf 9 = .ok (.iload_n 3, 1) := by decide +kernel
theorem dX7_rowOf_10 : decode cX7_rowOf 10 = .ok (.invokevirtual 58, 3) := by decide +kernel
theorem dX7_rowOf_13 : decode cX7_rowOf 13 = .ok (.ifCond .eq 21, 3) := by decide +kernel
theorem dX7_rowOf_16 : decode cX7_rowOf 16 = .ok (.aload_n 0, 1) := by decide +kernel
theorem dX7_rowOf_17 : decode cX7_rowOf 17 = .ok (.iload 4, 2) := by decide +kernel
theorem dX7_rowOf_19 : decode cX7_rowOf 19 = .ok (.invokevirtual 58, 3) := by decide +kernel
theorem dX7_rowOf_22 : decode cX7_rowOf 22 = .ok (.ifCond .eq 12, 3) := by decide +kernel
theorem dX7_rowOf_25 : decode cX7_rowOf 25 = .ok (.aload_n 0, 1) := by decide +kernel
theorem dX7_rowOf_26 : decode cX7_rowOf 26 = .ok (.iload 5, 2) := by decide +kernel
theorem dX7_rowOf_28 : decode cX7_rowOf 28 = .ok (.invokevirtual 58, 3) := by decide +kernel
theorem dX7_rowOf_31 : decode cX7_rowOf 31 = .ok (.ifCond .ne 5, 3) := by decide +kernel
theorem dX7_rowOf_34 : decode cX7_rowOf 34 = .ok (.iconst (-1), 1) := by decide +kernel
theorem dX7_rowOf_35 : decode cX7_rowOf 35 = .ok (.ireturn, 1) := by decide +kernel
theorem dX7_rowOf_36 : decode cX7_rowOf 36 = .ok (.iload_n 3, 1) := by decide +kernel
theorem dX7_rowOf_37 : decode cX7_rowOf 37 = .ok (.aload_n 0, 1) := by decide +kernel
theorem dX7_rowOf_38 : decode cX7_rowOf 38 = .ok (.getfield 9, 3) := by decide +kernel
theorem dX7_rowOf_41 : decode cX7_rowOf 41 = .ok (.iconst 1, 1) := by decide +kernel
theorem dX7_rowOf_42 : decode cX7_rowOf 42 = .ok (.iaload, 1) := by decide +kernel
theorem dX7_rowOf_43 : decode cX7_rowOf 43 = .ok (.iload 4, 2) := by decide +kernel
theorem dX7_rowOf_45 : decode cX7_rowOf 45 = .ok (.imul, 1) := by decide +kernel
theorem dX7_rowOf_46 : decode cX7_rowOf 46 = .ok (.iadd, 1) := by decide +kernel
theorem dX7_rowOf_47 : decode cX7_rowOf 47 = .ok (.aload_n 0, 1) := by decide +kernel
theorem dX7_rowOf_48 : decode cX7_rowOf 48 = .ok (.getfield 9, 3) := by decide +kernel
theorem dX7_rowOf_51 : decode cX7_rowOf 51 = .ok (.iconst 2, 1) := by decide +kernel
theorem dX7_rowOf_52 : decode cX7_rowOf 52 = .ok (.iaload, 1) := by decide +kernel
theorem dX7_rowOf_53 : decode cX7_rowOf 53 = .ok (.iload 5, 2) := by decide +kernel
theorem dX7_rowOf_55 : decode cX7_rowOf 55 = .ok (.imul, 1) := by decide +kernel
theorem dX7_rowOf_56 : decode cX7_rowOf 56 = .ok (.iadd, 1) := by decide +kernel
theorem dX7_rowOf_57 : decode cX7_rowOf 57 = .ok (.istore 6, 2) := by decide +kernel
theorem dX7_rowOf_59 : decode cX7_rowOf 59 = .ok (.iload 6, 2) := by decide +kernel
theorem dX7_rowOf_61 : decode cX7_rowOf 61 = .ok (.aload_n 0, 1) := by decide +kernel
theorem dX7_rowOf_62 : decode cX7_rowOf 62 = .ok (.aload_n 1, 1) := by decide +kernel
theorem dX7_rowOf_63 : decode cX7_rowOf 63 = .ok (.iload_n 2, 1) := by decide +kernel
theorem dX7_rowOf_64 : decode cX7_rowOf 64 = .ok (.invokevirtual 61, 3) := by decide +kernel
theorem dX7_rowOf_67 : decode cX7_rowOf 67 = .ok (.if_icmp .ge 8, 3) := by decide +kernel
theorem dX7_rowOf_70 : decode cX7_rowOf 70 = .ok (.iload 6, 2) := by decide +kernel
theorem dX7_rowOf_72 : decode cX7_rowOf 72 = .ok (.goto 4, 3) := by decide +kernel
theorem dX7_rowOf_75 : decode cX7_rowOf 75 = .ok (.iconst (-1), 1) := by decide +kernel
theorem dX7_rowOf_76 : decode cX7_rowOf 76 = .ok (.ireturn, 1) := by decide +kernel
theorem dX7_isDigit_0 : decode cX7_isDigit 0 = .ok (.iload_n 1, 1) := by decide +kernel
theorem dX7_isDigit_1 : decode cX7_isDigit 1 = .ok (.ifCond .lt 15, 3) := by decide +kernel
theorem dX7_isDigit_4 : decode cX7_isDigit 4 = .ok (.iload_n 1, 1) := by decide +kernel
theorem dX7_isDigit_5 : decode cX7_isDigit 5 = .ok (.aload_n 0, 1) := by decide +kernel
theorem dX7_isDigit_6 : decode cX7_isDigit 6 = .ok (.getfield 21, 3) := by decide +kernel
theorem dX7_isDigit_9 : decode cX7_isDigit 9 = .ok (.if_icmp .ge 7, 3) := by decide +kernel
theorem dX7_isDigit_12 : decode cX7_isDigit 12 = .ok (.iconst 1, 1) := by decide +kernel
theorem dX7_isDigit_13 : decode cX7_isDigit 13 = .ok (.goto 4, 3) := by decide +kernel
theorem dX7_isDigit_16 : decode cX7_isDigit 16 = .ok (.iconst 0, 1) := by decide +kernel
theorem dX7_isDigit_17 : decode cX7_isDigit 17 = .ok (.ireturn, 1) := by decide +kernel
theorem dX7_at_0 : decode cX7_at 0 = .ok (.iload_n 1, 1) := by decide +kernel
theorem dX7_at_1 : decode cX7_at 1 = .ok (.ifCond .lt 31, 3) := by decide +kernel
theorem dX7_at_4 : decode cX7_at 4 = .ok (.iload_n 1, 1) := by decide +kernel
theorem dX7_at_5 : decode cX7_at 5 = .ok (.aload_n 0, 1) := by decide +kernel
theorem dX7_at_6 : decode cX7_at 6 = .ok (.getfield 45, 3) := by decide +kernel
theorem dX7_at_9 : decode cX7_at 9 = .ok (.arraylength, 1) := by decide +kernel
theorem dX7_at_10 : decode cX7_at 10 = .ok (.if_icmp .ge 22, 3) := by decide +kernel
theorem dX7_at_13 : decode cX7_at 13 = .ok (.iload_n 2, 1) := by decide +kernel
theorem dX7_at_14 : decode cX7_at 14 = .ok (.ifCond .lt 18, 3) := by decide +kernel
theorem dX7_at_17 : decode cX7_at 17 = .ok (.iload_n 2, 1) := by decide +kernel
theorem dX7_at_18 : decode cX7_at 18 = .ok (.aload_n 0, 1) := by decide +kernel
theorem dX7_at_19 : decode cX7_at 19 = .ok (.getfield 45, 3) := by decide +kernel
theorem dX7_at_22 : decode cX7_at 22 = .ok (.iload_n 1, 1) := by decide +kernel
theorem dX7_at_23 : decode cX7_at 23 = .ok (.aaload, 1) := by decide +kernel
theorem dX7_at_24 : decode cX7_at 24 = .ok (.arraylength, 1) := by decide +kernel
theorem dX7_at_25 : decode cX7_at 25 = .ok (.if_icmp .ge 7, 3) := by decide +kernel
theorem dX7_at_28 : decode cX7_at 28 = .ok (.iconst 1, 1) := by decide +kernel
theorem dX7_at_29 : decode cX7_at 29 = .ok (.goto 4, 3) := by decide +kernel
theorem dX7_at_32 : decode cX7_at 32 = .ok (.iconst 0, 1) := by decide +kernel
theorem dX7_at_33 : decode cX7_at 33 = .ok (.istore_n 3, 1) := by decide +kernel
theorem dX7_at_34 : decode cX7_at 34 = .ok (.iload_n 3, 1) := by decide +kernel
theorem dX7_at_35 : decode cX7_at 35 = .ok (.ifCond .eq 14, 3) := by decide +kernel
theorem dX7_at_38 : decode cX7_at 38 = .ok (.aload_n 0, 1) := by decide +kernel
theorem dX7_at_39 : decode cX7_at 39 = .ok (.getfield 45, 3) := by decide +kernel
theorem dX7_at_42 : decode cX7_at 42 = .ok (.iload_n 1, 1) := by decide +kernel
theorem dX7_at_43 : decode cX7_at 43 = .ok (.aaload, 1) := by decide +kernel
theorem dX7_at_44 : decode cX7_at 44 = .ok (.iload_n 2, 1) := by decide +kernel
theorem dX7_at_45 : decode cX7_at 45 = .ok (.baload, 1) := by decide +kernel
theorem dX7_at_46 : decode cX7_at 46 = .ok (.goto 7, 3) := by decide +kernel
theorem dX7_at_49 : decode cX7_at 49 = .ok (.aload_n 0, 1) := by decide +kernel
theorem dX7_at_50 : decode cX7_at 50 = .ok (.getfield 25, 3) := by decide +kernel
theorem dX7_at_53 : decode cX7_at 53 = .ok (.ireturn, 1) := by decide +kernel
set_option maxRecDepth 20000 in
theorem ggX7_solve_X7_begin : GoodIn wsX7_solve wsX7_begin := goodIn_r _ [8, 9, 10, 11, 12, 13, 14, 149, 150, 151, 152, 153, 154, 155, 156, 157, 158, 159, 160, 161, 162, 163, 164, 165, 166, 167, 168, 169, 170, 171, 172, 173, 174, 175, 176, 177, 178, 179, 180, 181, 182, 183, 184, 185, 186, 187] (by decide +kernel) (by decide +kernel)
set_option maxRecDepth 20000 in
theorem gX7_solve_X7_begin_u65X0 : GoodIn wsX7_solve (va_wsU RX7 65 RX0 "EarlyValues$View" ⟨"EarlyValues$View", "begin", "()V"⟩ yX7_begin wsX7_begin) := goodIn_app (goodIn_of _ (by decide +kernel)) ggX7_solve_X7_begin
set_option maxRecDepth 20000 in
theorem gX7_solve_X7_begin_u65X4 : GoodIn wsX7_solve (va_wsU RX7 65 RX4 "EarlyValues$View" ⟨"EarlyValues$View", "begin", "()V"⟩ yX7_begin wsX7_begin) := goodIn_app (goodIn_of _ (by decide +kernel)) ggX7_solve_X7_begin
set_option maxRecDepth 20000 in
theorem gX7_solve_X7_begin_u65X6 : GoodIn wsX7_solve (va_wsU RX7 65 RX6 "EarlyValues$View" ⟨"EarlyValues$View", "begin", "()V"⟩ yX7_begin wsX7_begin) := goodIn_app (goodIn_of _ (by decide +kernel)) ggX7_solve_X7_begin
set_option maxRecDepth 20000 in
theorem ggX7_solve_X7_advance : GoodIn wsX7_solve wsX7_advance := goodIn_r _ [21, 22, 23, 9, 24, 25, 26, 27, 7, 28, 29, 30, 31, 32, 33, 34, 35, 36, 37, 38, 39, 40, 41, 42, 43, 10, 44, 45, 46, 47, 48, 49, 50, 51, 52, 53, 54, 55, 56, 57, 58, 59, 60, 61, 62, 63, 64, 65, 66, 67, 68, 69, 70, 71, 72, 73, 74, 75, 76, 77, 78, 79, 80, 81, 82, 83, 84, 85, 86, 87, 88, 89, 90, 91, 92, 93, 94, 95, 96, 97, 98, 99, 100, 101, 102, 103, 104, 105, 106, 107, 108, 109, 110, 111, 112, 113, 114, 115, 116, 117, 118, 119, 120, 121, 122, 123, 124, 125, 126, 127, 128, 129, 130, 131, 132, 133, 134, 135, 136, 137, 138, 139, 140, 141, 142, 143, 144, 145, 146, 188, 189, 190, 191, 192, 149, 150, 151, 152, 153, 154, 155, 156, 157, 158, 159, 160, 161, 162, 163, 164, 165, 166, 167, 168, 169, 170, 171, 172, 173, 174, 175, 176, 177, 178, 179, 180, 181, 182, 183, 184, 185, 186, 187] (by decide +kernel) (by decide +kernel)
set_option maxRecDepth 20000 in
theorem gX7_solve_X7_advance_u71X0 : GoodIn wsX7_solve (va_wsU RX7 71 RX0 "EarlyValues$View" ⟨"EarlyValues$View", "advance", "(LEarlyValues$Program;)Z"⟩ yX7_advance wsX7_advance) := goodIn_app (goodIn_of _ (by decide +kernel)) ggX7_solve_X7_advance
set_option maxRecDepth 20000 in
theorem gX7_solve_X7_advance_u71X4 : GoodIn wsX7_solve (va_wsU RX7 71 RX4 "EarlyValues$View" ⟨"EarlyValues$View", "advance", "(LEarlyValues$Program;)Z"⟩ yX7_advance wsX7_advance) := goodIn_app (goodIn_of _ (by decide +kernel)) ggX7_solve_X7_advance
set_option maxRecDepth 20000 in
theorem gX7_solve_X7_advance_u71X6 : GoodIn wsX7_solve (va_wsU RX7 71 RX6 "EarlyValues$View" ⟨"EarlyValues$View", "advance", "(LEarlyValues$Program;)Z"⟩ yX7_advance wsX7_advance) := goodIn_app (goodIn_of _ (by decide +kernel)) ggX7_solve_X7_advance
theorem dX7_solve_0 : decode cX7_solve 0 = .ok (.aload_n 0, 1) := by decide +kernel
theorem dX7_solve_1 : decode cX7_solve 1 = .ok (.invokevirtual 65, 3) := by decide +kernel
theorem dX7_solve_4 : decode cX7_solve 4 = .ok (.iconst 1, 1) := by decide +kernel
theorem dX7_solve_5 : decode cX7_solve 5 = .ok (.istore_n 2, 1) := by decide +kernel
theorem dX7_solve_6 : decode cX7_solve 6 = .ok (.iconst 0, 1) := by decide +kernel
theorem dX7_solve_7 : decode cX7_solve 7 = .ok (.istore_n 3, 1) := by decide +kernel
theorem dX7_solve_8 : decode cX7_solve 8 = .ok (.iload_n 2, 1) := by decide +kernel
theorem dX7_solve_9 : decode cX7_solve 9 = .ok (.ifCond .eq 27, 3) := by decide +kernel
theorem dX7_solve_12 : decode cX7_solve 12 = .ok (.iload_n 3, 1) := by decide +kernel
theorem dX7_solve_13 : decode cX7_solve 13 = .ok (.sipush 1000, 3) := by decide +kernel
theorem dX7_solve_16 : decode cX7_solve 16 = .ok (.if_icmp .ge 20, 3) := by decide +kernel
theorem dX7_solve_19 : decode cX7_solve 19 = .ok (.aload_n 0, 1) := by decide +kernel
theorem dX7_solve_20 : decode cX7_solve 20 = .ok (.iload_n 3, 1) := by decide +kernel
theorem dX7_solve_21 : decode cX7_solve 21 = .ok (.putfield 68, 3) := by decide +kernel
theorem dX7_solve_24 : decode cX7_solve 24 = .ok (.aload_n 0, 1) := by decide +kernel
theorem dX7_solve_25 : decode cX7_solve 25 = .ok (.aload_n 1, 1) := by decide +kernel
theorem dX7_solve_26 : decode cX7_solve 26 = .ok (.invokevirtual 71, 3) := by decide +kernel
theorem dX7_solve_29 : decode cX7_solve 29 = .ok (.istore_n 2, 1) := by decide +kernel
theorem dX7_solve_30 : decode cX7_solve 30 = .ok (.iinc 3 1, 3) := by decide +kernel
theorem dX7_solve_33 : decode cX7_solve 33 = .ok (.goto (-25), 3) := by decide +kernel
theorem dX7_solve_36 : decode cX7_solve 36 = .ok (.aload_n 0, 1) := by decide +kernel
theorem dX7_solve_37 : decode cX7_solve 37 = .ok (.iconst 1, 1) := by decide +kernel
theorem dX7_solve_38 : decode cX7_solve 38 = .ok (.putfield 75, 3) := by decide +kernel
theorem dX7_solve_41 : decode cX7_solve 41 = .ok (.return_, 1) := by decide +kernel
set_option maxRecDepth 20000 in
theorem ggX7_staysStrict_X7_begin : GoodIn wsX7_staysStrict wsX7_begin := goodIn_r _ [6, 7, 8, 9, 10, 11, 12, 154, 155, 156, 157, 158, 159, 160, 161, 162, 163, 164, 165, 166, 167, 168, 169, 170, 171, 172, 173, 174, 175, 176, 177, 178, 179, 180, 181, 182, 183, 184, 185, 186, 187, 188, 189, 190, 191, 192] (by decide +kernel) (by decide +kernel)
set_option maxRecDepth 20000 in
theorem gX7_staysStrict_X7_begin_u65X0 : GoodIn wsX7_staysStrict (va_wsU RX7 65 RX0 "EarlyValues$View" ⟨"EarlyValues$View", "begin", "()V"⟩ yX7_begin wsX7_begin) := goodIn_app (goodIn_of _ (by decide +kernel)) ggX7_staysStrict_X7_begin
set_option maxRecDepth 20000 in
theorem gX7_staysStrict_X7_begin_u65X4 : GoodIn wsX7_staysStrict (va_wsU RX7 65 RX4 "EarlyValues$View" ⟨"EarlyValues$View", "begin", "()V"⟩ yX7_begin wsX7_begin) := goodIn_app (goodIn_of _ (by decide +kernel)) ggX7_staysStrict_X7_begin
set_option maxRecDepth 20000 in
theorem gX7_staysStrict_X7_begin_u65X6 : GoodIn wsX7_staysStrict (va_wsU RX7 65 RX6 "EarlyValues$View" ⟨"EarlyValues$View", "begin", "()V"⟩ yX7_begin wsX7_begin) := goodIn_app (goodIn_of _ (by decide +kernel)) ggX7_staysStrict_X7_begin
set_option maxRecDepth 20000 in
theorem ggX7_staysStrict_X7_advance : GoodIn wsX7_staysStrict wsX7_advance := goodIn_r _ [19, 20, 21, 7, 22, 23, 24, 25, 5, 26, 27, 28, 29, 30, 31, 32, 33, 34, 35, 36, 37, 38, 39, 40, 41, 8, 42, 43, 44, 45, 46, 47, 48, 49, 50, 51, 52, 53, 54, 55, 56, 57, 58, 59, 60, 61, 62, 63, 64, 65, 66, 67, 68, 69, 70, 71, 72, 73, 74, 75, 76, 77, 78, 79, 80, 81, 82, 83, 84, 85, 86, 87, 88, 89, 90, 91, 92, 93, 94, 95, 96, 97, 98, 99, 100, 101, 102, 103, 104, 105, 106, 107, 108, 109, 110, 111, 112, 113, 114, 115, 116, 117, 118, 119, 120, 121, 122, 123, 124, 125, 126, 127, 128, 129, 130, 131, 132, 133, 134, 135, 136, 137, 138, 139, 140, 141, 142, 143, 144, 193, 194, 195, 196, 197, 154, 155, 156, 157, 158, 159, 160, 161, 162, 163, 164, 165, 166, 167, 168, 169, 170, 171, 172, 173, 174, 175, 176, 177, 178, 179, 180, 181, 182, 183, 184, 185, 186, 187, 188, 189, 190, 191, 192] (by decide +kernel) (by decide +kernel)
set_option maxRecDepth 20000 in
theorem gX7_staysStrict_X7_advance_u71X0 : GoodIn wsX7_staysStrict (va_wsU RX7 71 RX0 "EarlyValues$View" ⟨"EarlyValues$View", "advance", "(LEarlyValues$Program;)Z"⟩ yX7_advance wsX7_advance) := goodIn_app (goodIn_of _ (by decide +kernel)) ggX7_staysStrict_X7_advance
set_option maxRecDepth 20000 in
theorem gX7_staysStrict_X7_advance_u71X4 : GoodIn wsX7_staysStrict (va_wsU RX7 71 RX4 "EarlyValues$View" ⟨"EarlyValues$View", "advance", "(LEarlyValues$Program;)Z"⟩ yX7_advance wsX7_advance) := goodIn_app (goodIn_of _ (by decide +kernel)) ggX7_staysStrict_X7_advance
set_option maxRecDepth 20000 in
theorem gX7_staysStrict_X7_advance_u71X6 : GoodIn wsX7_staysStrict (va_wsU RX7 71 RX6 "EarlyValues$View" ⟨"EarlyValues$View", "advance", "(LEarlyValues$Program;)Z"⟩ yX7_advance wsX7_advance) := goodIn_app (goodIn_of _ (by decide +kernel)) ggX7_staysStrict_X7_advance
set_option maxRecDepth 20000 in
theorem ggX7_staysStrict_X7_isStrict : GoodIn wsX7_staysStrict wsX7_isStrict := goodIn_r _ [151, 64, 8, 22, 23, 24, 25, 5, 26, 27, 28, 29, 30, 31, 32, 33, 34, 35, 36, 37, 38, 39, 40, 41, 7, 42, 43, 154, 155, 156, 157, 158, 159, 160, 161, 162, 163, 164, 165, 166, 167, 168, 169, 170, 171, 172, 173, 174, 175, 176, 177, 178, 179, 180, 181, 182, 183, 184, 185, 186, 187, 188, 189, 190, 191, 192, 193, 194, 195, 196, 197] (by decide +kernel) (by decide +kernel)
set_option maxRecDepth 20000 in
theorem gX7_staysStrict_X7_isStrict_u79X0 : GoodIn wsX7_staysStrict (va_wsU RX7 79 RX0 "EarlyValues$View" ⟨"EarlyValues$View", "isStrict", "(LEarlyValues$Program;II)Z"⟩ yX7_isStrict wsX7_isStrict) := goodIn_app (goodIn_of _ (by decide +kernel)) ggX7_staysStrict_X7_isStrict
set_option maxRecDepth 20000 in
theorem gX7_staysStrict_X7_isStrict_u79X4 : GoodIn wsX7_staysStrict (va_wsU RX7 79 RX4 "EarlyValues$View" ⟨"EarlyValues$View", "isStrict", "(LEarlyValues$Program;II)Z"⟩ yX7_isStrict wsX7_isStrict) := goodIn_app (goodIn_of _ (by decide +kernel)) ggX7_staysStrict_X7_isStrict
set_option maxRecDepth 20000 in
theorem gX7_staysStrict_X7_isStrict_u79X6 : GoodIn wsX7_staysStrict (va_wsU RX7 79 RX6 "EarlyValues$View" ⟨"EarlyValues$View", "isStrict", "(LEarlyValues$Program;II)Z"⟩ yX7_isStrict wsX7_isStrict) := goodIn_app (goodIn_of _ (by decide +kernel)) ggX7_staysStrict_X7_isStrict
theorem dX7_staysStrict_0 : decode cX7_staysStrict 0 = .ok (.aload_n 0, 1) := by decide +kernel
theorem dX7_staysStrict_1 : decode cX7_staysStrict 1 = .ok (.invokevirtual 65, 3) := by decide +kernel
theorem dX7_staysStrict_4 : decode cX7_staysStrict 4 = .ok (.iconst 1, 1) := by decide +kernel
theorem dX7_staysStrict_5 : decode cX7_staysStrict 5 = .ok (.istore 4, 2) := by decide +kernel
theorem dX7_staysStrict_7 : decode cX7_staysStrict 7 = .ok (.iconst 1, 1) := by decide +kernel
theorem dX7_staysStrict_8 : decode cX7_staysStrict 8 = .ok (.istore 5, 2) := by decide +kernel
theorem dX7_staysStrict_10 : decode cX7_staysStrict 10 = .ok (.iconst 0, 1) := by decide +kernel
theorem dX7_staysStrict_11 : decode cX7_staysStrict 11 = .ok (.istore 6, 2) := by decide +kernel
theorem dX7_staysStrict_13 : decode cX7_staysStrict 13 = .ok (.iload 4, 2) := by decide +kernel
theorem dX7_staysStrict_15 : decode cX7_staysStrict 15 = .ok (.ifCond .eq 38, 3) := by decide +kernel
theorem dX7_staysStrict_18 : decode cX7_staysStrict 18 = .ok (.iload 5, 2) := by decide +kernel
theorem dX7_staysStrict_20 : decode cX7_staysStrict 20 = .ok (.ifCond .eq 33, 3) := by decide +kernel
theorem dX7_staysStrict_23 : decode cX7_staysStrict 23 = .ok (.iload 6, 2) := by decide +kernel
theorem dX7_staysStrict_25 : decode cX7_staysStrict 25 = .ok (.sipush 1000, 3) := by decide +kernel
theorem dX7_staysStrict_28 : decode cX7_staysStrict 28 = .ok (.if_icmp .ge 25, 3) := by decide +kernel
theorem dX7_staysStrict_31 : decode cX7_staysStrict 31 = .ok (.aload_n 0, 1) := by decide +kernel
theorem dX7_staysStrict_32 : decode cX7_staysStrict 32 = .ok (.aload_n 1, 1) := by decide +kernel
theorem dX7_staysStrict_33 : decode cX7_staysStrict 33 = .ok (.invokevirtual 71, 3) := by decide +kernel
theorem dX7_staysStrict_36 : decode cX7_staysStrict 36 = .ok (.istore 4, 2) := by decide +kernel
theorem dX7_staysStrict_38 : decode cX7_staysStrict 38 = .ok (.aload_n 0, 1) := by decide +kernel
theorem dX7_staysStrict_39 : decode cX7_staysStrict 39 = .ok (.aload_n 1, 1) := by decide +kernel
theorem dX7_staysStrict_40 : decode cX7_staysStrict 40 = .ok (.iload_n 2, 1) := by decide +kernel
theorem dX7_staysStrict_41 : decode cX7_staysStrict 41 = .ok (.iload_n 3, 1) := by decide +kernel
theorem dX7_staysStrict_42 : decode cX7_staysStrict 42 = .ok (.invokevirtual 79, 3) := by decide +kernel
theorem dX7_staysStrict_45 : decode cX7_staysStrict 45 = .ok (.istore 5, 2) := by decide +kernel
theorem dX7_staysStrict_47 : decode cX7_staysStrict 47 = .ok (.iinc 6 1, 3) := by decide +kernel
theorem dX7_staysStrict_50 : decode cX7_staysStrict 50 = .ok (.goto (-37), 3) := by decide +kernel
theorem dX7_staysStrict_53 : decode cX7_staysStrict 53 = .ok (.iload 5, 2) := by decide +kernel
theorem dX7_staysStrict_55 : decode cX7_staysStrict 55 = .ok (.ireturn, 1) := by decide +kernel
set_option maxRecDepth 20000 in
theorem ggX7_isStrict_X7_rowsOf : GoodIn wsX7_isStrict wsX7_rowsOf := goodIn_r _ [8, 9, 10, 11, 12, 13, 14, 15, 16, 27, 28, 29, 30, 31, 32, 33, 34, 35, 36, 37, 38, 39, 40, 41, 42, 43, 44, 45, 46, 47, 48, 49, 50, 51, 52, 53, 54, 55, 56, 57, 58, 59, 60, 61, 62, 63, 64, 65, 66, 67, 68, 69, 70] (by decide +kernel) (by decide +kernel)
set_option maxRecDepth 20000 in
theorem gX7_isStrict_X7_rowsOf_u61X0 : GoodIn wsX7_isStrict (va_wsU RX7 61 RX0 "EarlyValues$View" ⟨"EarlyValues$View", "rowsOf", "(LEarlyValues$Program;I)I"⟩ yX7_rowsOf wsX7_rowsOf) := goodIn_app (goodIn_of _ (by decide +kernel)) ggX7_isStrict_X7_rowsOf
set_option maxRecDepth 20000 in
theorem gX7_isStrict_X7_rowsOf_u61X4 : GoodIn wsX7_isStrict (va_wsU RX7 61 RX4 "EarlyValues$View" ⟨"EarlyValues$View", "rowsOf", "(LEarlyValues$Program;I)I"⟩ yX7_rowsOf wsX7_rowsOf) := goodIn_app (goodIn_of _ (by decide +kernel)) ggX7_isStrict_X7_rowsOf
set_option maxRecDepth 20000 in
theorem gX7_isStrict_X7_rowsOf_u61X6 : GoodIn wsX7_isStrict (va_wsU RX7 61 RX6 "EarlyValues$View" ⟨"EarlyValues$View", "rowsOf", "(LEarlyValues$Program;I)I"⟩ yX7_rowsOf wsX7_rowsOf) := goodIn_app (goodIn_of _ (by decide +kernel)) ggX7_isStrict_X7_rowsOf
set_option maxRecDepth 20000 in
theorem ggX7_isStrict_X7_at : GoodIn wsX7_isStrict wsX7_at := goodIn_r _ [23, 24, 2, 27, 28, 29, 30, 31, 32, 33, 34, 35, 36, 37, 38, 39, 40, 41, 42, 43, 44, 45, 46, 47, 48, 49, 50, 51, 52, 53, 54, 55, 56, 57, 58, 59, 60, 61, 62, 63, 64, 65] (by decide +kernel) (by decide +kernel)
set_option maxRecDepth 20000 in
theorem gX7_isStrict_X7_at_u83X0 : GoodIn wsX7_isStrict (va_wsU RX7 83 RX0 "EarlyValues$View" ⟨"EarlyValues$View", "at", "(II)I"⟩ yX7_at wsX7_at) := goodIn_app (goodIn_of _ (by decide +kernel)) ggX7_isStrict_X7_at
set_option maxRecDepth 20000 in
theorem gX7_isStrict_X7_at_u83X4 : GoodIn wsX7_isStrict (va_wsU RX7 83 RX4 "EarlyValues$View" ⟨"EarlyValues$View", "at", "(II)I"⟩ yX7_at wsX7_at) := goodIn_app (goodIn_of _ (by decide +kernel)) ggX7_isStrict_X7_at
set_option maxRecDepth 20000 in
theorem gX7_isStrict_X7_at_u83X6 : GoodIn wsX7_isStrict (va_wsU RX7 83 RX6 "EarlyValues$View" ⟨"EarlyValues$View", "at", "(II)I"⟩ yX7_at wsX7_at) := goodIn_app (goodIn_of _ (by decide +kernel)) ggX7_isStrict_X7_at
theorem dX7_isStrict_0 : decode cX7_isStrict 0 = .ok (.iload_n 3, 1) := by decide +kernel
theorem dX7_isStrict_1 : decode cX7_isStrict 1 = .ok (.ifCond .lt 12, 3) := by decide +kernel
theorem dX7_isStrict_4 : decode cX7_isStrict 4 = .ok (.iload_n 3, 1) := by decide +kernel
theorem dX7_isStrict_5 : decode cX7_isStrict 5 = .ok (.aload_n 0, 1) := by decide +kernel
theorem dX7_isStrict_6 : decode cX7_isStrict 6 = .ok (.getfield 36, 3) := by decide +kernel
theorem dX7_isStrict_9 : decode cX7_isStrict 9 = .ok (.arraylength, 1) := by decide +kernel
theorem dX7_isStrict_10 : decode cX7_isStrict 10 = .ok (.if_icmp .lt 5, 3) := by decide +kernel
theorem dX7_isStrict_13 : decode cX7_isStrict 13 = .ok (.iconst 0, 1) := by decide +kernel
theorem dX7_isStrict_14 : decode cX7_isStrict 14 = .ok (.ireturn, 1) := by decide +kernel
theorem dX7_isStrict_15 : decode cX7_isStrict 15 = .ok (.iconst 0, 1) := by decide +kernel
theorem dX7_isStrict_16 : decode cX7_isStrict 16 = .ok (.istore 4, 2) := by decide +kernel
theorem dX7_isStrict_18 : decode cX7_isStrict 18 = .ok (.iload 4, 2) := by decide +kernel
theorem dX7_isStrict_20 : decode cX7_isStrict 20 = .ok (.aload_n 0, 1) := by decide +kernel
theorem dX7_isStrict_21 : decode cX7_isStrict 21 = .ok (.aload_n 1, 1) := by decide +kernel
theorem dX7_isStrict_22 : decode cX7_isStrict 22 = .ok (.iload_n 2, 1) := by decide +kernel
theorem dX7_isStrict_23 : decode cX7_isStrict 23 = .ok (.invokevirtual 61, 3) := by decide +kernel
theorem dX7_isStrict_26 : decode cX7_isStrict 26 = .ok (.if_icmp .ge 41, 3) := by decide +kernel
theorem dX7_isStrict_29 : decode cX7_isStrict 29 = .ok (.aload_n 0, 1) := by decide +kernel
theorem dX7_isStrict_30 : decode cX7_isStrict 30 = .ok (.getfield 36, 3) := by decide +kernel
theorem dX7_isStrict_33 : decode cX7_isStrict 33 = .ok (.iload_n 3, 1) := by decide +kernel
theorem dX7_isStrict_34 : decode cX7_isStrict 34 = .ok (.aaload, 1) := by decide +kernel
theorem dX7_isStrict_35 : decode cX7_isStrict 35 = .ok (.iload 4, 2) := by decide +kernel
theorem dX7_isStrict_37 : decode cX7_isStrict 37 = .ok (.iaload, 1) := by decide +kernel
theorem dX7_isStrict_38 : decode cX7_isStrict 38 = .ok (.aload_n 0, 1) := by decide +kernel
theorem dX7_isStrict_39 : decode cX7_isStrict 39 = .ok (.getfield 25, 3) := by decide +kernel
theorem dX7_isStrict_42 : decode cX7_isStrict 42 = .ok (.if_icmp .ne 19, 3) := by decide +kernel
theorem dX7_isStrict_45 : decode cX7_isStrict 45 = .ok (.aload_n 0, 1) := by decide +kernel
theorem dX7_isStrict_46 : decode cX7_isStrict 46 = .ok (.iload_n 2, 1) := by decide +kernel
theorem dX7_isStrict_47 : decode cX7_isStrict 47 = .ok (.iload 4, 2) := by decide +kernel
theorem dX7_isStrict_49 : decode cX7_isStrict 49 = .ok (.invokevirtual 83, 3) := by decide +kernel
theorem dX7_isStrict_52 : decode cX7_isStrict 52 = .ok (.aload_n 0, 1) := by decide +kernel
theorem dX7_isStrict_53 : decode cX7_isStrict 53 = .ok (.getfield 25, 3) := by decide +kernel
theorem dX7_isStrict_56 : decode cX7_isStrict 56 = .ok (.if_icmp .eq 5, 3) := by decide +kernel
theorem dX7_isStrict_59 : decode cX7_isStrict 59 = .ok (.iconst 0, 1) := by decide +kernel
theorem dX7_isStrict_60 : decode cX7_isStrict 60 = .ok (.ireturn, 1) := by decide +kernel
theorem dX7_isStrict_61 : decode cX7_isStrict 61 = .ok (.iinc 4 1, 3) := by decide +kernel
theorem dX7_isStrict_64 : decode cX7_isStrict 64 = .ok (.goto (-46), 3) := by decide +kernel
theorem dX7_isStrict_67 : decode cX7_isStrict 67 = .ok (.iconst 1, 1) := by decide +kernel
theorem dX7_isStrict_68 : decode cX7_isStrict 68 = .ok (.ireturn, 1) := by decide +kernel
set_option maxRecDepth 20000 in
theorem ggX7_strictBits_X3_has : GoodIn wsX7_strictBits wsX3_has := goodIn_r _ [6, 7, 34, 35, 36, 37, 38] (by decide +kernel) (by decide +kernel)
set_option maxRecDepth 20000 in
theorem gX7_strictBits_X3_has : GoodIn wsX7_strictBits (wsV RX7 51 RX3 yX3_has wsX3_has) := goodIn_app (goodIn_of _ (by decide +kernel)) ggX7_strictBits_X3_has
set_option maxRecDepth 20000 in
theorem ggX7_strictBits_X7_isStrict : GoodIn wsX7_strictBits wsX7_isStrict := goodIn_r _ [13, 14, 15, 16, 17, 18, 19, 12, 20, 21, 1, 2, 3, 4, 5, 6, 7, 22, 23, 24, 25, 26, 27, 28, 29, 30, 31, 39, 40, 41, 42, 43, 44, 45, 46, 47, 48, 49, 50, 51, 52, 53, 54, 55, 56, 57, 58, 59, 60, 61, 62, 63, 64, 65, 66, 67, 68, 69, 70, 71, 72, 73, 74, 75, 76, 77, 34, 35, 36, 37, 38] (by decide +kernel) (by decide +kernel)
set_option maxRecDepth 20000 in
theorem gX7_strictBits_X7_isStrict_u79X0 : GoodIn wsX7_strictBits (va_wsU RX7 79 RX0 "EarlyValues$View" ⟨"EarlyValues$View", "isStrict", "(LEarlyValues$Program;II)Z"⟩ yX7_isStrict wsX7_isStrict) := goodIn_app (goodIn_of _ (by decide +kernel)) ggX7_strictBits_X7_isStrict
set_option maxRecDepth 20000 in
theorem gX7_strictBits_X7_isStrict_u79X4 : GoodIn wsX7_strictBits (va_wsU RX7 79 RX4 "EarlyValues$View" ⟨"EarlyValues$View", "isStrict", "(LEarlyValues$Program;II)Z"⟩ yX7_isStrict wsX7_isStrict) := goodIn_app (goodIn_of _ (by decide +kernel)) ggX7_strictBits_X7_isStrict
set_option maxRecDepth 20000 in
theorem gX7_strictBits_X7_isStrict_u79X6 : GoodIn wsX7_strictBits (va_wsU RX7 79 RX6 "EarlyValues$View" ⟨"EarlyValues$View", "isStrict", "(LEarlyValues$Program;II)Z"⟩ yX7_isStrict wsX7_isStrict) := goodIn_app (goodIn_of _ (by decide +kernel)) ggX7_strictBits_X7_isStrict
theorem dX7_strictBits_0 : decode cX7_strictBits 0 = .ok (.iconst 0, 1) := by decide +kernel
theorem dX7_strictBits_1 : decode cX7_strictBits 1 = .ok (.istore_n 3, 1) := by decide +kernel
theorem dX7_strictBits_2 : decode cX7_strictBits 2 = .ok (.iconst 0, 1) := by decide +kernel
theorem dX7_strictBits_3 : decode cX7_strictBits 3 = .ok (.istore 4, 2) := by decide +kernel
theorem dX7_strictBits_5 : decode cX7_strictBits 5 = .ok (.aload_n 1, 1) := by decide +kernel
theorem dX7_strictBits_6 : decode cX7_strictBits 6 = .ok (.iload_n 2, 1) := by decide +kernel
theorem dX7_strictBits_7 : decode cX7_strictBits 7 = .ok (.invokevirtual 51, 3) := by decide +kernel
theorem dX7_strictBits_10 : decode cX7_strictBits 10 = .ok (.ifCond .eq 38, 3) := by decide +kernel
theorem dX7_strictBits_13 : decode cX7_strictBits 13 = .ok (.iload 4, 2) := by decide +kernel
theorem dX7_strictBits_15 : decode cX7_strictBits 15 = .ok (.aload_n 1, 1) := by decide +kernel
theorem dX7_strictBits_16 : decode cX7_strictBits 16 = .ok (.getfield 55, 3) := by decide +kernel
theorem dX7_strictBits_19 : decode cX7_strictBits 19 = .ok (.iload_n 2, 1) := by decide +kernel
theorem dX7_strictBits_20 : decode cX7_strictBits 20 = .ok (.iaload, 1) := by decide +kernel
theorem dX7_strictBits_21 : decode cX7_strictBits 21 = .ok (.if_icmp .ge 27, 3) := by decide +kernel
theorem dX7_strictBits_24 : decode cX7_strictBits 24 = .ok (.aload_n 0, 1) := by decide +kernel
theorem dX7_strictBits_25 : decode cX7_strictBits 25 = .ok (.aload_n 1, 1) := by decide +kernel
theorem dX7_strictBits_26 : decode cX7_strictBits 26 = .ok (.iload_n 2, 1) := by decide +kernel
theorem dX7_strictBits_27 : decode cX7_strictBits 27 = .ok (.iload 4, 2) := by decide +kernel
theorem dX7_strictBits_29 : decode cX7_strictBits 29 = .ok (.invokevirtual 79, 3) := by decide +kernel
theorem dX7_strictBits_32 : decode cX7_strictBits 32 = .ok (.ifCond .eq 10, 3) := by decide +kernel
theorem dX7_strictBits_35 : decode cX7_strictBits 35 = .ok (.iload_n 3, 1) := by decide +kernel
theorem dX7_strictBits_36 : decode cX7_strictBits 36 = .ok (.iconst 1, 1) := by decide +kernel
theorem dX7_strictBits_37 : decode cX7_strictBits 37 = .ok (.iload 4, 2) := by decide +kernel
theorem dX7_strictBits_39 : decode cX7_strictBits 39 = .ok (.ishl, 1) := by decide +kernel
theorem dX7_strictBits_40 : decode cX7_strictBits 40 = .ok (.ior, 1) := by decide +kernel
theorem dX7_strictBits_41 : decode cX7_strictBits 41 = .ok (.istore_n 3, 1) := by decide +kernel
theorem dX7_strictBits_42 : decode cX7_strictBits 42 = .ok (.iinc 4 1, 3) := by decide +kernel
theorem dX7_strictBits_45 : decode cX7_strictBits 45 = .ok (.goto (-40), 3) := by decide +kernel
theorem dX7_strictBits_48 : decode cX7_strictBits 48 = .ok (.iload_n 3, 1) := by decide +kernel
theorem dX7_strictBits_49 : decode cX7_strictBits 49 = .ok (.ireturn, 1) := by decide +kernel
set_option maxRecDepth 20000 in
theorem ggX7_rowsThatCome_X7_rowsOf : GoodIn wsX7_rowsThatCome wsX7_rowsOf := goodIn_r _ [7, 8, 9, 10, 11, 12, 13, 14, 15, 26, 27, 28, 29, 30, 31, 32, 33, 34, 35, 36, 37, 38, 39, 40, 41, 42, 43, 44, 45, 46, 47, 48, 49, 50, 51, 52, 53, 54, 55, 56, 57, 58, 59, 60, 61, 62, 63, 64, 65, 66, 67, 68, 69] (by decide +kernel) (by decide +kernel)
set_option maxRecDepth 20000 in
theorem gX7_rowsThatCome_X7_rowsOf_u61X0 : GoodIn wsX7_rowsThatCome (va_wsU RX7 61 RX0 "EarlyValues$View" ⟨"EarlyValues$View", "rowsOf", "(LEarlyValues$Program;I)I"⟩ yX7_rowsOf wsX7_rowsOf) := goodIn_app (goodIn_of _ (by decide +kernel)) ggX7_rowsThatCome_X7_rowsOf
set_option maxRecDepth 20000 in
theorem gX7_rowsThatCome_X7_rowsOf_u61X4 : GoodIn wsX7_rowsThatCome (va_wsU RX7 61 RX4 "EarlyValues$View" ⟨"EarlyValues$View", "rowsOf", "(LEarlyValues$Program;I)I"⟩ yX7_rowsOf wsX7_rowsOf) := goodIn_app (goodIn_of _ (by decide +kernel)) ggX7_rowsThatCome_X7_rowsOf
set_option maxRecDepth 20000 in
theorem gX7_rowsThatCome_X7_rowsOf_u61X6 : GoodIn wsX7_rowsThatCome (va_wsU RX7 61 RX6 "EarlyValues$View" ⟨"EarlyValues$View", "rowsOf", "(LEarlyValues$Program;I)I"⟩ yX7_rowsOf wsX7_rowsOf) := goodIn_app (goodIn_of _ (by decide +kernel)) ggX7_rowsThatCome_X7_rowsOf
set_option maxRecDepth 20000 in
theorem ggX7_rowsThatCome_X7_at : GoodIn wsX7_rowsThatCome wsX7_at := goodIn_r _ [22, 23, 1, 26, 27, 28, 29, 30, 31, 32, 33, 34, 35, 36, 37, 38, 39, 40, 41, 42, 43, 44, 45, 46, 47, 48, 49, 50, 51, 52, 53, 54, 55, 56, 57, 58, 59, 60, 61, 62, 63, 64] (by decide +kernel) (by decide +kernel)
set_option maxRecDepth 20000 in
theorem gX7_rowsThatCome_X7_at_u83X0 : GoodIn wsX7_rowsThatCome (va_wsU RX7 83 RX0 "EarlyValues$View" ⟨"EarlyValues$View", "at", "(II)I"⟩ yX7_at wsX7_at) := goodIn_app (goodIn_of _ (by decide +kernel)) ggX7_rowsThatCome_X7_at
set_option maxRecDepth 20000 in
theorem gX7_rowsThatCome_X7_at_u83X4 : GoodIn wsX7_rowsThatCome (va_wsU RX7 83 RX4 "EarlyValues$View" ⟨"EarlyValues$View", "at", "(II)I"⟩ yX7_at wsX7_at) := goodIn_app (goodIn_of _ (by decide +kernel)) ggX7_rowsThatCome_X7_at
set_option maxRecDepth 20000 in
theorem gX7_rowsThatCome_X7_at_u83X6 : GoodIn wsX7_rowsThatCome (va_wsU RX7 83 RX6 "EarlyValues$View" ⟨"EarlyValues$View", "at", "(II)I"⟩ yX7_at wsX7_at) := goodIn_app (goodIn_of _ (by decide +kernel)) ggX7_rowsThatCome_X7_at
theorem dX7_rowsThatCome_0 : decode cX7_rowsThatCome 0 = .ok (.iconst 0, 1) := by decide +kernel
theorem dX7_rowsThatCome_1 : decode cX7_rowsThatCome 1 = .ok (.istore_n 3, 1) := by decide +kernel
theorem dX7_rowsThatCome_2 : decode cX7_rowsThatCome 2 = .ok (.iconst 0, 1) := by decide +kernel
theorem dX7_rowsThatCome_3 : decode cX7_rowsThatCome 3 = .ok (.istore 4, 2) := by decide +kernel
theorem dX7_rowsThatCome_5 : decode cX7_rowsThatCome 5 = .ok (.iload 4, 2) := by decide +kernel
theorem dX7_rowsThatCome_7 : decode cX7_rowsThatCome 7 = .ok (.aload_n 0, 1) := by decide +kernel
theorem dX7_rowsThatCome_8 : decode cX7_rowsThatCome 8 = .ok (.aload_n 1, 1) := by decide +kernel
theorem dX7_rowsThatCome_9 : decode cX7_rowsThatCome 9 = .ok (.iload_n 2, 1) := by decide +kernel
theorem dX7_rowsThatCome_10 : decode cX7_rowsThatCome 10 = .ok (.invokevirtual 61, 3) := by decide +kernel
theorem dX7_rowsThatCome_13 : decode cX7_rowsThatCome 13 = .ok (.if_icmp .ge 26, 3) := by decide +kernel
theorem dX7_rowsThatCome_16 : decode cX7_rowsThatCome 16 = .ok (.aload_n 0, 1) := by decide +kernel
theorem dX7_rowsThatCome_17 : decode cX7_rowsThatCome 17 = .ok (.iload_n 2, 1) := by decide +kernel
theorem dX7_rowsThatCome_18 : decode cX7_rowsThatCome 18 = .ok (.iload 4, 2) := by decide +kernel
theorem dX7_rowsThatCome_20 : decode cX7_rowsThatCome 20 = .ok (.invokevirtual 83, 3) := by decide +kernel
theorem dX7_rowsThatCome_23 : decode cX7_rowsThatCome 23 = .ok (.aload_n 0, 1) := by decide +kernel
theorem dX7_rowsThatCome_24 : decode cX7_rowsThatCome 24 = .ok (.getfield 25, 3) := by decide +kernel
theorem dX7_rowsThatCome_27 : decode cX7_rowsThatCome 27 = .ok (.if_icmp .eq 6, 3) := by decide +kernel
theorem dX7_rowsThatCome_30 : decode cX7_rowsThatCome 30 = .ok (.iinc 3 1, 3) := by decide +kernel
theorem dX7_rowsThatCome_33 : decode cX7_rowsThatCome 33 = .ok (.iinc 4 1, 3) := by decide +kernel
theorem dX7_rowsThatCome_36 : decode cX7_rowsThatCome 36 = .ok (.goto (-31), 3) := by decide +kernel
theorem dX7_rowsThatCome_39 : decode cX7_rowsThatCome 39 = .ok (.iload_n 3, 1) := by decide +kernel
theorem dX7_rowsThatCome_40 : decode cX7_rowsThatCome 40 = .ok (.ireturn, 1) := by decide +kernel
set_option maxRecDepth 20000 in
theorem ggX7_begin_J7_fill_031fb : GoodIn wsX7_begin wsJ7_fill_031fb := goodIn_r _ [6] (by decide +kernel) (by decide +kernel)
set_option maxRecDepth 20000 in
theorem gX7_begin_J7_fill_031fb : GoodIn wsX7_begin (va_wsS RX7 87 yJ7_fill_031fb wsJ7_fill_031fb) := goodIn_app (goodIn_of _ (by decide +kernel)) ggX7_begin_J7_fill_031fb
theorem dX7_begin_0 : decode cX7_begin 0 = .ok (.iconst 0, 1) := by decide +kernel
theorem dX7_begin_1 : decode cX7_begin 1 = .ok (.istore_n 1, 1) := by decide +kernel
theorem dX7_begin_2 : decode cX7_begin 2 = .ok (.iload_n 1, 1) := by decide +kernel
theorem dX7_begin_3 : decode cX7_begin 3 = .ok (.aload_n 0, 1) := by decide +kernel
theorem dX7_begin_4 : decode cX7_begin 4 = .ok (.getfield 45, 3) := by decide +kernel
theorem dX7_begin_7 : decode cX7_begin 7 = .ok (.arraylength, 1) := by decide +kernel
theorem dX7_begin_8 : decode cX7_begin 8 = .ok (.if_icmp .ge 23, 3) := by decide +kernel
theorem dX7_begin_11 : decode cX7_begin 11 = .ok (.aload_n 0, 1) := by decide +kernel
theorem dX7_begin_12 : decode cX7_begin 12 = .ok (.getfield 45, 3) := by decide +kernel
theorem dX7_begin_15 : decode cX7_begin 15 = .ok (.iload_n 1, 1) := by decide +kernel
theorem dX7_begin_16 : decode cX7_begin 16 = .ok (.aaload, 1) := by decide +kernel
theorem dX7_begin_17 : decode cX7_begin 17 = .ok (.aload_n 0, 1) := by decide +kernel
theorem dX7_begin_18 : decode cX7_begin 18 = .ok (.getfield 25, 3) := by decide +kernel
theorem dX7_begin_21 : decode cX7_begin 21 = .ok (.i2b, 1) := by decide +kernel
theorem dX7_begin_22 : decode cX7_begin 22 = .ok (.invokestatic 87, 3) := by decide +kernel
theorem dX7_begin_25 : decode cX7_begin 25 = .ok (.iinc 1 1, 3) := by decide +kernel
theorem dX7_begin_28 : decode cX7_begin 28 = .ok (.goto (-26), 3) := by decide +kernel
theorem dX7_begin_31 : decode cX7_begin 31 = .ok (.return_, 1) := by decide +kernel
set_option maxRecDepth 20000 in
theorem ggX7_advance_X7_rowsOf : GoodIn wsX7_advance wsX7_rowsOf := goodIn_r _ [9, 10, 11, 12, 13, 14, 15, 16, 17, 134, 135, 136, 137, 138, 139, 140, 141, 142, 143, 144, 145, 146, 147, 148, 149, 150, 151, 152, 153, 154, 155, 156, 157, 158, 159, 160, 161, 162, 163, 164, 165, 166, 167, 168, 169, 170, 171, 172, 129, 130, 131, 132, 133] (by decide +kernel) (by decide +kernel)
set_option maxRecDepth 20000 in
theorem gX7_advance_X7_rowsOf_u61X0 : GoodIn wsX7_advance (va_wsU RX7 61 RX0 "EarlyValues$View" ⟨"EarlyValues$View", "rowsOf", "(LEarlyValues$Program;I)I"⟩ yX7_rowsOf wsX7_rowsOf) := goodIn_app (goodIn_of _ (by decide +kernel)) ggX7_advance_X7_rowsOf
set_option maxRecDepth 20000 in
theorem gX7_advance_X7_rowsOf_u61X4 : GoodIn wsX7_advance (va_wsU RX7 61 RX4 "EarlyValues$View" ⟨"EarlyValues$View", "rowsOf", "(LEarlyValues$Program;I)I"⟩ yX7_rowsOf wsX7_rowsOf) := goodIn_app (goodIn_of _ (by decide +kernel)) ggX7_advance_X7_rowsOf
set_option maxRecDepth 20000 in
theorem gX7_advance_X7_rowsOf_u61X6 : GoodIn wsX7_advance (va_wsU RX7 61 RX6 "EarlyValues$View" ⟨"EarlyValues$View", "rowsOf", "(LEarlyValues$Program;I)I"⟩ yX7_rowsOf wsX7_rowsOf) := goodIn_app (goodIn_of _ (by decide +kernel)) ggX7_advance_X7_rowsOf
set_option maxRecDepth 20000 in
theorem ggX7_advance_X7_at : GoodIn wsX7_advance wsX7_at := goodIn_r _ [24, 3, 25, 134, 135, 136, 137, 138, 139, 140, 141, 142, 143, 144, 145, 146, 147, 148, 149, 150, 151, 152, 153, 154, 155, 156, 157, 158, 159, 160, 161, 162, 163, 164, 165, 166, 167, 168, 169, 170, 171, 172] (by decide +kernel) (by decide +kernel)
set_option maxRecDepth 20000 in
theorem gX7_advance_X7_at_u83X0 : GoodIn wsX7_advance (va_wsU RX7 83 RX0 "EarlyValues$View" ⟨"EarlyValues$View", "at", "(II)I"⟩ yX7_at wsX7_at) := goodIn_app (goodIn_of _ (by decide +kernel)) ggX7_advance_X7_at
set_option maxRecDepth 20000 in
theorem gX7_advance_X7_at_u83X4 : GoodIn wsX7_advance (va_wsU RX7 83 RX4 "EarlyValues$View" ⟨"EarlyValues$View", "at", "(II)I"⟩ yX7_at wsX7_at) := goodIn_app (goodIn_of _ (by decide +kernel)) ggX7_advance_X7_at
set_option maxRecDepth 20000 in
theorem gX7_advance_X7_at_u83X6 : GoodIn wsX7_advance (va_wsU RX7 83 RX6 "EarlyValues$View" ⟨"EarlyValues$View", "at", "(II)I"⟩ yX7_at wsX7_at) := goodIn_app (goodIn_of _ (by decide +kernel)) ggX7_advance_X7_at
set_option maxRecDepth 20000 in
theorem ggX7_advance_X0_mayGrow : GoodIn wsX7_advance wsX0_mayGrow := goodIn_r _ [33] (by decide +kernel) (by decide +kernel)
set_option maxRecDepth 20000 in
theorem gX7_advance_X0_mayGrow_u96X0 : GoodIn wsX7_advance (va_wsU RX7 96 RX0 "EarlyValues$View" ⟨"EarlyValues$View", "mayGrow", "(I)Z"⟩ yX0_mayGrow wsX0_mayGrow) := goodIn_app (goodIn_of _ (by decide +kernel)) ggX7_advance_X0_mayGrow
set_option maxRecDepth 20000 in
theorem ggX7_advance_X4_mayGrow : GoodIn wsX7_advance wsX4_mayGrow := goodIn_r _ [37] (by decide +kernel) (by decide +kernel)
set_option maxRecDepth 20000 in
theorem gX7_advance_X4_mayGrow_u96X4 : GoodIn wsX7_advance (va_wsU RX7 96 RX4 "EarlyValues$View" ⟨"EarlyValues$View", "mayGrow", "(I)Z"⟩ yX4_mayGrow wsX4_mayGrow) := goodIn_app (goodIn_of _ (by decide +kernel)) ggX7_advance_X4_mayGrow
set_option maxRecDepth 20000 in
theorem ggX7_advance_X6_mayGrow : GoodIn wsX7_advance wsX6_mayGrow := goodIn_r _ [41] (by decide +kernel) (by decide +kernel)
set_option maxRecDepth 20000 in
theorem gX7_advance_X6_mayGrow_u96X6 : GoodIn wsX7_advance (va_wsU RX7 96 RX6 "EarlyValues$View" ⟨"EarlyValues$View", "mayGrow", "(I)Z"⟩ yX6_mayGrow wsX6_mayGrow) := goodIn_app (goodIn_of _ (by decide +kernel)) ggX7_advance_X6_mayGrow
set_option maxRecDepth 20000 in
theorem ggX7_advance_X7_handOver : GoodIn wsX7_advance wsX7_handOver := goodIn_r _ [46, 47, 11, 48, 25, 49, 129, 130, 131, 132, 133, 134, 135, 136, 137, 138, 139, 140, 141, 142, 143, 144, 145, 146, 147, 148, 149, 150, 151, 152, 153, 154, 155, 156, 157, 158, 159, 160, 161, 162, 163, 164, 165, 166, 167, 168, 169, 170, 171, 172] (by decide +kernel) (by decide +kernel)
set_option maxRecDepth 20000 in
theorem gX7_advance_X7_handOver_u99X0 : GoodIn wsX7_advance (va_wsU RX7 99 RX0 "EarlyValues$View" ⟨"EarlyValues$View", "handOver", "(LEarlyValues$Program;II)Z"⟩ yX7_handOver wsX7_handOver) := goodIn_app (goodIn_of _ (by decide +kernel)) ggX7_advance_X7_handOver
set_option maxRecDepth 20000 in
theorem gX7_advance_X7_handOver_u99X4 : GoodIn wsX7_advance (va_wsU RX7 99 RX4 "EarlyValues$View" ⟨"EarlyValues$View", "handOver", "(LEarlyValues$Program;II)Z"⟩ yX7_handOver wsX7_handOver) := goodIn_app (goodIn_of _ (by decide +kernel)) ggX7_advance_X7_handOver
set_option maxRecDepth 20000 in
theorem gX7_advance_X7_handOver_u99X6 : GoodIn wsX7_advance (va_wsU RX7 99 RX6 "EarlyValues$View" ⟨"EarlyValues$View", "handOver", "(LEarlyValues$Program;II)Z"⟩ yX7_handOver wsX7_handOver) := goodIn_app (goodIn_of _ (by decide +kernel)) ggX7_advance_X7_handOver
set_option maxRecDepth 20000 in
theorem ggX7_advance_X7_bodyComesTo : GoodIn wsX7_advance wsX7_bodyComesTo := goodIn_r _ [56, 57, 58, 59, 60, 61, 62, 15, 63, 64, 65, 13, 14, 16, 17, 66, 67, 68, 69, 8, 70, 25, 71, 72, 73, 74, 75, 76, 77, 78, 79, 80, 10, 49, 81, 82, 83, 84, 32, 85, 86, 87, 36, 88, 89, 90, 40, 91, 92, 93, 94, 95, 96, 97, 98, 99, 100, 101, 102, 103, 104, 105, 106, 107, 108, 109, 110, 111, 112, 113, 114, 115, 116, 117, 20, 21, 22, 23, 24, 3, 26, 27, 118, 119, 120, 121, 122, 123, 124, 125, 126, 134, 135, 136, 137, 138, 139, 140, 141, 142, 143, 144, 145, 146, 147, 148, 149, 150, 151, 152, 153, 154, 155, 156, 157, 158, 159, 160, 161, 162, 163, 164, 165, 166, 167, 168, 169, 170, 171, 172, 129, 130, 131, 132, 133] (by decide +kernel) (by decide +kernel)
set_option maxRecDepth 20000 in
theorem gX7_advance_X7_bodyComesTo_u102X0 : GoodIn wsX7_advance (va_wsU RX7 102 RX0 "EarlyValues$View" ⟨"EarlyValues$View", "bodyComesTo", "(LEarlyValues$Program;I)I"⟩ yX7_bodyComesTo wsX7_bodyComesTo) := goodIn_app (goodIn_of _ (by decide +kernel)) ggX7_advance_X7_bodyComesTo
set_option maxRecDepth 20000 in
theorem gX7_advance_X7_bodyComesTo_u102X4 : GoodIn wsX7_advance (va_wsU RX7 102 RX4 "EarlyValues$View" ⟨"EarlyValues$View", "bodyComesTo", "(LEarlyValues$Program;I)I"⟩ yX7_bodyComesTo wsX7_bodyComesTo) := goodIn_app (goodIn_of _ (by decide +kernel)) ggX7_advance_X7_bodyComesTo
set_option maxRecDepth 20000 in
theorem gX7_advance_X7_bodyComesTo_u102X6 : GoodIn wsX7_advance (va_wsU RX7 102 RX6 "EarlyValues$View" ⟨"EarlyValues$View", "bodyComesTo", "(LEarlyValues$Program;I)I"⟩ yX7_bodyComesTo wsX7_bodyComesTo) := goodIn_app (goodIn_of _ (by decide +kernel)) ggX7_advance_X7_bodyComesTo
theorem dX7_advance_0 : decode cX7_advance 0 = .ok (.iconst 0, 1) := by decide +kernel
theorem dX7_advance_1 : decode cX7_advance 1 = .ok (.istore_n 2, 1) := by decide +kernel
theorem dX7_advance_2 : decode cX7_advance 2 = .ok (.iconst 0, 1) := by decide +kernel
theorem dX7_advance_3 : decode cX7_advance 3 = .ok (.istore_n 3, 1) := by decide +kernel
theorem dX7_advance_4 : decode cX7_advance 4 = .ok (.iload_n 3, 1) := by decide +kernel
theorem dX7_advance_5 : decode cX7_advance 5 = .ok (.aload_n 1, 1) := by decide +kernel
theorem dX7_advance_6 : decode cX7_advance 6 = .ok (.getfield 93, 3) := by decide +kernel
theorem dX7_advance_9 : decode cX7_advance 9 = .ok (.if_icmp .ge 99, 3) := by decide +kernel
theorem dX7_advance_12 : decode cX7_advance 12 = .ok (.iconst 0, 1) := by decide +kernel
theorem dX7_advance_13 : decode cX7_advance 13 = .ok (.istore 4, 2) := by decide +kernel
theorem dX7_advance_15 : decode cX7_advance 15 = .ok (.iload 4, 2) := by decide +kernel
theorem dX7_advance_17 : decode cX7_advance 17 = .ok (.aload_n 0, 1) := by decide +kernel
theorem dX7_advance_18 : decode cX7_advance 18 = .ok (.aload_n 1, 1) := by decide +kernel
theorem dX7_advance_19 : decode cX7_advance 19 = .ok (.iload_n 3, 1) := by decide +kernel
theorem dX7_advance_20 : decode cX7_advance 20 = .ok (.invokevirtual 61, 3) := by decide +kernel
theorem dX7_advance_23 : decode cX7_advance 23 = .ok (.if_icmp .ge 79, 3) := by decide +kernel
theorem dX7_advance_26 : decode cX7_advance 26 = .ok (.aload_n 0, 1) := by decide +kernel
theorem dX7_advance_27 : decode cX7_advance 27 = .ok (.iload_n 3, 1) := by decide +kernel
theorem dX7_advance_28 : decode cX7_advance 28 = .ok (.iload 4, 2) := by decide +kernel
theorem dX7_advance_30 : decode cX7_advance 30 = .ok (.invokevirtual 83, 3) := by decide +kernel
theorem dX7_advance_33 : decode cX7_advance 33 = .ok (.istore 5, 2) := by decide +kernel
theorem dX7_advance_35 : decode cX7_advance 35 = .ok (.iload 5, 2) := by decide +kernel
theorem dX7_advance_37 : decode cX7_advance 37 = .ok (.istore 6, 2) := by decide +kernel
theorem dX7_advance_39 : decode cX7_advance 39 = .ok (.aload_n 0, 1) := by decide +kernel
theorem dX7_advance_40 : decode cX7_advance 40 = .ok (.iload 5, 2) := by decide +kernel
theorem dX7_advance_42 : decode cX7_advance 42 = .ok (.invokevirtual 96, 3) := by decide +kernel
theorem dX7_advance_45 : decode cX7_advance 45 = .ok (.ifCond .eq 22, 3) := by decide +kernel
theorem dX7_advance_48 : decode cX7_advance 48 = .ok (.aload_n 0, 1) := by decide +kernel
theorem dX7_advance_49 : decode cX7_advance 49 = .ok (.aload_n 1, 1) := by decide +kernel
theorem dX7_advance_50 : decode cX7_advance 50 = .ok (.iload_n 3, 1) := by decide +kernel
theorem dX7_advance_51 : decode cX7_advance 51 = .ok (.iload 4, 2) := by decide +kernel
theorem dX7_advance_53 : decode cX7_advance 53 = .ok (.invokevirtual 99, 3) := by decide +kernel
theorem dX7_advance_56 : decode cX7_advance 56 = .ok (.ifCond .eq 11, 3) := by decide +kernel
theorem dX7_advance_59 : decode cX7_advance 59 = .ok (.aload_n 0, 1) := by decide +kernel
theorem dX7_advance_60 : decode cX7_advance 60 = .ok (.aload_n 1, 1) := by decide +kernel
theorem dX7_advance_61 : decode cX7_advance 61 = .ok (.iload_n 3, 1) := by decide +kernel
theorem dX7_advance_62 : decode cX7_advance 62 = .ok (.invokevirtual 102, 3) := by decide +kernel
theorem dX7_advance_65 : decode cX7_advance 65 = .ok (.istore 6, 2) := by decide +kernel
theorem dX7_advance_67 : decode cX7_advance 67 = .ok (.aload_n 0, 1) := by decide +kernel
theorem dX7_advance_68 : decode cX7_advance 68 = .ok (.getfield 48, 3) := by decide +kernel
theorem dX7_advance_71 : decode cX7_advance 71 = .ok (.iload_n 3, 1) := by decide +kernel
theorem dX7_advance_72 : decode cX7_advance 72 = .ok (.aaload, 1) := by decide +kernel
theorem dX7_advance_73 : decode cX7_advance 73 = .ok (.iload 4, 2) := by decide +kernel
theorem dX7_advance_75 : decode cX7_advance 75 = .ok (.iload 6, 2) := by decide +kernel
theorem dX7_advance_77 : decode cX7_advance 77 = .ok (.i2b, 1) := by decide +kernel
theorem dX7_advance_78 : decode cX7_advance 78 = .ok (.bastore, 1) := by decide +kernel
theorem dX7_advance_79 : decode cX7_advance 79 = .ok (.iload_n 2, 1) := by decide +kernel
theorem dX7_advance_80 : decode cX7_advance 80 = .ok (.ifCond .ne 10, 3) := by decide +kernel
theorem dX7_advance_83 : decode cX7_advance 83 = .ok (.iload 6, 2) := by decide +kernel
theorem dX7_advance_85 : decode cX7_advance 85 = .ok (.iload 5, 2) := by decide +kernel
theorem dX7_advance_87 : decode cX7_advance 87 = .ok (.if_icmp .eq 7, 3) := by decide +kernel
theorem dX7_advance_90 : decode cX7_advance 90 = .ok (.iconst 1, 1) := by decide +kernel
theorem dX7_advance_91 : decode cX7_advance 91 = .ok (.goto 4, 3) := by decide +kernel
theorem dX7_advance_94 : decode cX7_advance 94 = .ok (.iconst 0, 1) := by decide +kernel
theorem dX7_advance_95 : decode cX7_advance 95 = .ok (.istore_n 2, 1) := by decide +kernel
theorem dX7_advance_96 : decode cX7_advance 96 = .ok (.iinc 4 1, 3) := by decide +kernel
theorem dX7_advance_99 : decode cX7_advance 99 = .ok (.goto (-84), 3) := by decide +kernel
theorem dX7_advance_102 : decode cX7_advance 102 = .ok (.iinc 3 1, 3) := by decide +kernel
theorem dX7_advance_105 : decode cX7_advance 105 = .ok (.goto (-101), 3) := by decide +kernel
theorem dX7_advance_108 : decode cX7_advance 108 = .ok (.aload_n 0, 1) := by decide +kernel
theorem dX7_advance_109 : decode cX7_advance 109 = .ok (.getfield 45, 3) := by decide +kernel
theorem dX7_advance_112 : decode cX7_advance 112 = .ok (.astore_n 3, 1) := by decide +kernel
theorem dX7_advance_113 : decode cX7_advance 113 = .ok (.aload_n 0, 1) := by decide +kernel
theorem dX7_advance_114 : decode cX7_advance 114 = .ok (.aload_n 0, 1) := by decide +kernel
theorem dX7_advance_115 : decode cX7_advance 115 = .ok (.getfield 48, 3) := by decide +kernel
theorem dX7_advance_118 : decode cX7_advance 118 = .ok (.putfield 45, 3) := by decide +kernel
theorem dX7_advance_121 : decode cX7_advance 121 = .ok (.aload_n 0, 1) := by decide +kernel
theorem dX7_advance_122 : decode cX7_advance 122 = .ok (.aload_n 3, 1) := by decide +kernel
theorem dX7_advance_123 : decode cX7_advance 123 = .ok (.putfield 48, 3) := by decide +kernel
theorem dX7_advance_126 : decode cX7_advance 126 = .ok (.iload_n 2, 1) := by decide +kernel
theorem dX7_advance_127 : decode cX7_advance 127 = .ok (.ireturn, 1) := by decide +kernel
theorem dX7_handOver_0 : decode cX7_handOver 0 = .ok (.aload_n 1, 1) := by decide +kernel
theorem dX7_handOver_1 : decode cX7_handOver 1 = .ok (.getfield 105, 3) := by decide +kernel
theorem dX7_handOver_4 : decode cX7_handOver 4 = .ok (.iload_n 2, 1) := by decide +kernel
theorem dX7_handOver_5 : decode cX7_handOver 5 = .ok (.iaload, 1) := by decide +kernel
theorem dX7_handOver_6 : decode cX7_handOver 6 = .ok (.istore 4, 2) := by decide +kernel
theorem dX7_handOver_8 : decode cX7_handOver 8 = .ok (.aload_n 1, 1) := by decide +kernel
theorem dX7_handOver_9 : decode cX7_handOver 9 = .ok (.getfield 55, 3) := by decide +kernel
theorem dX7_handOver_12 : decode cX7_handOver 12 = .ok (.iload_n 2, 1) := by decide +kernel
theorem dX7_handOver_13 : decode cX7_handOver 13 = .ok (.iaload, 1) := by decide +kernel
theorem dX7_handOver_14 : decode cX7_handOver 14 = .ok (.iconst 1, 1) := by decide +kernel
theorem dX7_handOver_15 : decode cX7_handOver 15 = .ok (.isub, 1) := by decide +kernel
theorem dX7_handOver_16 : decode cX7_handOver 16 = .ok (.istore 5, 2) := by decide +kernel
theorem dX7_handOver_18 : decode cX7_handOver 18 = .ok (.iload 4, 2) := by decide +kernel
theorem dX7_handOver_20 : decode cX7_handOver 20 = .ok (.iconst 1, 1) := by decide +kernel
theorem dX7_handOver_21 : decode cX7_handOver 21 = .ok (.if_icmp .eq 9, 3) := by decide +kernel
theorem dX7_handOver_24 : decode cX7_handOver 24 = .ok (.iload 4, 2) := by decide +kernel
theorem dX7_handOver_26 : decode cX7_handOver 26 = .ok (.iconst 3, 1) := by decide +kernel
theorem dX7_handOver_27 : decode cX7_handOver 27 = .ok (.if_icmp .ne 7, 3) := by decide +kernel
theorem dX7_handOver_30 : decode cX7_handOver 30 = .ok (.iconst 1, 1) := by decide +kernel
theorem dX7_handOver_31 : decode cX7_handOver 31 = .ok (.goto 4, 3) := by decide +kernel
theorem dX7_handOver_34 : decode cX7_handOver 34 = .ok (.iconst 0, 1) := by decide +kernel
theorem dX7_handOver_35 : decode cX7_handOver 35 = .ok (.istore 6, 2) := by decide +kernel
theorem dX7_handOver_37 : decode cX7_handOver 37 = .ok (.iconst 0, 1) := by decide +kernel
theorem dX7_handOver_38 : decode cX7_handOver 38 = .ok (.istore 7, 2) := by decide +kernel
theorem dX7_handOver_40 : decode cX7_handOver 40 = .ok (.iload 7, 2) := by decide +kernel
theorem dX7_handOver_42 : decode cX7_handOver 42 = .ok (.iload 5, 2) := by decide +kernel
theorem dX7_handOver_44 : decode cX7_handOver 44 = .ok (.if_icmp .gt 70, 3) := by decide +kernel
theorem dX7_handOver_47 : decode cX7_handOver 47 = .ok (.aload_n 0, 1) := by decide +kernel
theorem dX7_handOver_48 : decode cX7_handOver 48 = .ok (.getfield 36, 3) := by decide +kernel
theorem dX7_handOver_51 : decode cX7_handOver 51 = .ok (.iload 7, 2) := by decide +kernel
theorem dX7_handOver_53 : decode cX7_handOver 53 = .ok (.aaload, 1) := by decide +kernel
theorem dX7_handOver_54 : decode cX7_handOver 54 = .ok (.iload_n 3, 1) := by decide +kernel
theorem dX7_handOver_55 : decode cX7_handOver 55 = .ok (.iaload, 1) := by decide +kernel
theorem dX7_handOver_56 : decode cX7_handOver 56 = .ok (.istore 8, 2) := by decide +kernel
theorem dX7_handOver_58 : decode cX7_handOver 58 = .ok (.iload 8, 2) := by decide +kernel
theorem dX7_handOver_60 : decode cX7_handOver 60 = .ok (.aload_n 0, 1) := by decide +kernel
theorem dX7_handOver_61 : decode cX7_handOver 61 = .ok (.getfield 25, 3) := by decide +kernel
theorem dX7_handOver_64 : decode cX7_handOver 64 = .ok (.if_icmp .ne 21, 3) := by decide +kernel
theorem dX7_handOver_67 : decode cX7_handOver 67 = .ok (.iload 6, 2) := by decide +kernel
theorem dX7_handOver_69 : decode cX7_handOver 69 = .ok (.ifCond .ne 14, 3) := by decide +kernel
theorem dX7_handOver_72 : decode cX7_handOver 72 = .ok (.iload 4, 2) := by decide +kernel
theorem dX7_handOver_74 : decode cX7_handOver 74 = .ok (.iconst 2, 1) := by decide +kernel
theorem dX7_handOver_75 : decode cX7_handOver 75 = .ok (.if_icmp .ne 10, 3) := by decide +kernel
theorem dX7_handOver_78 : decode cX7_handOver 78 = .ok (.iload 7, 2) := by decide +kernel
theorem dX7_handOver_80 : decode cX7_handOver 80 = .ok (.ifCond .ne 5, 3) := by decide +kernel
theorem dX7_handOver_83 : decode cX7_handOver 83 = .ok (.iconst 0, 1) := by decide +kernel
theorem dX7_handOver_84 : decode cX7_handOver 84 = .ok (.ireturn, 1) := by decide +kernel
theorem dX7_handOver_85 : decode cX7_handOver 85 = .ok (.aload_n 0, 1) := by decide +kernel
theorem dX7_handOver_86 : decode cX7_handOver 86 = .ok (.getfield 15, 3) := by decide +kernel
theorem dX7_handOver_89 : decode cX7_handOver 89 = .ok (.iload 4, 2) := by decide +kernel
theorem dX7_handOver_91 : decode cX7_handOver 91 = .ok (.iconst 3, 1) := by decide +kernel
theorem dX7_handOver_92 : decode cX7_handOver 92 = .ok (.if_icmp .ne 11, 3) := by decide +kernel
theorem dX7_handOver_95 : decode cX7_handOver 95 = .ok (.iload 5, 2) := by decide +kernel
theorem dX7_handOver_97 : decode cX7_handOver 97 = .ok (.iload 7, 2) := by decide +kernel
theorem dX7_handOver_99 : decode cX7_handOver 99 = .ok (.isub, 1) := by decide +kernel
theorem dX7_handOver_100 : decode cX7_handOver 100 = .ok (.goto 5, 3) := by decide +kernel
theorem dX7_handOver_103 : decode cX7_handOver 103 = .ok (.iload 7, 2) := by decide +kernel
theorem dX7_handOver_105 : decode cX7_handOver 105 = .ok (.iload 8, 2) := by decide +kernel
theorem dX7_handOver_107 : decode cX7_handOver 107 = .ok (.iastore, 1) := by decide +kernel
theorem dX7_handOver_108 : decode cX7_handOver 108 = .ok (.iinc 7 1, 3) := by decide +kernel
theorem dX7_handOver_111 : decode cX7_handOver 111 = .ok (.goto (-71), 3) := by decide +kernel
theorem dX7_handOver_114 : decode cX7_handOver 114 = .ok (.iconst 1, 1) := by decide +kernel
theorem dX7_handOver_115 : decode cX7_handOver 115 = .ok (.ireturn, 1) := by decide +kernel
set_option maxRecDepth 20000 in
theorem ggX7_bodyComesTo_X3_partsOf : GoodIn wsX7_bodyComesTo wsX3_partsOf := goodIn_r _ [8, 9, 10, 11, 12, 7, 13, 14, 130, 131, 132, 133, 134] (by decide +kernel) (by decide +kernel)
set_option maxRecDepth 20000 in
theorem gX7_bodyComesTo_X3_partsOf : GoodIn wsX7_bodyComesTo (wsV RX7 117 RX3 yX3_partsOf wsX3_partsOf) := goodIn_app (goodIn_of _ (by decide +kernel)) ggX7_bodyComesTo_X3_partsOf
set_option maxRecDepth 20000 in
theorem ggX7_bodyComesTo_X7_pop : GoodIn wsX7_bodyComesTo wsX7_pop := goodIn_r _ [20, 1, 21, 22, 91, 92, 93, 94, 95, 96, 97, 98, 99, 100, 101, 102, 103, 104, 105, 106, 107, 108, 109, 110, 111, 112, 113, 114, 115, 116, 117, 118, 119, 120, 121, 122, 123, 124, 125, 126, 127, 128, 129] (by decide +kernel) (by decide +kernel)
set_option maxRecDepth 20000 in
theorem gX7_bodyComesTo_X7_pop_u121X0 : GoodIn wsX7_bodyComesTo (va_wsU RX7 121 RX0 "EarlyValues$View" ⟨"EarlyValues$View", "pop", "()I"⟩ yX7_pop wsX7_pop) := goodIn_app (goodIn_of _ (by decide +kernel)) ggX7_bodyComesTo_X7_pop
set_option maxRecDepth 20000 in
theorem gX7_bodyComesTo_X7_pop_u121X4 : GoodIn wsX7_bodyComesTo (va_wsU RX7 121 RX4 "EarlyValues$View" ⟨"EarlyValues$View", "pop", "()I"⟩ yX7_pop wsX7_pop) := goodIn_app (goodIn_of _ (by decide +kernel)) ggX7_bodyComesTo_X7_pop
set_option maxRecDepth 20000 in
theorem gX7_bodyComesTo_X7_pop_u121X6 : GoodIn wsX7_bodyComesTo (va_wsU RX7 121 RX6 "EarlyValues$View" ⟨"EarlyValues$View", "pop", "()I"⟩ yX7_pop wsX7_pop) := goodIn_app (goodIn_of _ (by decide +kernel)) ggX7_bodyComesTo_X7_pop
set_option maxRecDepth 20000 in
theorem ggX7_bodyComesTo_X7_letterComesTo : GoodIn wsX7_bodyComesTo wsX7_letterComesTo := goodIn_r _ [29, 30, 31, 21, 32, 33, 34, 35, 36, 37, 38, 39, 40, 41, 42, 43, 44, 45, 46, 47, 48, 49, 50, 51, 52, 53, 54, 55, 56, 57, 58, 59, 60, 61, 62, 63, 64, 65, 66, 67, 68, 69, 70, 71, 72, 73, 74, 75, 76, 77, 19, 78, 79, 80, 81, 91, 92, 93, 94, 95, 96, 97, 98, 99, 100, 101, 102, 103, 104, 105, 106, 107, 108, 109, 110, 111, 112, 113, 114, 115, 116, 117, 118, 119, 120, 121, 122, 123, 124, 125, 126, 127, 128, 129] (by decide +kernel) (by decide +kernel)
set_option maxRecDepth 20000 in
theorem gX7_bodyComesTo_X7_letterComesTo_u125X0 : GoodIn wsX7_bodyComesTo (va_wsU RX7 125 RX0 "EarlyValues$View" ⟨"EarlyValues$View", "letterComesTo", "(IIII)I"⟩ yX7_letterComesTo wsX7_letterComesTo) := goodIn_app (goodIn_of _ (by decide +kernel)) ggX7_bodyComesTo_X7_letterComesTo
set_option maxRecDepth 20000 in
theorem gX7_bodyComesTo_X7_letterComesTo_u125X4 : GoodIn wsX7_bodyComesTo (va_wsU RX7 125 RX4 "EarlyValues$View" ⟨"EarlyValues$View", "letterComesTo", "(IIII)I"⟩ yX7_letterComesTo wsX7_letterComesTo) := goodIn_app (goodIn_of _ (by decide +kernel)) ggX7_bodyComesTo_X7_letterComesTo
set_option maxRecDepth 20000 in
theorem gX7_bodyComesTo_X7_letterComesTo_u125X6 : GoodIn wsX7_bodyComesTo (va_wsU RX7 125 RX6 "EarlyValues$View" ⟨"EarlyValues$View", "letterComesTo", "(IIII)I"⟩ yX7_letterComesTo wsX7_letterComesTo) := goodIn_app (goodIn_of _ (by decide +kernel)) ggX7_bodyComesTo_X7_letterComesTo
set_option maxRecDepth 20000 in
theorem ggX7_bodyComesTo_X7_push : GoodIn wsX7_bodyComesTo wsX7_push := goodIn_r _ [88, 1, 22, 91, 92, 93, 94, 95, 96, 97, 98, 99, 100, 101, 102, 103, 104, 105, 106, 107, 108, 109, 110, 111, 112, 113, 114, 115, 116, 117, 118, 119, 120, 121, 122, 123, 124, 125, 126, 127, 128, 129] (by decide +kernel) (by decide +kernel)
set_option maxRecDepth 20000 in
theorem gX7_bodyComesTo_X7_push_u129X0 : GoodIn wsX7_bodyComesTo (va_wsU RX7 129 RX0 "EarlyValues$View" ⟨"EarlyValues$View", "push", "(I)V"⟩ yX7_push wsX7_push) := goodIn_app (goodIn_of _ (by decide +kernel)) ggX7_bodyComesTo_X7_push
set_option maxRecDepth 20000 in
theorem gX7_bodyComesTo_X7_push_u129X4 : GoodIn wsX7_bodyComesTo (va_wsU RX7 129 RX4 "EarlyValues$View" ⟨"EarlyValues$View", "push", "(I)V"⟩ yX7_push wsX7_push) := goodIn_app (goodIn_of _ (by decide +kernel)) ggX7_bodyComesTo_X7_push
set_option maxRecDepth 20000 in
theorem gX7_bodyComesTo_X7_push_u129X6 : GoodIn wsX7_bodyComesTo (va_wsU RX7 129 RX6 "EarlyValues$View" ⟨"EarlyValues$View", "push", "(I)V"⟩ yX7_push wsX7_push) := goodIn_app (goodIn_of _ (by decide +kernel)) ggX7_bodyComesTo_X7_push
theorem dX7_bodyComesTo_0 : decode cX7_bodyComesTo 0 = .ok (.aload_n 0, 1) := by decide +kernel
theorem dX7_bodyComesTo_1 : decode cX7_bodyComesTo 1 = .ok (.iconst 0, 1) := by decide +kernel
theorem dX7_bodyComesTo_2 : decode cX7_bodyComesTo 2 = .ok (.putfield 108, 3) := by decide +kernel
theorem dX7_bodyComesTo_5 : decode cX7_bodyComesTo 5 = .ok (.aload_n 1, 1) := by decide +kernel
theorem dX7_bodyComesTo_6 : decode cX7_bodyComesTo 6 = .ok (.getfield 111, 3) := by decide +kernel
theorem dX7_bodyComesTo_9 : decode cX7_bodyComesTo 9 = .ok (.iload_n 2, 1) := by decide +kernel
theorem dX7_bodyComesTo_10 : decode cX7_bodyComesTo 10 = .ok (.iaload, 1) := by decide +kernel
theorem dX7_bodyComesTo_11 : decode cX7_bodyComesTo 11 = .ok (.iconst 1, 1) := by decide +kernel
theorem dX7_bodyComesTo_12 : decode cX7_bodyComesTo 12 = .ok (.isub, 1) := by decide +kernel
theorem dX7_bodyComesTo_13 : decode cX7_bodyComesTo 13 = .ok (.istore_n 3, 1) := by decide +kernel
theorem dX7_bodyComesTo_14 : decode cX7_bodyComesTo 14 = .ok (.iload_n 3, 1) := by decide +kernel
theorem dX7_bodyComesTo_15 : decode cX7_bodyComesTo 15 = .ok (.ifCond .lt 90, 3) := by decide +kernel
theorem dX7_bodyComesTo_18 : decode cX7_bodyComesTo 18 = .ok (.aload_n 1, 1) := by decide +kernel
theorem dX7_bodyComesTo_19 : decode cX7_bodyComesTo 19 = .ok (.getfield 114, 3) := by decide +kernel
theorem dX7_bodyComesTo_22 : decode cX7_bodyComesTo 22 = .ok (.iload_n 2, 1) := by decide +kernel
theorem dX7_bodyComesTo_23 : decode cX7_bodyComesTo 23 = .ok (.aaload, 1) := by decide +kernel
theorem dX7_bodyComesTo_24 : decode cX7_bodyComesTo 24 = .ok (.iload_n 3, 1) := by decide +kernel
theorem dX7_bodyComesTo_25 : decode cX7_bodyComesTo 25 = .ok (.iaload, 1) := by decide +kernel
theorem dX7_bodyComesTo_26 : decode cX7_bodyComesTo 26 = .ok (.istore 4, 2) := by decide +kernel
theorem dX7_bodyComesTo_28 : decode cX7_bodyComesTo 28 = .ok (.aload_n 1, 1) := by decide +kernel
theorem dX7_bodyComesTo_29 : decode cX7_bodyComesTo 29 = .ok (.iload 4, 2) := by decide +kernel
theorem dX7_bodyComesTo_31 : decode cX7_bodyComesTo 31 = .ok (.invokevirtual 117, 3) := by decide +kernel
theorem dX7_bodyComesTo_34 : decode cX7_bodyComesTo 34 = .ok (.istore 5, 2) := by decide +kernel
theorem dX7_bodyComesTo_36 : decode cX7_bodyComesTo 36 = .ok (.iload 5, 2) := by decide +kernel
theorem dX7_bodyComesTo_38 : decode cX7_bodyComesTo 38 = .ok (.ifCond .le 10, 3) := by decide +kernel
theorem dX7_bodyComesTo_41 : decode cX7_bodyComesTo 41 = .ok (.aload_n 0, 1) := by decide +kernel
theorem dX7_bodyComesTo_42 : decode cX7_bodyComesTo 42 = .ok (.invokevirtual 121, 3) := by decide +kernel
theorem dX7_bodyComesTo_45 : decode cX7_bodyComesTo 45 = .ok (.goto 4, 3) := by decide +kernel
theorem dX7_bodyComesTo_48 : decode cX7_bodyComesTo 48 = .ok (.iconst 0, 1) := by decide +kernel
theorem dX7_bodyComesTo_49 : decode cX7_bodyComesTo 49 = .ok (.istore 6, 2) := by decide +kernel
theorem dX7_bodyComesTo_51 : decode cX7_bodyComesTo 51 = .ok (.iload 5, 2) := by decide +kernel
theorem dX7_bodyComesTo_53 : decode cX7_bodyComesTo 53 = .ok (.iconst 1, 1) := by decide +kernel
theorem dX7_bodyComesTo_54 : decode cX7_bodyComesTo 54 = .ok (.if_icmp .le 10, 3) := by decide +kernel
theorem dX7_bodyComesTo_57 : decode cX7_bodyComesTo 57 = .ok (.aload_n 0, 1) := by decide +kernel
theorem dX7_bodyComesTo_58 : decode cX7_bodyComesTo 58 = .ok (.invokevirtual 121, 3) := by decide +kernel
theorem dX7_bodyComesTo_61 : decode cX7_bodyComesTo 61 = .ok (.goto 4, 3) := by decide +kernel
theorem dX7_bodyComesTo_64 : decode cX7_bodyComesTo 64 = .ok (.iconst 0, 1) := by decide +kernel
theorem dX7_bodyComesTo_65 : decode cX7_bodyComesTo 65 = .ok (.istore 7, 2) := by decide +kernel
theorem dX7_bodyComesTo_67 : decode cX7_bodyComesTo 67 = .ok (.iload 5, 2) := by decide +kernel
theorem dX7_bodyComesTo_69 : decode cX7_bodyComesTo 69 = .ok (.iconst 2, 1) := by decide +kernel
theorem dX7_bodyComesTo_70 : decode cX7_bodyComesTo 70 = .ok (.if_icmp .le 10, 3) := by decide +kernel
theorem dX7_bodyComesTo_73 : decode cX7_bodyComesTo 73 = .ok (.aload_n 0, 1) := by decide +kernel
theorem dX7_bodyComesTo_74 : decode cX7_bodyComesTo 74 = .ok (.invokevirtual 121, 3) := by decide +kernel
theorem dX7_bodyComesTo_77 : decode cX7_bodyComesTo 77 = .ok (.goto 4, 3) := by decide +kernel
theorem dX7_bodyComesTo_80 : decode cX7_bodyComesTo 80 = .ok (.iconst 0, 1) := by decide +kernel
theorem dX7_bodyComesTo_81 : decode cX7_bodyComesTo 81 = .ok (.istore 8, 2) := by decide +kernel
theorem dX7_bodyComesTo_83 : decode cX7_bodyComesTo 83 = .ok (.aload_n 0, 1) := by decide +kernel
theorem dX7_bodyComesTo_84 : decode cX7_bodyComesTo 84 = .ok (.aload_n 0, 1) := by decide +kernel
theorem dX7_bodyComesTo_85 : decode cX7_bodyComesTo 85 = .ok (.iload 4, 2) := by decide +kernel
theorem dX7_bodyComesTo_87 : decode cX7_bodyComesTo 87 = .ok (.iload 6, 2) := by decide +kernel
theorem dX7_bodyComesTo_89 : decode cX7_bodyComesTo 89 = .ok (.iload 7, 2) := by decide +kernel
theorem dX7_bodyComesTo_91 : decode cX7_bodyComesTo 91 = .ok (.iload 8, 2) := by decide +kernel
theorem dX7_bodyComesTo_93 : decode cX7_bodyComesTo 93 = .ok (.invokevirtual 125, 3) := by decide +kernel
theorem dX7_bodyComesTo_96 : decode cX7_bodyComesTo 96 = .ok (.invokevirtual 129, 3) := by decide +kernel
theorem dX7_bodyComesTo_99 : decode cX7_bodyComesTo 99 = .ok (.iinc 3 (-1), 3) := by decide +kernel
theorem dX7_bodyComesTo_102 : decode cX7_bodyComesTo 102 = .ok (.goto (-88), 3) := by decide +kernel
theorem dX7_bodyComesTo_105 : decode cX7_bodyComesTo 105 = .ok (.aload_n 0, 1) := by decide +kernel
theorem dX7_bodyComesTo_106 : decode cX7_bodyComesTo 106 = .ok (.invokevirtual 121, 3) := by decide +kernel
theorem dX7_bodyComesTo_109 : decode cX7_bodyComesTo 109 = .ok (.ireturn, 1) := by decide +kernel
theorem dX7_push_0 : decode cX7_push 0 = .ok (.aload_n 0, 1) := by decide +kernel
theorem dX7_push_1 : decode cX7_push 1 = .ok (.getfield 108, 3) := by decide +kernel
theorem dX7_push_4 : decode cX7_push 4 = .ok (.aload_n 0, 1) := by decide +kernel
theorem dX7_push_5 : decode cX7_push 5 = .ok (.getfield 18, 3) := by decide +kernel
theorem dX7_push_8 : decode cX7_push 8 = .ok (.arraylength, 1) := by decide +kernel
theorem dX7_push_9 : decode cX7_push 9 = .ok (.if_icmp .ge 23, 3) := by decide +kernel
theorem dX7_push_12 : decode cX7_push 12 = .ok (.aload_n 0, 1) := by decide +kernel
theorem dX7_push_13 : decode cX7_push 13 = .ok (.getfield 18, 3) := by decide +kernel
theorem dX7_push_16 : decode cX7_push 16 = .ok (.aload_n 0, 1) := by decide +kernel
theorem dX7_push_17 : decode cX7_push 17 = .ok (.getfield 108, 3) := by decide +kernel
theorem dX7_push_20 : decode cX7_push 20 = .ok (.iload_n 1, 1) := by decide +kernel
theorem dX7_push_21 : decode cX7_push 21 = .ok (.iastore, 1) := by decide +kernel
theorem dX7_push_22 : decode cX7_push 22 = .ok (.aload_n 0, 1) := by decide +kernel
theorem dX7_push_23 : decode cX7_push 23 = .ok (.dup, 1) := by decide +kernel
theorem dX7_push_24 : decode cX7_push 24 = .ok (.getfield 108, 3) := by decide +kernel
theorem dX7_push_27 : decode cX7_push 27 = .ok (.iconst 1, 1) := by decide +kernel
theorem dX7_push_28 : decode cX7_push 28 = .ok (.iadd, 1) := by decide +kernel
theorem dX7_push_29 : decode cX7_push 29 = .ok (.putfield 108, 3) := by decide +kernel
theorem dX7_push_32 : decode cX7_push 32 = .ok (.return_, 1) := by decide +kernel
theorem dX7_pop_0 : decode cX7_pop 0 = .ok (.aload_n 0, 1) := by decide +kernel
theorem dX7_pop_1 : decode cX7_pop 1 = .ok (.getfield 108, 3) := by decide +kernel
theorem dX7_pop_4 : decode cX7_pop 4 = .ok (.ifCond .gt 8, 3) := by decide +kernel
theorem dX7_pop_7 : decode cX7_pop 7 = .ok (.aload_n 0, 1) := by decide +kernel
theorem dX7_pop_8 : decode cX7_pop 8 = .ok (.getfield 25, 3) := by decide +kernel
theorem dX7_pop_11 : decode cX7_pop 11 = .ok (.ireturn, 1) := by decide +kernel
theorem dX7_pop_12 : decode cX7_pop 12 = .ok (.aload_n 0, 1) := by decide +kernel
theorem dX7_pop_13 : decode cX7_pop 13 = .ok (.dup, 1) := by decide +kernel
theorem dX7_pop_14 : decode cX7_pop 14 = .ok (.getfield 108, 3) := by decide +kernel
theorem dX7_pop_17 : decode cX7_pop 17 = .ok (.iconst 1, 1) := by decide +kernel
theorem dX7_pop_18 : decode cX7_pop 18 = .ok (.isub, 1) := by decide +kernel
theorem dX7_pop_19 : decode cX7_pop 19 = .ok (.putfield 108, 3) := by decide +kernel
theorem dX7_pop_22 : decode cX7_pop 22 = .ok (.aload_n 0, 1) := by decide +kernel
theorem dX7_pop_23 : decode cX7_pop 23 = .ok (.getfield 18, 3) := by decide +kernel
theorem dX7_pop_26 : decode cX7_pop 26 = .ok (.aload_n 0, 1) := by decide +kernel
theorem dX7_pop_27 : decode cX7_pop 27 = .ok (.getfield 108, 3) := by decide +kernel
theorem dX7_pop_30 : decode cX7_pop 30 = .ok (.iaload, 1) := by decide +kernel
theorem dX7_pop_31 : decode cX7_pop 31 = .ok (.ireturn, 1) := by decide +kernel
set_option maxRecDepth 20000 in
theorem ggX7_letterComesTo_X0_less : GoodIn wsX7_letterComesTo wsX0_less := goodIn_r _ [11] (by decide +kernel) (by decide +kernel)
set_option maxRecDepth 20000 in
theorem gX7_letterComesTo_X0_less_u132X0 : GoodIn wsX7_letterComesTo (va_wsU RX7 132 RX0 "EarlyValues$View" ⟨"EarlyValues$View", "less", "(I)I"⟩ yX0_less wsX0_less) := goodIn_app (goodIn_of _ (by decide +kernel)) ggX7_letterComesTo_X0_less
set_option maxRecDepth 20000 in
theorem ggX7_letterComesTo_X4_less : GoodIn wsX7_letterComesTo wsX4_less := goodIn_r _ [15] (by decide +kernel) (by decide +kernel)
set_option maxRecDepth 20000 in
theorem gX7_letterComesTo_X4_less_u132X4 : GoodIn wsX7_letterComesTo (va_wsU RX7 132 RX4 "EarlyValues$View" ⟨"EarlyValues$View", "less", "(I)I"⟩ yX4_less wsX4_less) := goodIn_app (goodIn_of _ (by decide +kernel)) ggX7_letterComesTo_X4_less
set_option maxRecDepth 20000 in
theorem ggX7_letterComesTo_X6_less : GoodIn wsX7_letterComesTo wsX6_less := goodIn_r _ [19, 20, 21, 22, 23] (by decide +kernel) (by decide +kernel)
set_option maxRecDepth 20000 in
theorem gX7_letterComesTo_X6_less_u132X6 : GoodIn wsX7_letterComesTo (va_wsU RX7 132 RX6 "EarlyValues$View" ⟨"EarlyValues$View", "less", "(I)I"⟩ yX6_less wsX6_less) := goodIn_app (goodIn_of _ (by decide +kernel)) ggX7_letterComesTo_X6_less
set_option maxRecDepth 20000 in
theorem ggX7_letterComesTo_X0_sum : GoodIn wsX7_letterComesTo wsX0_sum := goodIn_r _ [28] (by decide +kernel) (by decide +kernel)
set_option maxRecDepth 20000 in
theorem gX7_letterComesTo_X0_sum_u135X0 : GoodIn wsX7_letterComesTo (va_wsU RX7 135 RX0 "EarlyValues$View" ⟨"EarlyValues$View", "sum", "(II)I"⟩ yX0_sum wsX0_sum) := goodIn_app (goodIn_of _ (by decide +kernel)) ggX7_letterComesTo_X0_sum
set_option maxRecDepth 20000 in
theorem ggX7_letterComesTo_X4_sum : GoodIn wsX7_letterComesTo wsX4_sum := goodIn_r _ [31] (by decide +kernel) (by decide +kernel)
set_option maxRecDepth 20000 in
theorem gX7_letterComesTo_X4_sum_u135X4 : GoodIn wsX7_letterComesTo (va_wsU RX7 135 RX4 "EarlyValues$View" ⟨"EarlyValues$View", "sum", "(II)I"⟩ yX4_sum wsX4_sum) := goodIn_app (goodIn_of _ (by decide +kernel)) ggX7_letterComesTo_X4_sum
set_option maxRecDepth 20000 in
theorem ggX7_letterComesTo_X6_sum : GoodIn wsX7_letterComesTo wsX6_sum := goodIn_r _ [34] (by decide +kernel) (by decide +kernel)
set_option maxRecDepth 20000 in
theorem gX7_letterComesTo_X6_sum_u135X6 : GoodIn wsX7_letterComesTo (va_wsU RX7 135 RX6 "EarlyValues$View" ⟨"EarlyValues$View", "sum", "(II)I"⟩ yX6_sum wsX6_sum) := goodIn_app (goodIn_of _ (by decide +kernel)) ggX7_letterComesTo_X6_sum
set_option maxRecDepth 20000 in
theorem ggX7_letterComesTo_X0_chosen : GoodIn wsX7_letterComesTo wsX0_chosen := goodIn_r _ [39] (by decide +kernel) (by decide +kernel)
set_option maxRecDepth 20000 in
theorem gX7_letterComesTo_X0_chosen_u138X0 : GoodIn wsX7_letterComesTo (va_wsU RX7 138 RX0 "EarlyValues$View" ⟨"EarlyValues$View", "chosen", "(III)I"⟩ yX0_chosen wsX0_chosen) := goodIn_app (goodIn_of _ (by decide +kernel)) ggX7_letterComesTo_X0_chosen
set_option maxRecDepth 20000 in
theorem ggX7_letterComesTo_X4_chosen : GoodIn wsX7_letterComesTo wsX4_chosen := goodIn_r _ [42] (by decide +kernel) (by decide +kernel)
set_option maxRecDepth 20000 in
theorem gX7_letterComesTo_X4_chosen_u138X4 : GoodIn wsX7_letterComesTo (va_wsU RX7 138 RX4 "EarlyValues$View" ⟨"EarlyValues$View", "chosen", "(III)I"⟩ yX4_chosen wsX4_chosen) := goodIn_app (goodIn_of _ (by decide +kernel)) ggX7_letterComesTo_X4_chosen
set_option maxRecDepth 20000 in
theorem ggX7_letterComesTo_X6_chosen : GoodIn wsX7_letterComesTo wsX6_chosen := goodIn_r _ [45] (by decide +kernel) (by decide +kernel)
set_option maxRecDepth 20000 in
theorem gX7_letterComesTo_X6_chosen_u138X6 : GoodIn wsX7_letterComesTo (va_wsU RX7 138 RX6 "EarlyValues$View" ⟨"EarlyValues$View", "chosen", "(III)I"⟩ yX6_chosen wsX6_chosen) := goodIn_app (goodIn_of _ (by decide +kernel)) ggX7_letterComesTo_X6_chosen
set_option maxRecDepth 20000 in
theorem ggX7_letterComesTo_X7_at : GoodIn wsX7_letterComesTo wsX7_at := goodIn_r _ [51, 52, 3, 55, 56, 57, 58, 59, 60, 61, 62, 63, 64, 65, 66, 67, 68, 69, 70, 71, 72, 73, 74, 75, 76, 77, 78, 79, 80, 81, 82, 83, 84, 85, 86, 87, 88, 89, 90, 91, 92, 93] (by decide +kernel) (by decide +kernel)
set_option maxRecDepth 20000 in
theorem gX7_letterComesTo_X7_at_u83X0 : GoodIn wsX7_letterComesTo (va_wsU RX7 83 RX0 "EarlyValues$View" ⟨"EarlyValues$View", "at", "(II)I"⟩ yX7_at wsX7_at) := goodIn_app (goodIn_of _ (by decide +kernel)) ggX7_letterComesTo_X7_at
set_option maxRecDepth 20000 in
theorem gX7_letterComesTo_X7_at_u83X4 : GoodIn wsX7_letterComesTo (va_wsU RX7 83 RX4 "EarlyValues$View" ⟨"EarlyValues$View", "at", "(II)I"⟩ yX7_at wsX7_at) := goodIn_app (goodIn_of _ (by decide +kernel)) ggX7_letterComesTo_X7_at
set_option maxRecDepth 20000 in
theorem gX7_letterComesTo_X7_at_u83X6 : GoodIn wsX7_letterComesTo (va_wsU RX7 83 RX6 "EarlyValues$View" ⟨"EarlyValues$View", "at", "(II)I"⟩ yX7_at wsX7_at) := goodIn_app (goodIn_of _ (by decide +kernel)) ggX7_letterComesTo_X7_at
theorem dX7_letterComesTo_0 : decode cX7_letterComesTo 0 = .ok (.iload_n 1, 1) := by decide +kernel
theorem dX7_letterComesTo_1 : decode cX7_letterComesTo 1 = .ok (.tableswitch 162 0 9 #[55, 60, 65, 162, 162, 162, 70, 91, 121, 138], 55) := by decide +kernel
theorem dX7_letterComesTo_56 : decode cX7_letterComesTo 56 = .ok (.aload_n 0, 1) := by decide +kernel
theorem dX7_letterComesTo_57 : decode cX7_letterComesTo 57 = .ok (.getfield 28, 3) := by decide +kernel
theorem dX7_letterComesTo_60 : decode cX7_letterComesTo 60 = .ok (.ireturn, 1) := by decide +kernel
theorem dX7_letterComesTo_61 : decode cX7_letterComesTo 61 = .ok (.aload_n 0, 1) := by decide +kernel
theorem dX7_letterComesTo_62 : decode cX7_letterComesTo 62 = .ok (.getfield 31, 3) := by decide +kernel
theorem dX7_letterComesTo_65 : decode cX7_letterComesTo 65 = .ok (.ireturn, 1) := by decide +kernel
theorem dX7_letterComesTo_66 : decode cX7_letterComesTo 66 = .ok (.aload_n 0, 1) := by decide +kernel
theorem dX7_letterComesTo_67 : decode cX7_letterComesTo 67 = .ok (.getfield 25, 3) := by decide +kernel
theorem dX7_letterComesTo_70 : decode cX7_letterComesTo 70 = .ok (.ireturn, 1) := by decide +kernel
theorem dX7_letterComesTo_71 : decode cX7_letterComesTo 71 = .ok (.iload_n 2, 1) := by decide +kernel
theorem dX7_letterComesTo_72 : decode cX7_letterComesTo 72 = .ok (.aload_n 0, 1) := by decide +kernel
theorem dX7_letterComesTo_73 : decode cX7_letterComesTo 73 = .ok (.getfield 25, 3) := by decide +kernel
theorem dX7_letterComesTo_76 : decode cX7_letterComesTo 76 = .ok (.if_icmp .ne 10, 3) := by decide +kernel
theorem dX7_letterComesTo_79 : decode cX7_letterComesTo 79 = .ok (.aload_n 0, 1) := by decide +kernel
theorem dX7_letterComesTo_80 : decode cX7_letterComesTo 80 = .ok (.getfield 25, 3) := by decide +kernel
theorem dX7_letterComesTo_83 : decode cX7_letterComesTo 83 = .ok (.goto 8, 3) := by decide +kernel
theorem dX7_letterComesTo_86 : decode cX7_letterComesTo 86 = .ok (.aload_n 0, 1) := by decide +kernel
theorem dX7_letterComesTo_87 : decode cX7_letterComesTo 87 = .ok (.iload_n 2, 1) := by decide +kernel
theorem dX7_letterComesTo_88 : decode cX7_letterComesTo 88 = .ok (.invokevirtual 132, 3) := by decide +kernel
theorem dX7_letterComesTo_91 : decode cX7_letterComesTo 91 = .ok (.ireturn, 1) := by decide +kernel
theorem dX7_letterComesTo_92 : decode cX7_letterComesTo 92 = .ok (.iload_n 2, 1) := by decide +kernel
theorem dX7_letterComesTo_93 : decode cX7_letterComesTo 93 = .ok (.aload_n 0, 1) := by decide +kernel
theorem dX7_letterComesTo_94 : decode cX7_letterComesTo 94 = .ok (.getfield 25, 3) := by decide +kernel
theorem dX7_letterComesTo_97 : decode cX7_letterComesTo 97 = .ok (.if_icmp .eq 11, 3) := by decide +kernel
theorem dX7_letterComesTo_100 : decode cX7_letterComesTo 100 = .ok (.iload_n 3, 1) := by decide +kernel
theorem dX7_letterComesTo_101 : decode cX7_letterComesTo 101 = .ok (.aload_n 0, 1) := by decide +kernel
theorem dX7_letterComesTo_102 : decode cX7_letterComesTo 102 = .ok (.getfield 25, 3) := by decide +kernel
theorem dX7_letterComesTo_105 : decode cX7_letterComesTo 105 = .ok (.if_icmp .ne 10, 3) := by decide +kernel
theorem dX7_letterComesTo_108 : decode cX7_letterComesTo 108 = .ok (.aload_n 0, 1) := by decide +kernel
theorem dX7_letterComesTo_109 : decode cX7_letterComesTo 109 = .ok (.getfield 25, 3) := by decide +kernel
theorem dX7_letterComesTo_112 : decode cX7_letterComesTo 112 = .ok (.goto 9, 3) := by decide +kernel
theorem dX7_letterComesTo_115 : decode cX7_letterComesTo 115 = .ok (.aload_n 0, 1) := by decide +kernel
theorem dX7_letterComesTo_116 : decode cX7_letterComesTo 116 = .ok (.iload_n 2, 1) := by decide +kernel
