theorem tg_tbl {w : Cond} (h : w ∈ tables_1) : w ∈ lw_tbl := List.mem_append_right _ h
theorem tt1 {w : Cond} (h : w ∈ tables_1_1) : w ∈ lw_tbl := tg_tbl (List.mem_append_left _ h)
theorem tt2 {w : Cond} (h : w ∈ tables_1_2) : w ∈ lw_tbl := tg_tbl (List.mem_append_right _ (List.mem_append_left _ h))
theorem tt3 {w : Cond} (h : w ∈ tables_1_3) : w ∈ lw_tbl := tg_tbl (List.mem_append_right _ (List.mem_append_right _ (List.mem_append_left _ h)))
theorem tt4 {w : Cond} (h : w ∈ tables_1_4) : w ∈ lw_tbl := tg_tbl (List.mem_append_right _ (List.mem_append_right _ (List.mem_append_right _ (List.mem_append_left _ h))))
theorem tt5 {w : Cond} (h : w ∈ tables_1_5) : w ∈ lw_tbl := tg_tbl (List.mem_append_right _ (List.mem_append_right _ (List.mem_append_right _ (List.mem_append_right _ (List.mem_append_left _ h)))))
theorem tt6 {w : Cond} (h : w ∈ tables_1_6) : w ∈ lw_tbl := tg_tbl (List.mem_append_right _ (List.mem_append_right _ (List.mem_append_right _ (List.mem_append_right _ (List.mem_append_right _ (List.mem_append_left _ h))))))
theorem tt7 {w : Cond} (h : w ∈ tables_1_7) : w ∈ lw_tbl := tg_tbl (List.mem_append_right _ (List.mem_append_right _ (List.mem_append_right _ (List.mem_append_right _ (List.mem_append_right _ (List.mem_append_right _ (List.mem_append_left _ h)))))))
theorem tt8 {w : Cond} (h : w ∈ tables_1_8) : w ∈ lw_tbl := tg_tbl (List.mem_append_right _ (List.mem_append_right _ (List.mem_append_right _ (List.mem_append_right _ (List.mem_append_right _ (List.mem_append_right _ (List.mem_append_right _ (List.mem_append_left _ h))))))))
theorem tt9 {w : Cond} (h : w ∈ tables_1_9) : w ∈ lw_tbl := tg_tbl (List.mem_append_right _ (List.mem_append_right _ (List.mem_append_right _ (List.mem_append_right _ (List.mem_append_right _ (List.mem_append_right _ (List.mem_append_right _ (List.mem_append_right _ (h)))))))))
def y0 : MethodName := ⟨"WordFunctions", "<init>", "()V"⟩
def y1 : MethodName := ⟨"WordFunctions", "argument", "(II)V"⟩
def y2 : MethodName := ⟨"WordFunctions", "call", "(I)I"⟩
def y3 : MethodName := ⟨"WordFunctions", "end", "(I)Z"⟩
def y4 : MethodName := ⟨"WordFunctions", "errorNumber", "(D)I"⟩
def y5 : MethodName := ⟨"WordFunctions", "feed", "(IIIII)Z"⟩
def y6 : MethodName := ⟨"WordFunctions", "great", "(C)C"⟩
def y7 : MethodName := ⟨"WordFunctions", "home", "(II)Z"⟩
def y8 : MethodName := ⟨"WordFunctions", "isCell", "(II)Z"⟩
def y9 : MethodName := ⟨"WordFunctions", "isFor", "(II)Z"⟩
def y10 : MethodName := ⟨"WordFunctions", "isLetter", "(C)Z"⟩
def y11 : MethodName := ⟨"WordFunctions", "lay", "(I)V"⟩
def y12 : MethodName := ⟨"WordFunctions", "letter", "(I)I"⟩
def y13 : MethodName := ⟨"WordFunctions", "look", "(II)I"⟩
def y14 : MethodName := ⟨"WordFunctions", "put", "(IID)Z"⟩
def y15 : MethodName := ⟨"WordFunctions", "putText", "(I)Z"⟩
def y16 : MethodName := ⟨"WordFunctions", "range", "(II)Z"⟩
def y17 : MethodName := ⟨"WordFunctions", "size", "(Z)I"⟩
def y18 : MethodName := ⟨"WordFunctions", "small", "(C)C"⟩
def y19 : MethodName := ⟨"WordFunctions", "textOrTooLong", "(Ljava/lang/StringBuilder;)LWordFunctions$Value;"⟩
def y20 : MethodName := ⟨"WordFunctions", "value", "()D"⟩
def y21 : MethodName := ⟨"WordFunctions$Answer", "<init>", "()V"⟩
def y22 : MethodName := ⟨"WordFunctions$Answer", "become", "(LWordFunctions$Value;)V"⟩
def y23 : MethodName := ⟨"WordFunctions$Answer", "becomePart", "(LWordFunctions$Arguments;IIII)V"⟩
def y24 : MethodName := ⟨"WordFunctions$Answer", "isOne", "()Z"⟩
def y25 : MethodName := ⟨"WordFunctions$Answer", "keep", "(IILWordFunctions$Value;)V"⟩
def y26 : MethodName := ⟨"WordFunctions$Answer", "tell", "(II)Z"⟩
def y27 : MethodName := ⟨"WordFunctions$Answer", "transpose", "(LWordFunctions$Arguments;)V"⟩
def y28 : MethodName := ⟨"WordFunctions$Arguments", "<init>", "()V"⟩
def y29 : MethodName := ⟨"WordFunctions$Arguments", "add", "(II)Z"⟩
def y30 : MethodName := ⟨"WordFunctions$Arguments", "at", "(III)LWordFunctions$Value;"⟩
def y31 : MethodName := ⟨"WordFunctions$Arguments", "clear", "()V"⟩
def y32 : MethodName := ⟨"WordFunctions$Arguments", "columns", "(I)I"⟩
def y33 : MethodName := ⟨"WordFunctions$Arguments", "day", "(I)I"⟩
def y34 : MethodName := ⟨"WordFunctions$Arguments", "fail", "(I)V"⟩
def y35 : MethodName := ⟨"WordFunctions$Arguments", "grid", "(I)LWordFunctions$Grid;"⟩
def y36 : MethodName := ⟨"WordFunctions$Arguments", "isLeftOut", "(I)Z"⟩
def y37 : MethodName := ⟨"WordFunctions$Arguments", "isThere", "(I)Z"⟩
def y38 : MethodName := ⟨"WordFunctions$Arguments", "many", "(I)I"⟩
def y39 : MethodName := ⟨"WordFunctions$Arguments", "nth", "(II)LWordFunctions$Value;"⟩
def y40 : MethodName := ⟨"WordFunctions$Arguments", "number", "(I)D"⟩
def y41 : MethodName := ⟨"WordFunctions$Arguments", "rows", "(I)I"⟩
def y42 : MethodName := ⟨"WordFunctions$Arguments", "said", "(Ljava/lang/String;)D"⟩
def y43 : MethodName := ⟨"WordFunctions$Arguments", "set", "(ILWordFunctions$Value;)Z"⟩
def y44 : MethodName := ⟨"WordFunctions$Arguments", "stand", "(II)Z"⟩
def y45 : MethodName := ⟨"WordFunctions$Arguments", "text", "(I)Ljava/lang/String;"⟩
def y46 : MethodName := ⟨"WordFunctions$Arguments", "textOf", "(LWordFunctions$Value;)Ljava/lang/String;"⟩
def y47 : MethodName := ⟨"WordFunctions$Arguments", "truth", "(I)Z"⟩
def y48 : MethodName := ⟨"WordFunctions$Arguments", "truthOr", "(IZ)Z"⟩
def y49 : MethodName := ⟨"WordFunctions$Arguments", "whole", "(I)I"⟩
def y50 : MethodName := ⟨"WordFunctions$Arguments", "wholeOr", "(II)I"⟩
def y51 : MethodName := ⟨"WordFunctions$Arguments", "written", "(D)Ljava/lang/String;"⟩
def y52 : MethodName := ⟨"WordFunctions$Calendar", "dayInMonth", "(I)I"⟩
def y53 : MethodName := ⟨"WordFunctions$Calendar", "firstOf", "(I)I"⟩
def y54 : MethodName := ⟨"WordFunctions$Calendar", "hasDay", "(D)Z"⟩
def y55 : MethodName := ⟨"WordFunctions$Calendar", "isDate", "(I)Z"⟩
def y56 : MethodName := ⟨"WordFunctions$Calendar", "isLeap", "(I)Z"⟩
def y57 : MethodName := ⟨"WordFunctions$Calendar", "isWorkday", "(I)Z"⟩
def y58 : MethodName := ⟨"WordFunctions$Calendar", "lengthOf", "(I)I"⟩
def y59 : MethodName := ⟨"WordFunctions$Calendar", "monthOf", "(I)I"⟩
def y60 : MethodName := ⟨"WordFunctions$Calendar", "workday", "(I)I"⟩
def y61 : MethodName := ⟨"WordFunctions$Calendar", "workdaysTo", "(I)I"⟩
def y62 : MethodName := ⟨"WordFunctions$Dates", "<init>", "(LWordFunctions$Arguments;)V"⟩
def y63 : MethodName := ⟨"WordFunctions$Dates", "addFree", "(I)V"⟩
def y64 : MethodName := ⟨"WordFunctions$Dates", "date", "()LWordFunctions$Value;"⟩
def y65 : MethodName := ⟨"WordFunctions$Dates", "dateOrError", "(I)LWordFunctions$Value;"⟩
def y66 : MethodName := ⟨"WordFunctions$Dates", "days", "()LWordFunctions$Value;"⟩
def y67 : MethodName := ⟨"WordFunctions$Dates", "difference", "()LWordFunctions$Value;"⟩
def y68 : MethodName := ⟨"WordFunctions$Dates", "isFar", "(I)Z"⟩
def y69 : MethodName := ⟨"WordFunctions$Dates", "isInTime", "(I)Z"⟩
def y70 : MethodName := ⟨"WordFunctions$Dates", "isWord", "(Ljava/lang/String;Ljava/lang/String;)Z"⟩
def y71 : MethodName := ⟨"WordFunctions$Dates", "monthsLater", "(Z)LWordFunctions$Value;"⟩
def y72 : MethodName := ⟨"WordFunctions$Dates", "of", "(I)LWordFunctions$Value;"⟩
def y73 : MethodName := ⟨"WordFunctions$Dates", "over", "(II)I"⟩
def y74 : MethodName := ⟨"WordFunctions$Dates", "readFree", "(I)V"⟩
def y75 : MethodName := ⟨"WordFunctions$Dates", "secondsOfDay", "()I"⟩
def y76 : MethodName := ⟨"WordFunctions$Dates", "time", "()LWordFunctions$Value;"⟩
def y77 : MethodName := ⟨"WordFunctions$Dates", "weekNumber", "()LWordFunctions$Value;"⟩
def y78 : MethodName := ⟨"WordFunctions$Dates", "weekday", "()LWordFunctions$Value;"⟩
def y79 : MethodName := ⟨"WordFunctions$Dates", "workday", "()LWordFunctions$Value;"⟩
def y80 : MethodName := ⟨"WordFunctions$Dates", "workdayBefore", "(II)I"⟩
def y81 : MethodName := ⟨"WordFunctions$Dates", "workdayBehind", "(II)I"⟩
def y82 : MethodName := ⟨"WordFunctions$Dates", "workdays", "()LWordFunctions$Value;"⟩
def y83 : MethodName := ⟨"WordFunctions$Grid", "<init>", "()V"⟩
def y84 : MethodName := ⟨"WordFunctions$Kinds", "<init>", "(LWordFunctions$Arguments;)V"⟩
def y85 : MethodName := ⟨"WordFunctions$Kinds", "of", "(I)LWordFunctions$Value;"⟩
def y86 : MethodName := ⟨"WordFunctions$Kinds", "typeOf", "(LWordFunctions$Value;)I"⟩
def y87 : MethodName := ⟨"WordFunctions$LookUps", "<init>", "(LWordFunctions$Arguments;LWordFunctions$Pattern;)V"⟩
def y88 : MethodName := ⟨"WordFunctions$LookUps", "address", "()LWordFunctions$Value;"⟩
def y89 : MethodName := ⟨"WordFunctions$LookUps", "appendColumn", "(Ljava/lang/StringBuilder;I)V"⟩
def y90 : MethodName := ⟨"WordFunctions$LookUps", "appendNumbered", "(Ljava/lang/StringBuilder;CIZ)V"⟩
def y91 : MethodName := ⟨"WordFunctions$LookUps", "cell", "(Z)LWordFunctions$Value;"⟩
def y92 : MethodName := ⟨"WordFunctions$LookUps", "find", "(LWordFunctions$Value;IIII)I"⟩
def y93 : MethodName := ⟨"WordFunctions$LookUps", "fits", "(II)Z"⟩
def y94 : MethodName := ⟨"WordFunctions$LookUps", "inTable", "(Z)LWordFunctions$Value;"⟩
def y95 : MethodName := ⟨"WordFunctions$LookUps", "index", "(LWordFunctions$Answer;)V"⟩
def y96 : MethodName := ⟨"WordFunctions$LookUps", "lookUp", "()LWordFunctions$Value;"⟩
def y97 : MethodName := ⟨"WordFunctions$LookUps", "match", "()LWordFunctions$Value;"⟩
def y98 : MethodName := ⟨"WordFunctions$LookUps", "of", "(I)LWordFunctions$Value;"⟩
def y99 : MethodName := ⟨"WordFunctions$LookUps", "order", "(LWordFunctions$Value;LWordFunctions$Value;)I"⟩
def y100 : MethodName := ⟨"WordFunctions$LookUps", "sought", "()LWordFunctions$Value;"⟩
def y101 : MethodName := ⟨"WordFunctions$Pattern", "<init>", "()V"⟩
def y102 : MethodName := ⟨"WordFunctions$Pattern", "isSpecial", "(C)Z"⟩
def y103 : MethodName := ⟨"WordFunctions$Pattern", "matches", "(Ljava/lang/String;Z)Z"⟩
def y104 : MethodName := ⟨"WordFunctions$Pattern", "placeIn", "(Ljava/lang/String;I)I"⟩
def y105 : MethodName := ⟨"WordFunctions$Pattern", "read", "(Ljava/lang/String;)V"⟩
def y106 : MethodName := ⟨"WordFunctions$Texts", "<init>", "(LWordFunctions$Arguments;LWordFunctions$Pattern;)V"⟩
def y107 : MethodName := ⟨"WordFunctions$Texts", "appendWhileShort", "(Ljava/lang/StringBuilder;Ljava/lang/String;)V"⟩
def y108 : MethodName := ⟨"WordFunctions$Texts", "base", "()LWordFunctions$Value;"⟩
def y109 : MethodName := ⟨"WordFunctions$Texts", "character", "()LWordFunctions$Value;"⟩
def y110 : MethodName := ⟨"WordFunctions$Texts", "code", "()LWordFunctions$Value;"⟩
def y111 : MethodName := ⟨"WordFunctions$Texts", "concatenate", "()LWordFunctions$Value;"⟩
def y112 : MethodName := ⟨"WordFunctions$Texts", "decimal", "()LWordFunctions$Value;"⟩
def y113 : MethodName := ⟨"WordFunctions$Texts", "digitOf", "(C)I"⟩
def y114 : MethodName := ⟨"WordFunctions$Texts", "exact", "()LWordFunctions$Value;"⟩
def y115 : MethodName := ⟨"WordFunctions$Texts", "find", "()LWordFunctions$Value;"⟩
def y116 : MethodName := ⟨"WordFunctions$Texts", "isAt", "(Ljava/lang/String;Ljava/lang/String;I)Z"⟩
def y117 : MethodName := ⟨"WordFunctions$Texts", "join", "()LWordFunctions$Value;"⟩
def y118 : MethodName := ⟨"WordFunctions$Texts", "middle", "()LWordFunctions$Value;"⟩
def y119 : MethodName := ⟨"WordFunctions$Texts", "of", "(I)LWordFunctions$Value;"⟩
def y120 : MethodName := ⟨"WordFunctions$Texts", "proper", "()LWordFunctions$Value;"⟩
def y121 : MethodName := ⟨"WordFunctions$Texts", "repeat", "()LWordFunctions$Value;"⟩
def y122 : MethodName := ⟨"WordFunctions$Texts", "replace", "()LWordFunctions$Value;"⟩
def y123 : MethodName := ⟨"WordFunctions$Texts", "roman", "()LWordFunctions$Value;"⟩
def y124 : MethodName := ⟨"WordFunctions$Texts", "search", "()LWordFunctions$Value;"⟩
def y125 : MethodName := ⟨"WordFunctions$Texts", "side", "(Z)LWordFunctions$Value;"⟩
def y126 : MethodName := ⟨"WordFunctions$Texts", "sized", "(Z)LWordFunctions$Value;"⟩
def y127 : MethodName := ⟨"WordFunctions$Texts", "substitute", "()LWordFunctions$Value;"⟩
def y128 : MethodName := ⟨"WordFunctions$Texts", "trim", "()LWordFunctions$Value;"⟩
def y129 : MethodName := ⟨"WordFunctions$Value", "<init>", "(IDLjava/lang/String;)V"⟩
def y130 : MethodName := ⟨"WordFunctions$Value", "ofEmpty", "()LWordFunctions$Value;"⟩
def y131 : MethodName := ⟨"WordFunctions$Value", "ofError", "(I)LWordFunctions$Value;"⟩
def y132 : MethodName := ⟨"WordFunctions$Value", "ofNumber", "(D)LWordFunctions$Value;"⟩
def y133 : MethodName := ⟨"WordFunctions$Value", "ofText", "(Ljava/lang/String;)LWordFunctions$Value;"⟩
def y134 : MethodName := ⟨"WordFunctions$Value", "ofTruth", "(Z)LWordFunctions$Value;"⟩
def y135 : MethodName := ⟨"WordFunctionsLaw", "argument", "(LWordFunctions;II)I"⟩
def y136 : MethodName := ⟨"WordFunctionsLaw", "call", "(LWordFunctions;I[J)I"⟩
def y137 : MethodName := ⟨"WordFunctionsLaw", "law", "([I)Z"⟩
def y138 : MethodName := ⟨"WordFunctionsModel", "<init>", "()V"⟩
def y139 : MethodName := ⟨"WordFunctionsModel", "absolute", "(D)D"⟩
def y140 : MethodName := ⟨"WordFunctionsModel", "address", "()V"⟩
def y141 : MethodName := ⟨"WordFunctionsModel", "answerDay", "(J)V"⟩
def y142 : MethodName := ⟨"WordFunctionsModel", "answerNumber", "(D)V"⟩
def y143 : MethodName := ⟨"WordFunctionsModel", "answerPart", "(IIIIIZ)V"⟩
def y144 : MethodName := ⟨"WordFunctionsModel", "answerText", "()V"⟩
def y145 : MethodName := ⟨"WordFunctionsModel", "answerTruth", "(Z)V"⟩
def y146 : MethodName := ⟨"WordFunctionsModel", "answerValue", "(I)V"⟩
def y147 : MethodName := ⟨"WordFunctionsModel", "argument", "(II)V"⟩
def y148 : MethodName := ⟨"WordFunctionsModel", "arity", "(I)I"⟩
def y149 : MethodName := ⟨"WordFunctionsModel", "base", "()V"⟩
def y150 : MethodName := ⟨"WordFunctionsModel", "bracketed", "(IIZ)V"⟩
def y151 : MethodName := ⟨"WordFunctionsModel", "call", "(I)I"⟩
def y152 : MethodName := ⟨"WordFunctionsModel", "character", "(Z)V"⟩
def y153 : MethodName := ⟨"WordFunctionsModel", "columnLetters", "(I)V"⟩
def y154 : MethodName := ⟨"WordFunctionsModel", "columnsOf", "(I)I"⟩
def y155 : MethodName := ⟨"WordFunctionsModel", "concatenate", "()V"⟩
def y156 : MethodName := ⟨"WordFunctionsModel", "cut", "(D)D"⟩
def y157 : MethodName := ⟨"WordFunctionsModel", "date", "()V"⟩
def y158 : MethodName := ⟨"WordFunctionsModel", "dateOf", "(I)V"⟩
def y159 : MethodName := ⟨"WordFunctionsModel", "datePart", "(I)V"⟩
def y160 : MethodName := ⟨"WordFunctionsModel", "dates", "(I)V"⟩
def y161 : MethodName := ⟨"WordFunctionsModel", "dayOf", "(I)I"⟩
def y162 : MethodName := ⟨"WordFunctionsModel", "dayTaken", "()I"⟩
def y163 : MethodName := ⟨"WordFunctionsModel", "daysOf", "(II)I"⟩
def y164 : MethodName := ⟨"WordFunctionsModel", "decimal", "()V"⟩
def y165 : MethodName := ⟨"WordFunctionsModel", "difference", "()V"⟩
def y166 : MethodName := ⟨"WordFunctionsModel", "end", "(I)Z"⟩
def y167 : MethodName := ⟨"WordFunctionsModel", "ends", "(Z)V"⟩
def y168 : MethodName := ⟨"WordFunctionsModel", "errorOf", "(D)D"⟩
def y169 : MethodName := ⟨"WordFunctionsModel", "exact", "()V"⟩
def y170 : MethodName := ⟨"WordFunctionsModel", "fail", "(I)V"⟩
def y171 : MethodName := ⟨"WordFunctionsModel", "feed", "(IIIII)Z"⟩
def y172 : MethodName := ⟨"WordFunctionsModel", "find", "(IIIII)I"⟩
def y173 : MethodName := ⟨"WordFunctionsModel", "findText", "(Z)V"⟩
def y174 : MethodName := ⟨"WordFunctionsModel", "floor", "(D)D"⟩
def y175 : MethodName := ⟨"WordFunctionsModel", "great", "(I)I"⟩
def y176 : MethodName := ⟨"WordFunctionsModel", "home", "(II)Z"⟩
def y177 : MethodName := ⟨"WordFunctionsModel", "index", "()V"⟩
def y178 : MethodName := ⟨"WordFunctionsModel", "isCell", "(II)Z"⟩
def y179 : MethodName := ⟨"WordFunctionsModel", "isDigit", "(I)Z"⟩
def y180 : MethodName := ⟨"WordFunctionsModel", "isEscape", "([III)Z"⟩
def y181 : MethodName := ⟨"WordFunctionsModel", "isGiven", "(I)Z"⟩
def y182 : MethodName := ⟨"WordFunctionsModel", "isLeap", "(I)Z"⟩
def y183 : MethodName := ⟨"WordFunctionsModel", "isOut", "(I)Z"⟩
def y184 : MethodName := ⟨"WordFunctionsModel", "isWork", "(II)Z"⟩
def y185 : MethodName := ⟨"WordFunctionsModel", "join", "()V"⟩
def y186 : MethodName := ⟨"WordFunctionsModel", "keep", "()V"⟩
def y187 : MethodName := ⟨"WordFunctionsModel", "kindOf", "(I)V"⟩
def y188 : MethodName := ⟨"WordFunctionsModel", "lesser", "(II)I"⟩
def y189 : MethodName := ⟨"WordFunctionsModel", "letter", "(I)I"⟩
def y190 : MethodName := ⟨"WordFunctionsModel", "lies", "()I"⟩
def y191 : MethodName := ⟨"WordFunctionsModel", "look", "(II)I"⟩
def y192 : MethodName := ⟨"WordFunctionsModel", "lookIn", "(Z)V"⟩
def y193 : MethodName := ⟨"WordFunctionsModel", "lookUp", "()V"⟩
def y194 : MethodName := ⟨"WordFunctionsModel", "lookUps", "(I)V"⟩
def y195 : MethodName := ⟨"WordFunctionsModel", "make", "(I)V"⟩
def y196 : MethodName := ⟨"WordFunctionsModel", "makeNumber", "(I)V"⟩
def y197 : MethodName := ⟨"WordFunctionsModel", "makeOf", "([III)V"⟩
def y198 : MethodName := ⟨"WordFunctionsModel", "match", "()V"⟩
def y199 : MethodName := ⟨"WordFunctionsModel", "matches", "([II[IIIZ)Z"⟩
def y200 : MethodName := ⟨"WordFunctionsModel", "middle", "()V"⟩
def y201 : MethodName := ⟨"WordFunctionsModel", "monthFirst", "(J)J"⟩
def y202 : MethodName := ⟨"WordFunctionsModel", "monthsLater", "(Z)V"⟩
def y203 : MethodName := ⟨"WordFunctionsModel", "monthsOver", "(IIII)J"⟩
def y204 : MethodName := ⟨"WordFunctionsModel", "number", "(I)D"⟩
def y205 : MethodName := ⟨"WordFunctionsModel", "numberTaken", "()D"⟩
def y206 : MethodName := ⟨"WordFunctionsModel", "placeOf", "(I)I"⟩
def y207 : MethodName := ⟨"WordFunctionsModel", "put", "(IID)Z"⟩
def y208 : MethodName := ⟨"WordFunctionsModel", "putFour", "(I)V"⟩
def y209 : MethodName := ⟨"WordFunctionsModel", "putText", "(I)Z"⟩
def y210 : MethodName := ⟨"WordFunctionsModel", "range", "(II)Z"⟩
def y211 : MethodName := ⟨"WordFunctionsModel", "repeat", "()V"⟩
def y212 : MethodName := ⟨"WordFunctionsModel", "replace", "()V"⟩
def y213 : MethodName := ⟨"WordFunctionsModel", "roman", "()V"⟩
def y214 : MethodName := ⟨"WordFunctionsModel", "roman", "(IIII)V"⟩
def y215 : MethodName := ⟨"WordFunctionsModel", "rowsOf", "(I)I"⟩
def y216 : MethodName := ⟨"WordFunctionsModel", "says", "()Z"⟩
def y217 : MethodName := ⟨"WordFunctionsModel", "size", "(Z)I"⟩
def y218 : MethodName := ⟨"WordFunctionsModel", "sizes", "(I)V"⟩
def y219 : MethodName := ⟨"WordFunctionsModel", "small", "(I)I"⟩
def y220 : MethodName := ⟨"WordFunctionsModel", "standing", "(Z)V"⟩
def y221 : MethodName := ⟨"WordFunctionsModel", "stands", "([II[III)Z"⟩
def y222 : MethodName := ⟨"WordFunctionsModel", "substitute", "()V"⟩
def y223 : MethodName := ⟨"WordFunctionsModel", "take", "(I)V"⟩
def y224 : MethodName := ⟨"WordFunctionsModel", "takeOf", "(I)V"⟩
def y225 : MethodName := ⟨"WordFunctionsModel", "tellKept", "(I)V"⟩
def y226 : MethodName := ⟨"WordFunctionsModel", "textOf", "(I)V"⟩
def y227 : MethodName := ⟨"WordFunctionsModel", "textTaken", "()V"⟩
def y228 : MethodName := ⟨"WordFunctionsModel", "thrown", "()I"⟩
def y229 : MethodName := ⟨"WordFunctionsModel", "time", "()V"⟩
def y230 : MethodName := ⟨"WordFunctionsModel", "timePart", "(I)V"⟩
def y231 : MethodName := ⟨"WordFunctionsModel", "toB", "()V"⟩
def y232 : MethodName := ⟨"WordFunctionsModel", "toC", "()V"⟩
def y233 : MethodName := ⟨"WordFunctionsModel", "trim", "()V"⟩
def y234 : MethodName := ⟨"WordFunctionsModel", "truth", "(I)Z"⟩
def y235 : MethodName := ⟨"WordFunctionsModel", "truth", "(IZ)Z"⟩
def y236 : MethodName := ⟨"WordFunctionsModel", "value", "()D"⟩
def y237 : MethodName := ⟨"WordFunctionsModel", "valueAt", "(III)I"⟩
def y238 : MethodName := ⟨"WordFunctionsModel", "want", "(I)V"⟩
def y239 : MethodName := ⟨"WordFunctionsModel", "weekNumber", "()V"⟩
def y240 : MethodName := ⟨"WordFunctionsModel", "weekday", "()V"⟩
def y241 : MethodName := ⟨"WordFunctionsModel", "whole", "(I)I"⟩
def y242 : MethodName := ⟨"WordFunctionsModel", "whole", "(II)I"⟩
def y243 : MethodName := ⟨"WordFunctionsModel", "words", "(I)V"⟩
def y244 : MethodName := ⟨"WordFunctionsModel", "workDay", "()V"⟩
def y245 : MethodName := ⟨"WordFunctionsModel", "workDays", "()V"⟩
def y246 : MethodName := ⟨"WordFunctionsModel", "write", "(I)V"⟩
def y247 : MethodName := ⟨"WordFunctionsModel", "writeNumber", "(J)V"⟩
def y248 : MethodName := ⟨"WordFunctionsModel", "writeWord", "(J)V"⟩
def y249 : MethodName := ⟨"[B", "clone", "()Ljava/lang/Object;"⟩
def y250 : MethodName := ⟨"java/lang/AbstractStringBuilder", "<init>", "(I)V"⟩
def y251 : MethodName := ⟨"java/lang/AbstractStringBuilder", "append", "(C)Ljava/lang/AbstractStringBuilder;"⟩
def y252 : MethodName := ⟨"java/lang/AbstractStringBuilder", "append", "(I)Ljava/lang/AbstractStringBuilder;"⟩
def y253 : MethodName := ⟨"java/lang/AbstractStringBuilder", "append", "(Ljava/lang/String;)Ljava/lang/AbstractStringBuilder;"⟩
def y254 : MethodName := ⟨"java/lang/AbstractStringBuilder", "appendNull", "()Ljava/lang/AbstractStringBuilder;"⟩
def y255 : MethodName := ⟨"java/lang/AbstractStringBuilder", "ensureCapacityInternal", "(I)V"⟩
def y256 : MethodName := ⟨"java/lang/AbstractStringBuilder", "getValue", "()[B"⟩
def y257 : MethodName := ⟨"java/lang/AbstractStringBuilder", "inflate", "()V"⟩
def y258 : MethodName := ⟨"java/lang/AbstractStringBuilder", "inflateIfNeededFor", "(Ljava/lang/String;)V"⟩
def y259 : MethodName := ⟨"java/lang/AbstractStringBuilder", "isLatin1", "()Z"⟩
def y260 : MethodName := ⟨"java/lang/AbstractStringBuilder", "length", "()I"⟩
def y261 : MethodName := ⟨"java/lang/AbstractStringBuilder", "newCapacity", "(I)I"⟩
def y262 : MethodName := ⟨"java/lang/AbstractStringBuilder", "putStringAt", "(ILjava/lang/String;)V"⟩
def y263 : MethodName := ⟨"java/lang/AbstractStringBuilder", "reverse", "()Ljava/lang/AbstractStringBuilder;"⟩
def y264 : MethodName := ⟨"java/lang/Character", "highSurrogate", "(I)C"⟩
def y265 : MethodName := ⟨"java/lang/Character", "isHighSurrogate", "(C)Z"⟩
def y266 : MethodName := ⟨"java/lang/Character", "isLowSurrogate", "(C)Z"⟩
def y267 : MethodName := ⟨"java/lang/Character", "isSurrogate", "(C)Z"⟩
def y268 : MethodName := ⟨"java/lang/Character", "isValidCodePoint", "(I)Z"⟩
def y269 : MethodName := ⟨"java/lang/Character", "lowSurrogate", "(I)C"⟩
def y270 : MethodName := ⟨"java/lang/Exception", "<init>", "()V"⟩
def y271 : MethodName := ⟨"java/lang/Exception", "<init>", "(Ljava/lang/String;)V"⟩
def y272 : MethodName := ⟨"java/lang/IllegalArgumentException", "<init>", "(Ljava/lang/String;)V"⟩
def y273 : MethodName := ⟨"java/lang/IllegalStateException", "<init>", "(Ljava/lang/String;)V"⟩
def y274 : MethodName := ⟨"java/lang/Integer", "getChars", "(II[B)I"⟩
def y275 : MethodName := ⟨"java/lang/Integer", "stringSize", "(I)I"⟩
def y276 : MethodName := ⟨"java/lang/Math", "floorDiv", "(II)I"⟩
def y277 : MethodName := ⟨"java/lang/Math", "floorMod", "(II)I"⟩
def y278 : MethodName := ⟨"java/lang/Math", "max", "(II)I"⟩
def y279 : MethodName := ⟨"java/lang/Math", "min", "(II)I"⟩
def y280 : MethodName := ⟨"java/lang/Object", "<init>", "()V"⟩
def y281 : MethodName := ⟨"java/lang/Object", "clone", "()Ljava/lang/Object;"⟩
def y282 : MethodName := ⟨"java/lang/RuntimeException", "<init>", "()V"⟩
def y283 : MethodName := ⟨"java/lang/RuntimeException", "<init>", "(Ljava/lang/String;)V"⟩
def y284 : MethodName := ⟨"java/lang/String", "<init>", "(Ljava/lang/AbstractStringBuilder;Ljava/lang/Void;)V"⟩
def y285 : MethodName := ⟨"java/lang/String", "<init>", "(Ljava/lang/StringBuilder;)V"⟩
def y286 : MethodName := ⟨"java/lang/String", "<init>", "([BB)V"⟩
def y287 : MethodName := ⟨"java/lang/String", "charAt", "(I)C"⟩
def y288 : MethodName := ⟨"java/lang/String", "checkBoundsBeginEnd", "(III)V"⟩
def y289 : MethodName := ⟨"java/lang/String", "checkBoundsOffCount", "(III)I"⟩
def y290 : MethodName := ⟨"java/lang/String", "checkIndex", "(II)V"⟩
def y291 : MethodName := ⟨"java/lang/String", "checkOffset", "(II)V"⟩
def y292 : MethodName := ⟨"java/lang/String", "coder", "()B"⟩
def y293 : MethodName := ⟨"java/lang/String", "equals", "(Ljava/lang/Object;)Z"⟩
def y294 : MethodName := ⟨"java/lang/String", "getBytes", "([BIB)V"⟩
def y295 : MethodName := ⟨"java/lang/String", "indexOf", "(I)I"⟩
def y296 : MethodName := ⟨"java/lang/String", "indexOf", "(II)I"⟩
def y297 : MethodName := ⟨"java/lang/String", "isEmpty", "()Z"⟩
def y298 : MethodName := ⟨"java/lang/String", "isLatin1", "()Z"⟩
def y299 : MethodName := ⟨"java/lang/String", "length", "()I"⟩
def y300 : MethodName := ⟨"java/lang/String", "substring", "(II)Ljava/lang/String;"⟩
def y301 : MethodName := ⟨"java/lang/StringBuilder", "<init>", "()V"⟩
def y302 : MethodName := ⟨"java/lang/StringBuilder", "append", "(C)Ljava/lang/StringBuilder;"⟩
def y303 : MethodName := ⟨"java/lang/StringBuilder", "append", "(I)Ljava/lang/StringBuilder;"⟩
def y304 : MethodName := ⟨"java/lang/StringBuilder", "append", "(Ljava/lang/String;)Ljava/lang/StringBuilder;"⟩
def y305 : MethodName := ⟨"java/lang/StringBuilder", "length", "()I"⟩
def y306 : MethodName := ⟨"java/lang/StringBuilder", "reverse", "()Ljava/lang/StringBuilder;"⟩
def y307 : MethodName := ⟨"java/lang/StringBuilder", "toString", "()Ljava/lang/String;"⟩
def y308 : MethodName := ⟨"java/lang/StringLatin1", "canEncode", "(C)Z"⟩
def y309 : MethodName := ⟨"java/lang/StringLatin1", "canEncode", "(I)Z"⟩
def y310 : MethodName := ⟨"java/lang/StringLatin1", "charAt", "([BI)C"⟩
def y311 : MethodName := ⟨"java/lang/StringLatin1", "equals", "([B[B)Z"⟩
def y312 : MethodName := ⟨"java/lang/StringLatin1", "indexOf", "([BIII)I"⟩
def y313 : MethodName := ⟨"java/lang/StringLatin1", "indexOfChar", "([BIII)I"⟩
def y314 : MethodName := ⟨"java/lang/StringLatin1", "inflate", "([BI[BII)V"⟩
def y315 : MethodName := ⟨"java/lang/StringLatin1", "newString", "([BII)Ljava/lang/String;"⟩
def y316 : MethodName := ⟨"java/lang/StringUTF16", "charAt", "([BI)C"⟩
def y317 : MethodName := ⟨"java/lang/StringUTF16", "checkBoundsBeginEnd", "(II[B)V"⟩
def y318 : MethodName := ⟨"java/lang/StringUTF16", "checkBoundsOffCount", "(II[B)V"⟩
def y319 : MethodName := ⟨"java/lang/StringUTF16", "checkIndex", "(I[B)V"⟩
def y320 : MethodName := ⟨"java/lang/StringUTF16", "checkOffset", "(I[B)V"⟩
def y321 : MethodName := ⟨"java/lang/StringUTF16", "coderFromArrayLen", "([BI)B"⟩
def y322 : MethodName := ⟨"java/lang/StringUTF16", "compress", "([BII)[B"⟩
def y323 : MethodName := ⟨"java/lang/StringUTF16", "compress", "([BI[BII)I"⟩
def y324 : MethodName := ⟨"java/lang/StringUTF16", "getChar", "([BI)C"⟩
def y325 : MethodName := ⟨"java/lang/StringUTF16", "getChars", "(III[B)I"⟩
def y326 : MethodName := ⟨"java/lang/StringUTF16", "getChars", "(II[B)I"⟩
def y327 : MethodName := ⟨"java/lang/StringUTF16", "indexOf", "([BIII)I"⟩
def y328 : MethodName := ⟨"java/lang/StringUTF16", "indexOfChar", "([BIII)I"⟩
def y329 : MethodName := ⟨"java/lang/StringUTF16", "indexOfCharUnsafe", "([BIII)I"⟩
def y330 : MethodName := ⟨"java/lang/StringUTF16", "indexOfSupplementary", "([BIII)I"⟩
def y331 : MethodName := ⟨"java/lang/StringUTF16", "inflate", "([BI[BII)V"⟩
def y332 : MethodName := ⟨"java/lang/StringUTF16", "length", "([B)I"⟩
def y333 : MethodName := ⟨"java/lang/StringUTF16", "newBytesFor", "(I)[B"⟩
def y334 : MethodName := ⟨"java/lang/StringUTF16", "newBytesLength", "(I)I"⟩
def y335 : MethodName := ⟨"java/lang/StringUTF16", "newString", "([BII)Ljava/lang/String;"⟩
def y336 : MethodName := ⟨"java/lang/StringUTF16", "putChar", "([BII)V"⟩
def y337 : MethodName := ⟨"java/lang/StringUTF16", "putCharSB", "([BII)V"⟩
def y338 : MethodName := ⟨"java/lang/StringUTF16", "putCharsAt", "([BICCCC)I"⟩
def y339 : MethodName := ⟨"java/lang/StringUTF16", "reverse", "([BI)V"⟩
def y340 : MethodName := ⟨"java/lang/StringUTF16", "reverseAllValidSurrogatePairs", "([BI)V"⟩
def y341 : MethodName := ⟨"java/lang/System", "arraycopy", "(Ljava/lang/Object;ILjava/lang/Object;II)V"⟩
def y342 : MethodName := ⟨"java/lang/Throwable", "<init>", "()V"⟩
def y343 : MethodName := ⟨"java/lang/Throwable", "<init>", "(Ljava/lang/String;)V"⟩
def y344 : MethodName := ⟨"java/lang/Throwable", "fillInStackTrace", "()Ljava/lang/Throwable;"⟩
def y345 : MethodName := ⟨"java/lang/Throwable", "fillInStackTrace", "(I)Ljava/lang/Throwable;"⟩
def y346 : MethodName := ⟨"java/util/Arrays", "checkLength", "(II)V"⟩
def y347 : MethodName := ⟨"java/util/Arrays", "copyOf", "([BI)[B"⟩
def y348 : MethodName := ⟨"java/util/Arrays", "copyOfRange", "([BII)[B"⟩
def y349 : MethodName := ⟨"java/util/Arrays", "copyOfRangeByte", "([BII)[B"⟩
def y350 : MethodName := ⟨"jdk/internal/util/ArraysSupport", "hugeLength", "(II)I"⟩
def y351 : MethodName := ⟨"jdk/internal/util/ArraysSupport", "newLength", "(III)I"⟩
def y352 : MethodName := ⟨"jdk/internal/util/Preconditions", "checkFromIndexSize", "(IIILjava/util/function/BiFunction;)I"⟩
def y353 : MethodName := ⟨"jdk/internal/util/Preconditions", "checkFromToIndex", "(IIILjava/util/function/BiFunction;)I"⟩
def y354 : MethodName := ⟨"jdk/internal/util/Preconditions", "checkIndex", "(IILjava/util/function/BiFunction;)I"⟩
def XTR : List Cond := [Cond.selects "java/lang/StringBuilder" y254 y254, Cond.selects "java/lang/StringBuilder" y255 y255, Cond.selects "java/lang/StringBuilder" y257 y257, Cond.selects "java/lang/StringBuilder" y258 y258, Cond.selects "java/lang/StringBuilder" y261 y261, Cond.selects "java/lang/StringBuilder" y262 y262]
def TG : List Cond := XTR ++ lw_tbl.filter goodWord
theorem tg_in {w : Cond} (h : w ∈ lw_tbl) (hg : goodWord w = true) : w ∈ TG := List.mem_append_right _ (List.mem_filter.mpr ⟨h, hg⟩)
theorem tg_good {w : Cond} (h : w ∈ TG) : goodWord w = true := by
  rcases List.mem_append.mp h with g | g
  · have key : ∀ v ∈ XTR, goodWord v = true := by decide
    exact key w g
  · exact (List.mem_filter.mp g).2
theorem sx254 : Cond.selects "java/lang/StringBuilder" y254 y254 ∈ TG := List.mem_append_left _ (List.mem_of_getElem? (i := 0) rfl)
theorem sx255 : Cond.selects "java/lang/StringBuilder" y255 y255 ∈ TG := List.mem_append_left _ (List.mem_of_getElem? (i := 1) rfl)
theorem sx257 : Cond.selects "java/lang/StringBuilder" y257 y257 ∈ TG := List.mem_append_left _ (List.mem_of_getElem? (i := 2) rfl)
theorem sx258 : Cond.selects "java/lang/StringBuilder" y258 y258 ∈ TG := List.mem_append_left _ (List.mem_of_getElem? (i := 3) rfl)
theorem sx261 : Cond.selects "java/lang/StringBuilder" y261 y261 ∈ TG := List.mem_append_left _ (List.mem_of_getElem? (i := 4) rfl)
theorem sx262 : Cond.selects "java/lang/StringBuilder" y262 y262 ∈ TG := List.mem_append_left _ (List.mem_of_getElem? (i := 5) rfl)
theorem wd0 : (Cond.initialized "WordFunctionsLaw") ∈ TG := tg_in (tt1 (List.mem_of_getElem? (i := 0) rfl)) rfl
theorem wd1 : (Cond.initialized "WordFunctions") ∈ TG := tg_in (tt1 (List.mem_of_getElem? (i := 1) rfl)) rfl
theorem wd2 : (Cond.initialized "WordFunctions$Pattern") ∈ TG := tg_in (tt1 (List.mem_of_getElem? (i := 2) rfl)) rfl
theorem wd3 : (Cond.initialized "WordFunctions$Arguments") ∈ TG := tg_in (tt1 (List.mem_of_getElem? (i := 3) rfl)) rfl
theorem wd4 : (Cond.initialized "WordFunctions$Value") ∈ TG := tg_in (tt1 (List.mem_of_getElem? (i := 4) rfl)) rfl
theorem wd5 : (Cond.initialized "WordFunctions$Grid") ∈ TG := tg_in (tt1 (List.mem_of_getElem? (i := 5) rfl)) rfl
theorem wd6 : (Cond.initialized "WordFunctions$Answer") ∈ TG := tg_in (tt1 (List.mem_of_getElem? (i := 6) rfl)) rfl
theorem wd7 : (Cond.initialized "WordFunctions$Texts") ∈ TG := tg_in (tt1 (List.mem_of_getElem? (i := 7) rfl)) rfl
theorem wd8 : (Cond.initialized "WordFunctions$LookUps") ∈ TG := tg_in (tt1 (List.mem_of_getElem? (i := 8) rfl)) rfl
theorem wd9 : (Cond.initialized "WordFunctions$Dates") ∈ TG := tg_in (tt1 (List.mem_of_getElem? (i := 9) rfl)) rfl
theorem wd10 : (Cond.initialized "WordFunctions$Kinds") ∈ TG := tg_in (tt1 (List.mem_of_getElem? (i := 10) rfl)) rfl
theorem wd11 : (Cond.initialized "WordFunctionsModel") ∈ TG := tg_in (tt1 (List.mem_of_getElem? (i := 11) rfl)) rfl
theorem wd12 : (Cond.initialized "java/lang/AbstractStringBuilder") ∈ TG := tg_in (tt1 (List.mem_of_getElem? (i := 12) rfl)) rfl
theorem wd13 : (Cond.initialized "java/lang/StringBuilder") ∈ TG := tg_in (tt1 (List.mem_of_getElem? (i := 13) rfl)) rfl
theorem wd14 : (Cond.initialized "java/lang/String") ∈ TG := tg_in (tt1 (List.mem_of_getElem? (i := 14) rfl)) rfl
theorem wd15 : (Cond.initialized "java/lang/StringUTF16") ∈ TG := tg_in (tt1 (List.mem_of_getElem? (i := 15) rfl)) rfl
theorem wd16 : (Cond.initialized "jdk/internal/util/ArraysSupport") ∈ TG := tg_in (tt1 (List.mem_of_getElem? (i := 16) rfl)) rfl
theorem wd17 : (Cond.initialized "java/lang/Math") ∈ TG := tg_in (tt1 (List.mem_of_getElem? (i := 17) rfl)) rfl
theorem wd18 : (Cond.initialized "java/util/Arrays") ∈ TG := tg_in (tt1 (List.mem_of_getElem? (i := 18) rfl)) rfl
theorem wd19 : (Cond.initialized "java/lang/System") ∈ TG := tg_in (tt1 (List.mem_of_getElem? (i := 19) rfl)) rfl
theorem wd20 : (Cond.initialized "java/lang/StringLatin1") ∈ TG := tg_in (tt1 (List.mem_of_getElem? (i := 20) rfl)) rfl
theorem wd21 : (Cond.initialized "jdk/internal/util/Preconditions") ∈ TG := tg_in (tt1 (List.mem_of_getElem? (i := 21) rfl)) rfl
theorem wd22 : (Cond.initialized "java/lang/Throwable") ∈ TG := tg_in (tt1 (List.mem_of_getElem? (i := 22) rfl)) rfl
theorem wd23 : (Cond.initialized "java/lang/Exception") ∈ TG := tg_in (tt1 (List.mem_of_getElem? (i := 23) rfl)) rfl
theorem wd24 : (Cond.initialized "java/lang/RuntimeException") ∈ TG := tg_in (tt1 (List.mem_of_getElem? (i := 24) rfl)) rfl
theorem wd25 : (Cond.initialized "java/lang/IllegalArgumentException") ∈ TG := tg_in (tt1 (List.mem_of_getElem? (i := 25) rfl)) rfl
theorem wd26 : (Cond.initialized "java/lang/Integer") ∈ TG := tg_in (tt1 (List.mem_of_getElem? (i := 26) rfl)) rfl
theorem wd27 : (Cond.initialized "java/lang/IllegalStateException") ∈ TG := tg_in (tt1 (List.mem_of_getElem? (i := 27) rfl)) rfl
theorem wd28 : (Cond.initialized "java/lang/Character") ∈ TG := tg_in (tt1 (List.mem_of_getElem? (i := 28) rfl)) rfl
theorem wd29 : (Cond.initialized "WordFunctions$Calendar") ∈ TG := tg_in (tt1 (List.mem_of_getElem? (i := 29) rfl)) rfl
theorem wd30 : (Cond.classLink "WordFunctionsLaw" 8 "WordFunctions") ∈ TG := tg_in (tt1 (List.mem_of_getElem? (i := 30) rfl)) rfl
theorem wd31 : (Cond.instantiable "WordFunctions" 9) ∈ TG := tg_in (tt1 (List.mem_of_getElem? (i := 31) rfl)) rfl
theorem wd32 : (Cond.methodLink "WordFunctionsLaw" 21 y0) ∈ TG := tg_in (tt1 (List.mem_of_getElem? (i := 32) rfl)) rfl
theorem wd33 : (Cond.instanceMethod y0) ∈ TG := tg_in (tt1 (List.mem_of_getElem? (i := 33) rfl)) rfl
theorem wd34 : (Cond.code y0 prog_1_method_1_code 2 (Option.none : Option FieldType)) ∈ TG := tg_in (tt1 (List.mem_of_getElem? (i := 34) rfl)) rfl
theorem wd35 : (Cond.methodLink "WordFunctions" 1 y280) ∈ TG := tg_in (tt1 (List.mem_of_getElem? (i := 35) rfl)) rfl
theorem wd36 : (Cond.instanceMethod y280) ∈ TG := tg_in (tt1 (List.mem_of_getElem? (i := 36) rfl)) rfl
theorem wd37 : (Cond.code y280 object_method_1_code 1 (Option.none : Option FieldType)) ∈ TG := tg_in (tt1 (List.mem_of_getElem? (i := 37) rfl)) rfl
theorem wd38 : (Cond.stringRef "WordFunctions" 13 "") ∈ lw_tbl := tt1 (List.mem_of_getElem? (i := 38) rfl)
theorem wd39 : (Cond.classLink "WordFunctions" 19 "WordFunctions$Pattern") ∈ TG := tg_in (tt1 (List.mem_of_getElem? (i := 39) rfl)) rfl
theorem wd40 : (Cond.instantiable "WordFunctions$Pattern" 3) ∈ TG := tg_in (tt1 (List.mem_of_getElem? (i := 40) rfl)) rfl
theorem wd41 : (Cond.methodLinkNest "WordFunctions" 21 y101 "WordFunctions") ∈ lw_tbl := tt1 (List.mem_of_getElem? (i := 41) rfl)
theorem wd42 : (Cond.instanceMethod y101) ∈ TG := tg_in (tt1 (List.mem_of_getElem? (i := 42) rfl)) rfl
theorem wd43 : (Cond.code y101 prog_9_method_1_code 1 (Option.none : Option FieldType)) ∈ TG := tg_in (tt1 (List.mem_of_getElem? (i := 43) rfl)) rfl
theorem wd44 : (Cond.methodLink "WordFunctions$Pattern" 3 y280) ∈ TG := tg_in (tt1 (List.mem_of_getElem? (i := 44) rfl)) rfl
theorem wd45 : (Cond.fieldLink "WordFunctions$Pattern" 9 "WordFunctions$Pattern" "signs" "[I") ∈ TG := tg_in (tt1 (List.mem_of_getElem? (i := 45) rfl)) rfl
theorem wd46 : (Cond.fieldLink "WordFunctions$Pattern" 19 "WordFunctions$Pattern" "count" "I") ∈ TG := tg_in (tt1 (List.mem_of_getElem? (i := 46) rfl)) rfl
theorem wd47 : (Cond.fieldLink "WordFunctions$Pattern" 15 "WordFunctions$Pattern" "matched" "[Z") ∈ TG := tg_in (tt1 (List.mem_of_getElem? (i := 47) rfl)) rfl
theorem wd48 : (Cond.laysFinal "WordFunctions$Pattern" "WordFunctions$Pattern" "signs" "[I") ∈ TG := tg_in (tt1 (List.mem_of_getElem? (i := 48) rfl)) rfl
theorem wd49 : (Cond.soleField "WordFunctions$Pattern" "signs") ∈ TG := tg_in (tt1 (List.mem_of_getElem? (i := 49) rfl)) rfl
theorem wd50 : (Cond.lays "WordFunctions$Pattern" "WordFunctions$Pattern" "count" "I") ∈ TG := tg_in (tt1 (List.mem_of_getElem? (i := 50) rfl)) rfl
theorem wd51 : (Cond.soleField "WordFunctions$Pattern" "count") ∈ TG := tg_in (tt1 (List.mem_of_getElem? (i := 51) rfl)) rfl
theorem wd52 : (Cond.laysFinal "WordFunctions$Pattern" "WordFunctions$Pattern" "matched" "[Z") ∈ TG := tg_in (tt1 (List.mem_of_getElem? (i := 52) rfl)) rfl
theorem wd53 : (Cond.soleField "WordFunctions$Pattern" "matched") ∈ TG := tg_in (tt1 (List.mem_of_getElem? (i := 53) rfl)) rfl
theorem wd54 : (Cond.superclass "WordFunctions$Pattern" "java/lang/Object") ∈ TG := tg_in (tt1 (List.mem_of_getElem? (i := 54) rfl)) rfl
theorem wd55 : (Cond.arrayClass FieldType.char) ∈ TG := tg_in (tt1 (List.mem_of_getElem? (i := 55) rfl)) rfl
theorem wd56 : (Cond.arrayClass FieldType.byte) ∈ TG := tg_in (tt1 (List.mem_of_getElem? (i := 56) rfl)) rfl
theorem wd57 : (Cond.arrayClass FieldType.int) ∈ TG := tg_in (tt1 (List.mem_of_getElem? (i := 57) rfl)) rfl
theorem wd58 : (Cond.arrayClass FieldType.boolean) ∈ TG := tg_in (tt1 (List.mem_of_getElem? (i := 58) rfl)) rfl
theorem wd59 : (Cond.classLink "WordFunctions" 22 "WordFunctions$Arguments") ∈ TG := tg_in (tt1 (List.mem_of_getElem? (i := 59) rfl)) rfl
theorem wd60 : (Cond.instantiable "WordFunctions$Arguments" 9) ∈ TG := tg_in (tt1 (List.mem_of_getElem? (i := 60) rfl)) rfl
theorem wd61 : (Cond.methodLink "WordFunctions" 24 y28) ∈ TG := tg_in (tt1 (List.mem_of_getElem? (i := 61) rfl)) rfl
theorem wd62 : (Cond.instanceMethod y28) ∈ TG := tg_in (tt1 (List.mem_of_getElem? (i := 62) rfl)) rfl
theorem wd63 : (Cond.code y28 prog_3_method_1_code 2 (Option.none : Option FieldType)) ∈ TG := tg_in (tt1 (List.mem_of_getElem? (i := 63) rfl)) rfl
theorem wd64 : (Cond.methodLink "WordFunctions$Arguments" 3 y280) ∈ TG := tg_in (tt1 (List.mem_of_getElem? (i := 64) rfl)) rfl
theorem wd65 : (Cond.methodLink "WordFunctions$Arguments" 9 y130) ∈ TG := tg_in (tt1 (List.mem_of_getElem? (i := 65) rfl)) rfl
theorem wd66 : (Cond.static y130) ∈ TG := tg_in (tt1 (List.mem_of_getElem? (i := 66) rfl)) rfl
theorem wd67 : (Cond.code y130 prog_11_method_2_code 0 (Option.some (FieldType.object "WordFunctions$Value"))) ∈ TG := tg_in (tt1 (List.mem_of_getElem? (i := 67) rfl)) rfl
theorem wd68 : (Cond.classLink "WordFunctions$Value" 10 "WordFunctions$Value") ∈ TG := tg_in (tt1 (List.mem_of_getElem? (i := 68) rfl)) rfl
theorem wd69 : (Cond.instantiable "WordFunctions$Value" 3) ∈ TG := tg_in (tt1 (List.mem_of_getElem? (i := 69) rfl)) rfl
theorem wd70 : (Cond.stringRef "WordFunctions$Value" 23 "") ∈ lw_tbl := tt1 (List.mem_of_getElem? (i := 70) rfl)
theorem wd71 : (Cond.methodLink "WordFunctions$Value" 25 y129) ∈ TG := tg_in (tt1 (List.mem_of_getElem? (i := 71) rfl)) rfl
theorem wd72 : (Cond.instanceMethod y129) ∈ TG := tg_in (tt1 (List.mem_of_getElem? (i := 72) rfl)) rfl
theorem wd73 : (Cond.code y129 prog_11_method_1_code 5 (Option.none : Option FieldType)) ∈ TG := tg_in (tt1 (List.mem_of_getElem? (i := 73) rfl)) rfl
theorem wd74 : (Cond.methodLink "WordFunctions$Value" 3 y280) ∈ TG := tg_in (tt1 (List.mem_of_getElem? (i := 74) rfl)) rfl
theorem wd75 : (Cond.fieldLink "WordFunctions$Value" 9 "WordFunctions$Value" "kind" "I") ∈ TG := tg_in (tt1 (List.mem_of_getElem? (i := 75) rfl)) rfl
theorem wd76 : (Cond.fieldLink "WordFunctions$Kinds" 21 "WordFunctions$Value" "kind" "I") ∈ TG := tg_in (tt1 (List.mem_of_getElem? (i := 76) rfl)) rfl
theorem wd77 : (Cond.fieldLink "WordFunctions$LookUps" 55 "WordFunctions$Value" "kind" "I") ∈ TG := tg_in (tt1 (List.mem_of_getElem? (i := 77) rfl)) rfl
theorem wd78 : (Cond.fieldLink "WordFunctions" 186 "WordFunctions$Value" "kind" "I") ∈ TG := tg_in (tt1 (List.mem_of_getElem? (i := 78) rfl)) rfl
theorem wd79 : (Cond.fieldLink "WordFunctions$Arguments" 94 "WordFunctions$Value" "kind" "I") ∈ TG := tg_in (tt1 (List.mem_of_getElem? (i := 79) rfl)) rfl
theorem wd80 : (Cond.fieldLink "WordFunctions$Dates" 171 "WordFunctions$Value" "kind" "I") ∈ TG := tg_in (tt1 (List.mem_of_getElem? (i := 80) rfl)) rfl
theorem wd81 : (Cond.fieldLink "WordFunctions$Value" 15 "WordFunctions$Value" "number" "D") ∈ TG := tg_in (tt1 (List.mem_of_getElem? (i := 81) rfl)) rfl
theorem wd82 : (Cond.fieldLink "WordFunctions$Kinds" 27 "WordFunctions$Value" "number" "D") ∈ TG := tg_in (tt1 (List.mem_of_getElem? (i := 82) rfl)) rfl
theorem wd83 : (Cond.fieldLink "WordFunctions$LookUps" 59 "WordFunctions$Value" "number" "D") ∈ TG := tg_in (tt1 (List.mem_of_getElem? (i := 83) rfl)) rfl
theorem wd84 : (Cond.fieldLink "WordFunctions$Arguments" 97 "WordFunctions$Value" "number" "D") ∈ TG := tg_in (tt1 (List.mem_of_getElem? (i := 84) rfl)) rfl
theorem wd85 : (Cond.fieldLink "WordFunctions" 214 "WordFunctions$Value" "number" "D") ∈ TG := tg_in (tt1 (List.mem_of_getElem? (i := 85) rfl)) rfl
theorem wd86 : (Cond.fieldLink "WordFunctions$Dates" 174 "WordFunctions$Value" "number" "D") ∈ TG := tg_in (tt1 (List.mem_of_getElem? (i := 86) rfl)) rfl
theorem wd87 : (Cond.fieldLink "WordFunctions$Value" 19 "WordFunctions$Value" "text" "Ljava/lang/String;") ∈ TG := tg_in (tt1 (List.mem_of_getElem? (i := 87) rfl)) rfl
theorem wd88 : (Cond.fieldLink "WordFunctions$LookUps" 67 "WordFunctions$Value" "text" "Ljava/lang/String;") ∈ TG := tg_in (tt1 (List.mem_of_getElem? (i := 88) rfl)) rfl
theorem wd89 : (Cond.fieldLink "WordFunctions" 205 "WordFunctions$Value" "text" "Ljava/lang/String;") ∈ TG := tg_in (tt1 (List.mem_of_getElem? (i := 89) rfl)) rfl
theorem wd90 : (Cond.fieldLink "WordFunctions$Arguments" 105 "WordFunctions$Value" "text" "Ljava/lang/String;") ∈ TG := tg_in (tt1 (List.mem_of_getElem? (i := 90) rfl)) rfl
theorem wd91 : (Cond.laysFinal "WordFunctions$Value" "WordFunctions$Value" "kind" "I") ∈ TG := tg_in (tt1 (List.mem_of_getElem? (i := 91) rfl)) rfl
theorem wd92 : (Cond.soleField "WordFunctions$Value" "kind") ∈ TG := tg_in (tt1 (List.mem_of_getElem? (i := 92) rfl)) rfl
theorem wd93 : (Cond.laysFinal "WordFunctions$Value" "WordFunctions$Value" "number" "D") ∈ TG := tg_in (tt1 (List.mem_of_getElem? (i := 93) rfl)) rfl
theorem wd94 : (Cond.soleField "WordFunctions$Value" "number") ∈ TG := tg_in (tt1 (List.mem_of_getElem? (i := 94) rfl)) rfl
theorem wd95 : (Cond.laysFinal "WordFunctions$Value" "WordFunctions$Value" "text" "Ljava/lang/String;") ∈ TG := tg_in (tt1 (List.mem_of_getElem? (i := 95) rfl)) rfl
theorem wd96 : (Cond.soleField "WordFunctions$Value" "text") ∈ TG := tg_in (tt1 (List.mem_of_getElem? (i := 96) rfl)) rfl
theorem wd97 : (Cond.superclass "WordFunctions$Value" "java/lang/Object") ∈ TG := tg_in (tt1 (List.mem_of_getElem? (i := 97) rfl)) rfl
theorem wd98 : (Cond.classLink "WordFunctions$Arguments" 21 "WordFunctions$Grid") ∈ TG := tg_in (tt1 (List.mem_of_getElem? (i := 98) rfl)) rfl
theorem wd99 : (Cond.instantiable "WordFunctions$Grid" 6) ∈ TG := tg_in (tt1 (List.mem_of_getElem? (i := 99) rfl)) rfl
theorem wd100 : (Cond.methodLinkNest "WordFunctions$Arguments" 23 y83 "WordFunctions") ∈ lw_tbl := tt1 (List.mem_of_getElem? (i := 100) rfl)
theorem wd101 : (Cond.instanceMethod y83) ∈ TG := tg_in (tt1 (List.mem_of_getElem? (i := 101) rfl)) rfl
theorem wd102 : (Cond.code y83 prog_6_method_1_code 1 (Option.none : Option FieldType)) ∈ TG := tg_in (tt1 (List.mem_of_getElem? (i := 102) rfl)) rfl
theorem wd103 : (Cond.methodLink "WordFunctions$Grid" 1 y280) ∈ TG := tg_in (tt1 (List.mem_of_getElem? (i := 103) rfl)) rfl
theorem wd104 : (Cond.fieldLink "WordFunctions$Arguments" 49 "WordFunctions$Grid" "rows" "I") ∈ TG := tg_in (tt1 (List.mem_of_getElem? (i := 104) rfl)) rfl
theorem wd105 : (Cond.fieldLink "WordFunctions$Arguments" 52 "WordFunctions$Grid" "columns" "I") ∈ TG := tg_in (tt1 (List.mem_of_getElem? (i := 105) rfl)) rfl
theorem wd106 : (Cond.fieldLink "WordFunctions$Arguments" 55 "WordFunctions$Grid" "first" "I") ∈ TG := tg_in (tt1 (List.mem_of_getElem? (i := 106) rfl)) rfl
theorem wd107 : (Cond.fieldLink "WordFunctions$Arguments" 58 "WordFunctions$Grid" "isRange" "Z") ∈ TG := tg_in (tt1 (List.mem_of_getElem? (i := 107) rfl)) rfl
theorem wd108 : (Cond.fieldLink "WordFunctions$LookUps" 173 "WordFunctions$Grid" "isRange" "Z") ∈ TG := tg_in (tt1 (List.mem_of_getElem? (i := 108) rfl)) rfl
theorem wd109 : (Cond.fieldLink "WordFunctions$Arguments" 70 "WordFunctions$Grid" "sheetRow" "I") ∈ TG := tg_in (tt1 (List.mem_of_getElem? (i := 109) rfl)) rfl
theorem wd110 : (Cond.fieldLink "WordFunctions$LookUps" 182 "WordFunctions$Grid" "sheetRow" "I") ∈ TG := tg_in (tt1 (List.mem_of_getElem? (i := 110) rfl)) rfl
theorem wd111 : (Cond.fieldLink "WordFunctions$Arguments" 73 "WordFunctions$Grid" "sheetColumn" "I") ∈ TG := tg_in (tt1 (List.mem_of_getElem? (i := 111) rfl)) rfl
theorem wd112 : (Cond.fieldLink "WordFunctions$LookUps" 179 "WordFunctions$Grid" "sheetColumn" "I") ∈ TG := tg_in (tt1 (List.mem_of_getElem? (i := 112) rfl)) rfl
theorem wd113 : (Cond.lays "WordFunctions$Grid" "WordFunctions$Grid" "rows" "I") ∈ TG := tg_in (tt1 (List.mem_of_getElem? (i := 113) rfl)) rfl
theorem wd114 : (Cond.soleField "WordFunctions$Grid" "rows") ∈ TG := tg_in (tt1 (List.mem_of_getElem? (i := 114) rfl)) rfl
theorem wd115 : (Cond.lays "WordFunctions$Grid" "WordFunctions$Grid" "columns" "I") ∈ TG := tg_in (tt1 (List.mem_of_getElem? (i := 115) rfl)) rfl
theorem wd116 : (Cond.soleField "WordFunctions$Grid" "columns") ∈ TG := tg_in (tt1 (List.mem_of_getElem? (i := 116) rfl)) rfl
theorem wd117 : (Cond.lays "WordFunctions$Grid" "WordFunctions$Grid" "first" "I") ∈ TG := tg_in (tt1 (List.mem_of_getElem? (i := 117) rfl)) rfl
theorem wd118 : (Cond.soleField "WordFunctions$Grid" "first") ∈ TG := tg_in (tt1 (List.mem_of_getElem? (i := 118) rfl)) rfl
theorem wd119 : (Cond.lays "WordFunctions$Grid" "WordFunctions$Grid" "isRange" "Z") ∈ TG := tg_in (tt1 (List.mem_of_getElem? (i := 119) rfl)) rfl
theorem wd120 : (Cond.soleField "WordFunctions$Grid" "isRange") ∈ TG := tg_in (tt1 (List.mem_of_getElem? (i := 120) rfl)) rfl
theorem wd121 : (Cond.lays "WordFunctions$Grid" "WordFunctions$Grid" "sheetRow" "I") ∈ TG := tg_in (tt1 (List.mem_of_getElem? (i := 121) rfl)) rfl
theorem wd122 : (Cond.soleField "WordFunctions$Grid" "sheetRow") ∈ TG := tg_in (tt1 (List.mem_of_getElem? (i := 122) rfl)) rfl
theorem wd123 : (Cond.lays "WordFunctions$Grid" "WordFunctions$Grid" "sheetColumn" "I") ∈ TG := tg_in (tt1 (List.mem_of_getElem? (i := 123) rfl)) rfl
theorem wd124 : (Cond.soleField "WordFunctions$Grid" "sheetColumn") ∈ TG := tg_in (tt1 (List.mem_of_getElem? (i := 124) rfl)) rfl
theorem wd125 : (Cond.superclass "WordFunctions$Grid" "java/lang/Object") ∈ TG := tg_in (tt1 (List.mem_of_getElem? (i := 125) rfl)) rfl
theorem wd126 : (Cond.classLink "WordFunctions$Arguments" 10 "WordFunctions$Value") ∈ TG := tg_in (tt1 (List.mem_of_getElem? (i := 126) rfl)) rfl
theorem wd127 : (Cond.arrayOver (FieldType.object "WordFunctions$Value")) ∈ lw_tbl := tt1 (List.mem_of_getElem? (i := 127) rfl)
theorem wd128 : (Cond.arrayOver (FieldType.object "WordFunctions$Grid")) ∈ lw_tbl := tt1 (List.mem_of_getElem? (i := 128) rfl)
theorem wd129 : (Cond.fieldLink "WordFunctions$Arguments" 15 "WordFunctions$Arguments" "empty" "LWordFunctions$Value;") ∈ TG := tg_in (tt1 (List.mem_of_getElem? (i := 129) rfl)) rfl
theorem wd130 : (Cond.fieldLink "WordFunctions$Arguments" 24 "WordFunctions$Arguments" "absent" "LWordFunctions$Grid;") ∈ TG := tg_in (tt1 (List.mem_of_getElem? (i := 130) rfl)) rfl
theorem wd131 : (Cond.fieldLink "WordFunctions$Arguments" 28 "WordFunctions$Arguments" "values" "[LWordFunctions$Value;") ∈ TG := tg_in (tt1 (List.mem_of_getElem? (i := 131) rfl)) rfl
theorem wd132 : (Cond.fieldLink "WordFunctions$Arguments" 32 "WordFunctions$Arguments" "grids" "[LWordFunctions$Grid;") ∈ TG := tg_in (tt1 (List.mem_of_getElem? (i := 132) rfl)) rfl
theorem wd133 : (Cond.fieldLink "WordFunctions$Arguments" 46 "WordFunctions$Arguments" "used" "I") ∈ TG := tg_in (tt1 (List.mem_of_getElem? (i := 133) rfl)) rfl
theorem wd134 : (Cond.fieldLink "WordFunctions$Arguments" 43 "WordFunctions$Arguments" "count" "I") ∈ TG := tg_in (tt1 (List.mem_of_getElem? (i := 134) rfl)) rfl
theorem wd135 : (Cond.fieldLink "WordFunctions" 147 "WordFunctions$Arguments" "count" "I") ∈ TG := tg_in (tt1 (List.mem_of_getElem? (i := 135) rfl)) rfl
theorem wd136 : (Cond.fieldLink "WordFunctions$Texts" 172 "WordFunctions$Arguments" "count" "I") ∈ TG := tg_in (tt1 (List.mem_of_getElem? (i := 136) rfl)) rfl
theorem wd137 : (Cond.fieldLink "WordFunctions$Dates" 100 "WordFunctions$Arguments" "fault" "I") ∈ TG := tg_in (tt1 (List.mem_of_getElem? (i := 137) rfl)) rfl
theorem wd138 : (Cond.fieldLink "WordFunctions$LookUps" 147 "WordFunctions$Arguments" "fault" "I") ∈ TG := tg_in (tt1 (List.mem_of_getElem? (i := 138) rfl)) rfl
theorem wd139 : (Cond.fieldLink "WordFunctions" 155 "WordFunctions$Arguments" "fault" "I") ∈ TG := tg_in (tt1 (List.mem_of_getElem? (i := 139) rfl)) rfl
theorem wd140 : (Cond.fieldLink "WordFunctions$Arguments" 91 "WordFunctions$Arguments" "fault" "I") ∈ TG := tg_in (tt1 (List.mem_of_getElem? (i := 140) rfl)) rfl
theorem wd141 : (Cond.fieldLink "WordFunctions$Arguments" 36 "WordFunctions$Arguments" "homeRow" "I") ∈ TG := tg_in (tt1 (List.mem_of_getElem? (i := 141) rfl)) rfl
theorem wd142 : (Cond.fieldLink "WordFunctions" 91 "WordFunctions$Arguments" "homeRow" "I") ∈ TG := tg_in (tt1 (List.mem_of_getElem? (i := 142) rfl)) rfl
theorem wd143 : (Cond.fieldLink "WordFunctions$LookUps" 166 "WordFunctions$Arguments" "homeRow" "I") ∈ TG := tg_in (tt1 (List.mem_of_getElem? (i := 143) rfl)) rfl
theorem wd144 : (Cond.fieldLink "WordFunctions$Arguments" 40 "WordFunctions$Arguments" "homeColumn" "I") ∈ TG := tg_in (tt1 (List.mem_of_getElem? (i := 144) rfl)) rfl
theorem wd145 : (Cond.fieldLink "WordFunctions" 94 "WordFunctions$Arguments" "homeColumn" "I") ∈ TG := tg_in (tt1 (List.mem_of_getElem? (i := 145) rfl)) rfl
theorem wd146 : (Cond.fieldLink "WordFunctions$LookUps" 163 "WordFunctions$Arguments" "homeColumn" "I") ∈ TG := tg_in (tt1 (List.mem_of_getElem? (i := 146) rfl)) rfl
theorem wd147 : (Cond.laysFinal "WordFunctions$Arguments" "WordFunctions$Arguments" "empty" "LWordFunctions$Value;") ∈ TG := tg_in (tt1 (List.mem_of_getElem? (i := 147) rfl)) rfl
theorem wd148 : (Cond.soleField "WordFunctions$Arguments" "empty") ∈ TG := tg_in (tt1 (List.mem_of_getElem? (i := 148) rfl)) rfl
theorem wd149 : (Cond.laysFinal "WordFunctions$Arguments" "WordFunctions$Arguments" "absent" "LWordFunctions$Grid;") ∈ TG := tg_in (tt1 (List.mem_of_getElem? (i := 149) rfl)) rfl
theorem wd150 : (Cond.soleField "WordFunctions$Arguments" "absent") ∈ TG := tg_in (tt1 (List.mem_of_getElem? (i := 150) rfl)) rfl
theorem wd151 : (Cond.laysFinal "WordFunctions$Arguments" "WordFunctions$Arguments" "values" "[LWordFunctions$Value;") ∈ TG := tg_in (tt1 (List.mem_of_getElem? (i := 151) rfl)) rfl
theorem wd152 : (Cond.soleField "WordFunctions$Arguments" "values") ∈ TG := tg_in (tt1 (List.mem_of_getElem? (i := 152) rfl)) rfl
theorem wd153 : (Cond.laysFinal "WordFunctions$Arguments" "WordFunctions$Arguments" "grids" "[LWordFunctions$Grid;") ∈ TG := tg_in (tt1 (List.mem_of_getElem? (i := 153) rfl)) rfl
theorem wd154 : (Cond.soleField "WordFunctions$Arguments" "grids") ∈ TG := tg_in (tt1 (List.mem_of_getElem? (i := 154) rfl)) rfl
theorem wd155 : (Cond.lays "WordFunctions$Arguments" "WordFunctions$Arguments" "used" "I") ∈ TG := tg_in (tt1 (List.mem_of_getElem? (i := 155) rfl)) rfl
theorem wd156 : (Cond.soleField "WordFunctions$Arguments" "used") ∈ TG := tg_in (tt1 (List.mem_of_getElem? (i := 156) rfl)) rfl
theorem wd157 : (Cond.lays "WordFunctions$Arguments" "WordFunctions$Arguments" "count" "I") ∈ TG := tg_in (tt1 (List.mem_of_getElem? (i := 157) rfl)) rfl
theorem wd158 : (Cond.soleField "WordFunctions$Arguments" "count") ∈ TG := tg_in (tt1 (List.mem_of_getElem? (i := 158) rfl)) rfl
theorem wd159 : (Cond.lays "WordFunctions$Arguments" "WordFunctions$Arguments" "fault" "I") ∈ TG := tg_in (tt1 (List.mem_of_getElem? (i := 159) rfl)) rfl
theorem wd160 : (Cond.soleField "WordFunctions$Arguments" "fault") ∈ TG := tg_in (tt1 (List.mem_of_getElem? (i := 160) rfl)) rfl
theorem wd161 : (Cond.lays "WordFunctions$Arguments" "WordFunctions$Arguments" "homeRow" "I") ∈ TG := tg_in (tt1 (List.mem_of_getElem? (i := 161) rfl)) rfl
theorem wd162 : (Cond.soleField "WordFunctions$Arguments" "homeRow") ∈ TG := tg_in (tt1 (List.mem_of_getElem? (i := 162) rfl)) rfl
theorem wd163 : (Cond.lays "WordFunctions$Arguments" "WordFunctions$Arguments" "homeColumn" "I") ∈ TG := tg_in (tt1 (List.mem_of_getElem? (i := 163) rfl)) rfl
theorem wd164 : (Cond.soleField "WordFunctions$Arguments" "homeColumn") ∈ TG := tg_in (tt1 (List.mem_of_getElem? (i := 164) rfl)) rfl
theorem wd165 : (Cond.superclass "WordFunctions$Arguments" "java/lang/Object") ∈ TG := tg_in (tt1 (List.mem_of_getElem? (i := 165) rfl)) rfl
theorem wd166 : (Cond.classLink "WordFunctions" 29 "WordFunctions$Answer") ∈ TG := tg_in (tt1 (List.mem_of_getElem? (i := 166) rfl)) rfl
theorem wd167 : (Cond.instantiable "WordFunctions$Answer" 4) ∈ TG := tg_in (tt1 (List.mem_of_getElem? (i := 167) rfl)) rfl
theorem wd168 : (Cond.methodLink "WordFunctions" 31 y21) ∈ TG := tg_in (tt1 (List.mem_of_getElem? (i := 168) rfl)) rfl
theorem wd169 : (Cond.instanceMethod y21) ∈ TG := tg_in (tt1 (List.mem_of_getElem? (i := 169) rfl)) rfl
theorem wd170 : (Cond.code y21 prog_2_method_1_code 2 (Option.none : Option FieldType)) ∈ TG := tg_in (tt1 (List.mem_of_getElem? (i := 170) rfl)) rfl
theorem wd171 : (Cond.methodLink "WordFunctions$Answer" 3 y280) ∈ TG := tg_in (tt1 (List.mem_of_getElem? (i := 171) rfl)) rfl
theorem wd172 : (Cond.classLink "WordFunctions$Answer" 9 "WordFunctions$Value") ∈ TG := tg_in (tt1 (List.mem_of_getElem? (i := 172) rfl)) rfl
theorem wd173 : (Cond.methodLink "WordFunctions$Answer" 24 y130) ∈ TG := tg_in (tt1 (List.mem_of_getElem? (i := 173) rfl)) rfl
theorem wd174 : (Cond.fieldLink "WordFunctions$Answer" 11 "WordFunctions$Answer" "values" "[LWordFunctions$Value;") ∈ TG := tg_in (tt1 (List.mem_of_getElem? (i := 174) rfl)) rfl
theorem wd175 : (Cond.fieldLink "WordFunctions$Answer" 17 "WordFunctions$Answer" "rows" "I") ∈ TG := tg_in (tt1 (List.mem_of_getElem? (i := 175) rfl)) rfl
theorem wd176 : (Cond.fieldLink "WordFunctions" 199 "WordFunctions$Answer" "rows" "I") ∈ TG := tg_in (tt1 (List.mem_of_getElem? (i := 176) rfl)) rfl
theorem wd177 : (Cond.fieldLink "WordFunctions$Answer" 21 "WordFunctions$Answer" "columns" "I") ∈ TG := tg_in (tt1 (List.mem_of_getElem? (i := 177) rfl)) rfl
theorem wd178 : (Cond.fieldLink "WordFunctions" 196 "WordFunctions$Answer" "columns" "I") ∈ TG := tg_in (tt1 (List.mem_of_getElem? (i := 178) rfl)) rfl
theorem wd179 : (Cond.fieldLink "WordFunctions$Answer" 28 "WordFunctions$Answer" "told" "LWordFunctions$Value;") ∈ TG := tg_in (tt1 (List.mem_of_getElem? (i := 179) rfl)) rfl
theorem wd180 : (Cond.fieldLink "WordFunctions" 182 "WordFunctions$Answer" "told" "LWordFunctions$Value;") ∈ TG := tg_in (tt1 (List.mem_of_getElem? (i := 180) rfl)) rfl
theorem wd181 : (Cond.laysFinal "WordFunctions$Answer" "WordFunctions$Answer" "values" "[LWordFunctions$Value;") ∈ TG := tg_in (tt1 (List.mem_of_getElem? (i := 181) rfl)) rfl
theorem wd182 : (Cond.soleField "WordFunctions$Answer" "values") ∈ TG := tg_in (tt1 (List.mem_of_getElem? (i := 182) rfl)) rfl
theorem wd183 : (Cond.lays "WordFunctions$Answer" "WordFunctions$Answer" "rows" "I") ∈ TG := tg_in (tt1 (List.mem_of_getElem? (i := 183) rfl)) rfl
theorem wd184 : (Cond.soleField "WordFunctions$Answer" "rows") ∈ TG := tg_in (tt1 (List.mem_of_getElem? (i := 184) rfl)) rfl
theorem wd185 : (Cond.lays "WordFunctions$Answer" "WordFunctions$Answer" "columns" "I") ∈ TG := tg_in (tt1 (List.mem_of_getElem? (i := 185) rfl)) rfl
theorem wd186 : (Cond.soleField "WordFunctions$Answer" "columns") ∈ TG := tg_in (tt1 (List.mem_of_getElem? (i := 186) rfl)) rfl
theorem wd187 : (Cond.lays "WordFunctions$Answer" "WordFunctions$Answer" "told" "LWordFunctions$Value;") ∈ TG := tg_in (tt1 (List.mem_of_getElem? (i := 187) rfl)) rfl
theorem wd188 : (Cond.soleField "WordFunctions$Answer" "told") ∈ TG := tg_in (tt1 (List.mem_of_getElem? (i := 188) rfl)) rfl
theorem wd189 : (Cond.superclass "WordFunctions$Answer" "java/lang/Object") ∈ TG := tg_in (tt1 (List.mem_of_getElem? (i := 189) rfl)) rfl
theorem wd190 : (Cond.classLink "WordFunctions" 36 "WordFunctions$Texts") ∈ TG := tg_in (tt1 (List.mem_of_getElem? (i := 190) rfl)) rfl
theorem wd191 : (Cond.instantiable "WordFunctions$Texts" 2) ∈ TG := tg_in (tt1 (List.mem_of_getElem? (i := 191) rfl)) rfl
theorem wd192 : (Cond.methodLink "WordFunctions" 38 y106) ∈ TG := tg_in (tt1 (List.mem_of_getElem? (i := 192) rfl)) rfl
theorem wd193 : (Cond.instanceMethod y106) ∈ TG := tg_in (tt1 (List.mem_of_getElem? (i := 193) rfl)) rfl
theorem wd194 : (Cond.code y106 prog_10_method_1_code 3 (Option.none : Option FieldType)) ∈ TG := tg_in (tt1 (List.mem_of_getElem? (i := 194) rfl)) rfl
theorem wd195 : (Cond.methodLink "WordFunctions$Texts" 3 y280) ∈ TG := tg_in (tt1 (List.mem_of_getElem? (i := 195) rfl)) rfl
theorem wd196 : (Cond.fieldLink "WordFunctions$Texts" 9 "WordFunctions$Texts" "given" "LWordFunctions$Arguments;") ∈ TG := tg_in (tt1 (List.mem_of_getElem? (i := 196) rfl)) rfl
theorem wd197 : (Cond.fieldLink "WordFunctions$Texts" 15 "WordFunctions$Texts" "pattern" "LWordFunctions$Pattern;") ∈ TG := tg_in (tt1 (List.mem_of_getElem? (i := 197) rfl)) rfl
theorem wd198 : (Cond.laysFinal "WordFunctions$Texts" "WordFunctions$Texts" "given" "LWordFunctions$Arguments;") ∈ TG := tg_in (tt1 (List.mem_of_getElem? (i := 198) rfl)) rfl
theorem wd199 : (Cond.soleField "WordFunctions$Texts" "given") ∈ TG := tg_in (tt1 (List.mem_of_getElem? (i := 199) rfl)) rfl
theorem wd200 : (Cond.laysFinal "WordFunctions$Texts" "WordFunctions$Texts" "pattern" "LWordFunctions$Pattern;") ∈ TG := tg_in (tt1 (List.mem_of_getElem? (i := 200) rfl)) rfl
theorem wd201 : (Cond.soleField "WordFunctions$Texts" "pattern") ∈ TG := tg_in (tt1 (List.mem_of_getElem? (i := 201) rfl)) rfl
theorem wd202 : (Cond.superclass "WordFunctions$Texts" "java/lang/Object") ∈ TG := tg_in (tt1 (List.mem_of_getElem? (i := 202) rfl)) rfl
theorem wd203 : (Cond.classLink "WordFunctions" 45 "WordFunctions$LookUps") ∈ TG := tg_in (tt1 (List.mem_of_getElem? (i := 203) rfl)) rfl
theorem wd204 : (Cond.instantiable "WordFunctions$LookUps" 2) ∈ TG := tg_in (tt1 (List.mem_of_getElem? (i := 204) rfl)) rfl
theorem wd205 : (Cond.methodLink "WordFunctions" 47 y87) ∈ TG := tg_in (tt1 (List.mem_of_getElem? (i := 205) rfl)) rfl
theorem wd206 : (Cond.instanceMethod y87) ∈ TG := tg_in (tt1 (List.mem_of_getElem? (i := 206) rfl)) rfl
theorem wd207 : (Cond.code y87 prog_8_method_1_code 3 (Option.none : Option FieldType)) ∈ TG := tg_in (tt1 (List.mem_of_getElem? (i := 207) rfl)) rfl
theorem wd208 : (Cond.methodLink "WordFunctions$LookUps" 3 y280) ∈ TG := tg_in (tt1 (List.mem_of_getElem? (i := 208) rfl)) rfl
theorem wd209 : (Cond.fieldLink "WordFunctions$LookUps" 9 "WordFunctions$LookUps" "given" "LWordFunctions$Arguments;") ∈ TG := tg_in (tt1 (List.mem_of_getElem? (i := 209) rfl)) rfl
theorem wd210 : (Cond.fieldLink "WordFunctions$LookUps" 15 "WordFunctions$LookUps" "pattern" "LWordFunctions$Pattern;") ∈ TG := tg_in (tt1 (List.mem_of_getElem? (i := 210) rfl)) rfl
theorem wd211 : (Cond.laysFinal "WordFunctions$LookUps" "WordFunctions$LookUps" "given" "LWordFunctions$Arguments;") ∈ TG := tg_in (tt1 (List.mem_of_getElem? (i := 211) rfl)) rfl
theorem wd212 : (Cond.soleField "WordFunctions$LookUps" "given") ∈ TG := tg_in (tt1 (List.mem_of_getElem? (i := 212) rfl)) rfl
theorem wd213 : (Cond.laysFinal "WordFunctions$LookUps" "WordFunctions$LookUps" "pattern" "LWordFunctions$Pattern;") ∈ TG := tg_in (tt1 (List.mem_of_getElem? (i := 213) rfl)) rfl
theorem wd214 : (Cond.soleField "WordFunctions$LookUps" "pattern") ∈ TG := tg_in (tt1 (List.mem_of_getElem? (i := 214) rfl)) rfl
theorem wd215 : (Cond.superclass "WordFunctions$LookUps" "java/lang/Object") ∈ TG := tg_in (tt1 (List.mem_of_getElem? (i := 215) rfl)) rfl
theorem wd216 : (Cond.classLink "WordFunctions" 52 "WordFunctions$Dates") ∈ TG := tg_in (tt1 (List.mem_of_getElem? (i := 216) rfl)) rfl
theorem wd217 : (Cond.instantiable "WordFunctions$Dates" 3) ∈ TG := tg_in (tt1 (List.mem_of_getElem? (i := 217) rfl)) rfl
theorem wd218 : (Cond.methodLink "WordFunctions" 54 y62) ∈ TG := tg_in (tt1 (List.mem_of_getElem? (i := 218) rfl)) rfl
theorem wd219 : (Cond.instanceMethod y62) ∈ TG := tg_in (tt1 (List.mem_of_getElem? (i := 219) rfl)) rfl
theorem wd220 : (Cond.code y62 prog_5_method_1_code 2 (Option.none : Option FieldType)) ∈ TG := tg_in (tt1 (List.mem_of_getElem? (i := 220) rfl)) rfl
theorem wd221 : (Cond.methodLink "WordFunctions$Dates" 3 y280) ∈ TG := tg_in (tt1 (List.mem_of_getElem? (i := 221) rfl)) rfl
theorem wd222 : (Cond.fieldLink "WordFunctions$Dates" 15 "WordFunctions$Dates" "given" "LWordFunctions$Arguments;") ∈ TG := tg_in (tt1 (List.mem_of_getElem? (i := 222) rfl)) rfl
theorem wd223 : (Cond.fieldLink "WordFunctions$Dates" 9 "WordFunctions$Dates" "free" "[I") ∈ TG := tg_in (tt1 (List.mem_of_getElem? (i := 223) rfl)) rfl
theorem wd224 : (Cond.fieldLink "WordFunctions$Dates" 161 "WordFunctions$Dates" "freeCount" "I") ∈ TG := tg_in (tt1 (List.mem_of_getElem? (i := 224) rfl)) rfl
theorem wd225 : (Cond.laysFinal "WordFunctions$Dates" "WordFunctions$Dates" "given" "LWordFunctions$Arguments;") ∈ TG := tg_in (tt1 (List.mem_of_getElem? (i := 225) rfl)) rfl
theorem wd226 : (Cond.soleField "WordFunctions$Dates" "given") ∈ TG := tg_in (tt1 (List.mem_of_getElem? (i := 226) rfl)) rfl
theorem wd227 : (Cond.laysFinal "WordFunctions$Dates" "WordFunctions$Dates" "free" "[I") ∈ TG := tg_in (tt1 (List.mem_of_getElem? (i := 227) rfl)) rfl
theorem wd228 : (Cond.soleField "WordFunctions$Dates" "free") ∈ TG := tg_in (tt1 (List.mem_of_getElem? (i := 228) rfl)) rfl
theorem wd229 : (Cond.lays "WordFunctions$Dates" "WordFunctions$Dates" "freeCount" "I") ∈ TG := tg_in (tt1 (List.mem_of_getElem? (i := 229) rfl)) rfl
theorem wd230 : (Cond.soleField "WordFunctions$Dates" "freeCount") ∈ TG := tg_in (tt1 (List.mem_of_getElem? (i := 230) rfl)) rfl
theorem wd231 : (Cond.superclass "WordFunctions$Dates" "java/lang/Object") ∈ TG := tg_in (tt1 (List.mem_of_getElem? (i := 231) rfl)) rfl
theorem wd232 : (Cond.classLink "WordFunctions" 61 "WordFunctions$Kinds") ∈ TG := tg_in (tt1 (List.mem_of_getElem? (i := 232) rfl)) rfl
theorem wd233 : (Cond.instantiable "WordFunctions$Kinds" 1) ∈ TG := tg_in (tt1 (List.mem_of_getElem? (i := 233) rfl)) rfl
theorem wd234 : (Cond.methodLink "WordFunctions" 63 y84) ∈ TG := tg_in (tt1 (List.mem_of_getElem? (i := 234) rfl)) rfl
theorem wd235 : (Cond.instanceMethod y84) ∈ TG := tg_in (tt1 (List.mem_of_getElem? (i := 235) rfl)) rfl
theorem wd236 : (Cond.code y84 prog_7_method_1_code 2 (Option.none : Option FieldType)) ∈ TG := tg_in (tt1 (List.mem_of_getElem? (i := 236) rfl)) rfl
theorem wd237 : (Cond.methodLink "WordFunctions$Kinds" 3 y280) ∈ TG := tg_in (tt1 (List.mem_of_getElem? (i := 237) rfl)) rfl
theorem wd238 : (Cond.fieldLink "WordFunctions$Kinds" 9 "WordFunctions$Kinds" "given" "LWordFunctions$Arguments;") ∈ TG := tg_in (tt1 (List.mem_of_getElem? (i := 238) rfl)) rfl
theorem wd239 : (Cond.laysFinal "WordFunctions$Kinds" "WordFunctions$Kinds" "given" "LWordFunctions$Arguments;") ∈ TG := tg_in (tt1 (List.mem_of_getElem? (i := 239) rfl)) rfl
theorem wd240 : (Cond.soleField "WordFunctions$Kinds" "given") ∈ TG := tg_in (tt2 (List.mem_of_getElem? (i := 0) rfl)) rfl
theorem wd241 : (Cond.superclass "WordFunctions$Kinds" "java/lang/Object") ∈ TG := tg_in (tt2 (List.mem_of_getElem? (i := 1) rfl)) rfl
theorem wd242 : (Cond.fieldLink "WordFunctions" 9 "WordFunctions" "tape" "[C") ∈ TG := tg_in (tt2 (List.mem_of_getElem? (i := 2) rfl)) rfl
theorem wd243 : (Cond.fieldLink "WordFunctions" 68 "WordFunctions" "taped" "I") ∈ TG := tg_in (tt2 (List.mem_of_getElem? (i := 3) rfl)) rfl
theorem wd244 : (Cond.fieldLink "WordFunctions" 15 "WordFunctions" "cut" "Ljava/lang/String;") ∈ TG := tg_in (tt2 (List.mem_of_getElem? (i := 4) rfl)) rfl
theorem wd245 : (Cond.fieldLink "WordFunctions" 25 "WordFunctions" "given" "LWordFunctions$Arguments;") ∈ TG := tg_in (tt2 (List.mem_of_getElem? (i := 5) rfl)) rfl
theorem wd246 : (Cond.fieldLink "WordFunctions" 32 "WordFunctions" "answer" "LWordFunctions$Answer;") ∈ TG := tg_in (tt2 (List.mem_of_getElem? (i := 6) rfl)) rfl
theorem wd247 : (Cond.fieldLink "WordFunctions" 41 "WordFunctions" "texts" "LWordFunctions$Texts;") ∈ TG := tg_in (tt2 (List.mem_of_getElem? (i := 7) rfl)) rfl
theorem wd248 : (Cond.fieldLink "WordFunctions" 48 "WordFunctions" "lookUps" "LWordFunctions$LookUps;") ∈ TG := tg_in (tt2 (List.mem_of_getElem? (i := 8) rfl)) rfl
theorem wd249 : (Cond.fieldLink "WordFunctions" 57 "WordFunctions" "dates" "LWordFunctions$Dates;") ∈ TG := tg_in (tt2 (List.mem_of_getElem? (i := 9) rfl)) rfl
theorem wd250 : (Cond.fieldLink "WordFunctions" 64 "WordFunctions" "kinds" "LWordFunctions$Kinds;") ∈ TG := tg_in (tt2 (List.mem_of_getElem? (i := 10) rfl)) rfl
theorem wd251 : (Cond.laysFinal "WordFunctions" "WordFunctions" "tape" "[C") ∈ TG := tg_in (tt2 (List.mem_of_getElem? (i := 11) rfl)) rfl
theorem wd252 : (Cond.soleField "WordFunctions" "tape") ∈ TG := tg_in (tt2 (List.mem_of_getElem? (i := 12) rfl)) rfl
theorem wd253 : (Cond.lays "WordFunctions" "WordFunctions" "taped" "I") ∈ TG := tg_in (tt2 (List.mem_of_getElem? (i := 13) rfl)) rfl
theorem wd254 : (Cond.soleField "WordFunctions" "taped") ∈ TG := tg_in (tt2 (List.mem_of_getElem? (i := 14) rfl)) rfl
theorem wd255 : (Cond.lays "WordFunctions" "WordFunctions" "cut" "Ljava/lang/String;") ∈ TG := tg_in (tt2 (List.mem_of_getElem? (i := 15) rfl)) rfl
theorem wd256 : (Cond.soleField "WordFunctions" "cut") ∈ TG := tg_in (tt2 (List.mem_of_getElem? (i := 16) rfl)) rfl
theorem wd257 : (Cond.laysFinal "WordFunctions" "WordFunctions" "given" "LWordFunctions$Arguments;") ∈ TG := tg_in (tt2 (List.mem_of_getElem? (i := 17) rfl)) rfl
theorem wd258 : (Cond.soleField "WordFunctions" "given") ∈ TG := tg_in (tt2 (List.mem_of_getElem? (i := 18) rfl)) rfl
theorem wd259 : (Cond.laysFinal "WordFunctions" "WordFunctions" "answer" "LWordFunctions$Answer;") ∈ TG := tg_in (tt2 (List.mem_of_getElem? (i := 19) rfl)) rfl
theorem wd260 : (Cond.soleField "WordFunctions" "answer") ∈ TG := tg_in (tt2 (List.mem_of_getElem? (i := 20) rfl)) rfl
theorem wd261 : (Cond.laysFinal "WordFunctions" "WordFunctions" "texts" "LWordFunctions$Texts;") ∈ TG := tg_in (tt2 (List.mem_of_getElem? (i := 21) rfl)) rfl
theorem wd262 : (Cond.soleField "WordFunctions" "texts") ∈ TG := tg_in (tt2 (List.mem_of_getElem? (i := 22) rfl)) rfl
theorem wd263 : (Cond.laysFinal "WordFunctions" "WordFunctions" "lookUps" "LWordFunctions$LookUps;") ∈ TG := tg_in (tt2 (List.mem_of_getElem? (i := 23) rfl)) rfl
theorem wd264 : (Cond.soleField "WordFunctions" "lookUps") ∈ TG := tg_in (tt2 (List.mem_of_getElem? (i := 24) rfl)) rfl
theorem wd265 : (Cond.laysFinal "WordFunctions" "WordFunctions" "dates" "LWordFunctions$Dates;") ∈ TG := tg_in (tt2 (List.mem_of_getElem? (i := 25) rfl)) rfl
theorem wd266 : (Cond.soleField "WordFunctions" "dates") ∈ TG := tg_in (tt2 (List.mem_of_getElem? (i := 26) rfl)) rfl
theorem wd267 : (Cond.laysFinal "WordFunctions" "WordFunctions" "kinds" "LWordFunctions$Kinds;") ∈ TG := tg_in (tt2 (List.mem_of_getElem? (i := 27) rfl)) rfl
theorem wd268 : (Cond.soleField "WordFunctions" "kinds") ∈ TG := tg_in (tt2 (List.mem_of_getElem? (i := 28) rfl)) rfl
theorem wd269 : (Cond.superclass "WordFunctions" "java/lang/Object") ∈ TG := tg_in (tt2 (List.mem_of_getElem? (i := 29) rfl)) rfl
theorem wd270 : (Cond.methodLink "WordFunctionsLaw" 25 y5) ∈ TG := tg_in (tt2 (List.mem_of_getElem? (i := 30) rfl)) rfl
theorem wd271 : (Cond.instanceMethod y5) ∈ TG := tg_in (tt2 (List.mem_of_getElem? (i := 31) rfl)) rfl
theorem wd272 : (Cond.selects "WordFunctions" y5 y5) ∈ TG := tg_in (tt2 (List.mem_of_getElem? (i := 32) rfl)) rfl
theorem wd273 : (Cond.code y5 prog_1_method_2_code 6 (Option.some FieldType.boolean)) ∈ TG := tg_in (tt2 (List.mem_of_getElem? (i := 33) rfl)) rfl
theorem wd274 : (Cond.methodLink "WordFunctions" 72 y11) ∈ TG := tg_in (tt2 (List.mem_of_getElem? (i := 34) rfl)) rfl
theorem wd275 : (Cond.privateMethod y11) ∈ lw_tbl := tt2 (List.mem_of_getElem? (i := 35) rfl)
theorem wd276 : (Cond.instanceMethod y11) ∈ TG := tg_in (tt2 (List.mem_of_getElem? (i := 36) rfl)) rfl
theorem wd277 : (Cond.code y11 prog_1_method_3_code 3 (Option.none : Option FieldType)) ∈ TG := tg_in (tt2 (List.mem_of_getElem? (i := 37) rfl)) rfl
theorem wd278 : (Cond.methodLink "WordFunctionsLaw" 30 y3) ∈ TG := tg_in (tt2 (List.mem_of_getElem? (i := 38) rfl)) rfl
theorem wd279 : (Cond.instanceMethod y3) ∈ TG := tg_in (tt2 (List.mem_of_getElem? (i := 39) rfl)) rfl
theorem wd280 : (Cond.selects "WordFunctions" y3 y3) ∈ TG := tg_in (tt2 (List.mem_of_getElem? (i := 40) rfl)) rfl
theorem wd281 : (Cond.code y3 prog_1_method_4_code 4 (Option.some FieldType.boolean)) ∈ TG := tg_in (tt2 (List.mem_of_getElem? (i := 41) rfl)) rfl
theorem wd282 : (Cond.classLink "WordFunctions" 76 "java/lang/StringBuilder") ∈ TG := tg_in (tt2 (List.mem_of_getElem? (i := 42) rfl)) rfl
theorem wd283 : (Cond.instantiable "java/lang/StringBuilder" 4) ∈ TG := tg_in (tt2 (List.mem_of_getElem? (i := 43) rfl)) rfl
theorem wd284 : (Cond.methodLink "WordFunctions" 78 y301) ∈ TG := tg_in (tt2 (List.mem_of_getElem? (i := 44) rfl)) rfl
theorem wd285 : (Cond.instanceMethod y301) ∈ TG := tg_in (tt2 (List.mem_of_getElem? (i := 45) rfl)) rfl
theorem wd286 : (Cond.code y301 prog_24_method_1_code 1 (Option.none : Option FieldType)) ∈ TG := tg_in (tt2 (List.mem_of_getElem? (i := 46) rfl)) rfl
theorem wd287 : (Cond.methodLink "java/lang/StringBuilder" 1 y250) ∈ TG := tg_in (tt2 (List.mem_of_getElem? (i := 47) rfl)) rfl
theorem wd288 : (Cond.instanceMethod y250) ∈ TG := tg_in (tt2 (List.mem_of_getElem? (i := 48) rfl)) rfl
theorem wd289 : (Cond.code y250 prog_14_method_2_code 2 (Option.none : Option FieldType)) ∈ TG := tg_in (tt2 (List.mem_of_getElem? (i := 49) rfl)) rfl
theorem wd290 : (Cond.methodLink "java/lang/AbstractStringBuilder" 3 y280) ∈ TG := tg_in (tt2 (List.mem_of_getElem? (i := 50) rfl)) rfl
theorem wd291 : (Cond.fieldLink "java/lang/AbstractStringBuilder" 18 "java/lang/String" "COMPACT_STRINGS" "Z") ∈ TG := tg_in (tt2 (List.mem_of_getElem? (i := 51) rfl)) rfl
theorem wd292 : (Cond.laysStatic "java/lang/String" "COMPACT_STRINGS" "Z") ∈ lw_tbl := tt2 (List.mem_of_getElem? (i := 52) rfl)
theorem wd293 : (Cond.methodLink "java/lang/AbstractStringBuilder" 26 y333) ∈ TG := tg_in (tt2 (List.mem_of_getElem? (i := 53) rfl)) rfl
theorem wd294 : (Cond.static y333) ∈ TG := tg_in (tt2 (List.mem_of_getElem? (i := 54) rfl)) rfl
theorem wd295 : (Cond.code y333 prog_26_method_2_code 1 (Option.some (FieldType.array FieldType.byte))) ∈ TG := tg_in (tt2 (List.mem_of_getElem? (i := 55) rfl)) rfl
theorem wd296 : (Cond.methodLink "java/lang/StringUTF16" 11 y334) ∈ TG := tg_in (tt2 (List.mem_of_getElem? (i := 56) rfl)) rfl
theorem wd297 : (Cond.static y334) ∈ TG := tg_in (tt2 (List.mem_of_getElem? (i := 57) rfl)) rfl
theorem wd298 : (Cond.code y334 prog_26_method_3_code 1 (Option.some FieldType.int)) ∈ TG := tg_in (tt2 (List.mem_of_getElem? (i := 58) rfl)) rfl
theorem wd299 : (Cond.constant "java/lang/StringUTF16" 20 (1073741823 : Int32)) ∈ TG := tg_in (tt2 (List.mem_of_getElem? (i := 59) rfl)) rfl
theorem wd300 : (Cond.fieldLink "java/lang/AbstractStringBuilder" 15 "java/lang/AbstractStringBuilder" "value" "[B") ∈ TG := tg_in (tt2 (List.mem_of_getElem? (i := 60) rfl)) rfl
theorem wd301 : (Cond.fieldLink "java/lang/AbstractStringBuilder" 22 "java/lang/AbstractStringBuilder" "coder" "B") ∈ TG := tg_in (tt2 (List.mem_of_getElem? (i := 61) rfl)) rfl
theorem wd302 : (Cond.fieldLink "java/lang/String" 1048 "java/lang/AbstractStringBuilder" "maybeLatin1" "Z") ∈ TG := tg_in (tt2 (List.mem_of_getElem? (i := 62) rfl)) rfl
theorem wd303 : (Cond.fieldLink "java/lang/AbstractStringBuilder" 79 "java/lang/AbstractStringBuilder" "count" "I") ∈ TG := tg_in (tt2 (List.mem_of_getElem? (i := 63) rfl)) rfl
theorem wd304 : (Cond.lays "java/lang/StringBuilder" "java/lang/AbstractStringBuilder" "value" "[B") ∈ TG := tg_in (tt2 (List.mem_of_getElem? (i := 64) rfl)) rfl
theorem wd305 : (Cond.soleField "java/lang/AbstractStringBuilder" "value") ∈ TG := tg_in (tt2 (List.mem_of_getElem? (i := 65) rfl)) rfl
theorem wd306 : (Cond.lays "java/lang/StringBuilder" "java/lang/AbstractStringBuilder" "coder" "B") ∈ TG := tg_in (tt2 (List.mem_of_getElem? (i := 66) rfl)) rfl
theorem wd307 : (Cond.soleField "java/lang/AbstractStringBuilder" "coder") ∈ TG := tg_in (tt2 (List.mem_of_getElem? (i := 67) rfl)) rfl
theorem wd308 : (Cond.lays "java/lang/StringBuilder" "java/lang/AbstractStringBuilder" "maybeLatin1" "Z") ∈ TG := tg_in (tt2 (List.mem_of_getElem? (i := 68) rfl)) rfl
theorem wd309 : (Cond.soleField "java/lang/AbstractStringBuilder" "maybeLatin1") ∈ TG := tg_in (tt2 (List.mem_of_getElem? (i := 69) rfl)) rfl
theorem wd310 : (Cond.lays "java/lang/StringBuilder" "java/lang/AbstractStringBuilder" "count" "I") ∈ TG := tg_in (tt2 (List.mem_of_getElem? (i := 70) rfl)) rfl
theorem wd311 : (Cond.soleField "java/lang/AbstractStringBuilder" "count") ∈ TG := tg_in (tt2 (List.mem_of_getElem? (i := 71) rfl)) rfl
theorem wd312 : (Cond.superclass "java/lang/StringBuilder" "java/lang/AbstractStringBuilder") ∈ TG := tg_in (tt2 (List.mem_of_getElem? (i := 72) rfl)) rfl
theorem wd313 : (Cond.methodLink "WordFunctions" 79 y302) ∈ TG := tg_in (tt2 (List.mem_of_getElem? (i := 73) rfl)) rfl
theorem wd314 : (Cond.instanceMethod y302) ∈ TG := tg_in (tt2 (List.mem_of_getElem? (i := 74) rfl)) rfl
theorem wd315 : (Cond.selects "java/lang/StringBuilder" y302 y302) ∈ TG := tg_in (tt2 (List.mem_of_getElem? (i := 75) rfl)) rfl
theorem wd316 : (Cond.code y302 prog_24_method_14_code 2 (Option.some (FieldType.object "java/lang/StringBuilder"))) ∈ TG := tg_in (tt2 (List.mem_of_getElem? (i := 76) rfl)) rfl
theorem wd317 : (Cond.methodLink "java/lang/StringBuilder" 50 y251) ∈ TG := tg_in (tt2 (List.mem_of_getElem? (i := 77) rfl)) rfl
theorem wd318 : (Cond.instanceMethod y251) ∈ TG := tg_in (tt2 (List.mem_of_getElem? (i := 78) rfl)) rfl
theorem wd319 : (Cond.code y251 prog_14_method_31_code 2 (Option.some (FieldType.object "java/lang/AbstractStringBuilder"))) ∈ TG := tg_in (tt2 (List.mem_of_getElem? (i := 79) rfl)) rfl
theorem wd320 : (Cond.methodLink "java/lang/AbstractStringBuilder" 100 y255) ∈ TG := tg_in (tt2 (List.mem_of_getElem? (i := 80) rfl)) rfl
theorem wd321 : (Cond.privateMethod y255) ∈ lw_tbl := tt2 (List.mem_of_getElem? (i := 81) rfl)
theorem wd322 : (Cond.instanceMethod y255) ∈ TG := tg_in (tt2 (List.mem_of_getElem? (i := 82) rfl)) rfl
theorem wd323 : (Cond.code y255 prog_14_method_9_code 3 (Option.none : Option FieldType)) ∈ TG := tg_in (tt2 (List.mem_of_getElem? (i := 83) rfl)) rfl
theorem wd324 : (Cond.methodLink "java/lang/AbstractStringBuilder" 104 y261) ∈ TG := tg_in (tt2 (List.mem_of_getElem? (i := 84) rfl)) rfl
theorem wd325 : (Cond.privateMethod y261) ∈ lw_tbl := tt2 (List.mem_of_getElem? (i := 85) rfl)
theorem wd326 : (Cond.instanceMethod y261) ∈ TG := tg_in (tt2 (List.mem_of_getElem? (i := 86) rfl)) rfl
theorem wd327 : (Cond.code y261 prog_14_method_10_code 6 (Option.some FieldType.int)) ∈ TG := tg_in (tt2 (List.mem_of_getElem? (i := 87) rfl)) rfl
theorem wd328 : (Cond.methodLink "java/lang/AbstractStringBuilder" 114 y351) ∈ TG := tg_in (tt2 (List.mem_of_getElem? (i := 88) rfl)) rfl
theorem wd329 : (Cond.static y351) ∈ TG := tg_in (tt2 (List.mem_of_getElem? (i := 89) rfl)) rfl
theorem wd330 : (Cond.code y351 prog_30_method_27_code 4 (Option.some FieldType.int)) ∈ TG := tg_in (tt2 (List.mem_of_getElem? (i := 90) rfl)) rfl
theorem wd331 : (Cond.methodLink "jdk/internal/util/ArraysSupport" 194 y278) ∈ TG := tg_in (tt2 (List.mem_of_getElem? (i := 91) rfl)) rfl
theorem wd332 : (Cond.static y278) ∈ TG := tg_in (tt2 (List.mem_of_getElem? (i := 92) rfl)) rfl
theorem wd333 : (Cond.code y278 prog_21_method_65_code 2 (Option.some FieldType.int)) ∈ TG := tg_in (tt2 (List.mem_of_getElem? (i := 93) rfl)) rfl
theorem wd334 : (Cond.constant "jdk/internal/util/ArraysSupport" 200 (2147483639 : Int32)) ∈ TG := tg_in (tt2 (List.mem_of_getElem? (i := 94) rfl)) rfl
theorem wd335 : (Cond.methodLink "jdk/internal/util/ArraysSupport" 201 y350) ∈ TG := tg_in (tt2 (List.mem_of_getElem? (i := 95) rfl)) rfl
theorem wd336 : (Cond.static y350) ∈ TG := tg_in (tt2 (List.mem_of_getElem? (i := 96) rfl)) rfl
theorem wd337 : (Cond.code y350 prog_30_method_28_code 3 (Option.some FieldType.int)) ∈ TG := tg_in (tt2 (List.mem_of_getElem? (i := 97) rfl)) rfl
theorem wd338 : (Cond.constant "java/lang/AbstractStringBuilder" 39 (2147483647 : Int32)) ∈ TG := tg_in (tt2 (List.mem_of_getElem? (i := 98) rfl)) rfl
theorem wd339 : (Cond.methodLink "java/lang/AbstractStringBuilder" 108 y347) ∈ TG := tg_in (tt2 (List.mem_of_getElem? (i := 99) rfl)) rfl
theorem wd340 : (Cond.static y347) ∈ TG := tg_in (tt2 (List.mem_of_getElem? (i := 100) rfl)) rfl
theorem wd341 : (Cond.code y347 prog_29_method_121_code 3 (Option.some (FieldType.array FieldType.byte))) ∈ TG := tg_in (tt2 (List.mem_of_getElem? (i := 101) rfl)) rfl
theorem wd342 : (Cond.methodLink "java/util/Arrays" 310 y249) ∈ TG := tg_in (tt2 (List.mem_of_getElem? (i := 102) rfl)) rfl
theorem wd343 : (Cond.sameMethod "[B" "java/lang/Object" "clone" "()Ljava/lang/Object;") ∈ TG := tg_in (tt2 (List.mem_of_getElem? (i := 103) rfl)) rfl
theorem wd344 : (Cond.native y281) ∈ TG := tg_in (tt2 (List.mem_of_getElem? (i := 104) rfl)) rfl
theorem wd345 : (Cond.instanceMethod y281) ∈ TG := tg_in (tt2 (List.mem_of_getElem? (i := 105) rfl)) rfl
theorem wd346 : (Cond.selects "[B" y249 y281) ∈ TG := tg_in (tt2 (List.mem_of_getElem? (i := 106) rfl)) rfl
theorem wd347 : (Cond.castable "[B" "java/lang/Cloneable") ∈ lw_tbl := tt2 (List.mem_of_getElem? (i := 107) rfl)
theorem wd348 : (Cond.classLink "java/util/Arrays" 311 "[B") ∈ TG := tg_in (tt2 (List.mem_of_getElem? (i := 108) rfl)) rfl
theorem wd349 : (Cond.methodLink "java/util/Arrays" 304 y279) ∈ TG := tg_in (tt2 (List.mem_of_getElem? (i := 109) rfl)) rfl
theorem wd350 : (Cond.static y279) ∈ TG := tg_in (tt2 (List.mem_of_getElem? (i := 110) rfl)) rfl
theorem wd351 : (Cond.code y279 prog_21_method_69_code 2 (Option.some FieldType.int)) ∈ TG := tg_in (tt2 (List.mem_of_getElem? (i := 111) rfl)) rfl
theorem wd352 : (Cond.methodLink "java/util/Arrays" 150 y341) ∈ TG := tg_in (tt2 (List.mem_of_getElem? (i := 112) rfl)) rfl
theorem wd353 : (Cond.static y341) ∈ TG := tg_in (tt2 (List.mem_of_getElem? (i := 113) rfl)) rfl
theorem wd354 : (Cond.native y341) ∈ TG := tg_in (tt2 (List.mem_of_getElem? (i := 114) rfl)) rfl
theorem wd355 : (Cond.methodLink "java/lang/AbstractStringBuilder" 83 y259) ∈ TG := tg_in (tt2 (List.mem_of_getElem? (i := 115) rfl)) rfl
theorem wd356 : (Cond.instanceMethod y259) ∈ TG := tg_in (tt2 (List.mem_of_getElem? (i := 116) rfl)) rfl
theorem wd357 : (Cond.sameMethod "java/lang/AbstractStringBuilder" "java/lang/AbstractStringBuilder" "isLatin1" "()Z") ∈ TG := tg_in (tt2 (List.mem_of_getElem? (i := 117) rfl)) rfl
theorem wd358 : (Cond.selects "java/lang/StringBuilder" y259 y259) ∈ TG := tg_in (tt2 (List.mem_of_getElem? (i := 118) rfl)) rfl
theorem wd359 : (Cond.code y259 prog_14_method_68_code 1 (Option.some FieldType.boolean)) ∈ TG := tg_in (tt2 (List.mem_of_getElem? (i := 119) rfl)) rfl
theorem wd360 : (Cond.methodLink "java/lang/AbstractStringBuilder" 191 y308) ∈ TG := tg_in (tt2 (List.mem_of_getElem? (i := 120) rfl)) rfl
theorem wd361 : (Cond.static y308) ∈ TG := tg_in (tt2 (List.mem_of_getElem? (i := 121) rfl)) rfl
theorem wd362 : (Cond.code y308 prog_25_method_3_code 1 (Option.some FieldType.boolean)) ∈ TG := tg_in (tt2 (List.mem_of_getElem? (i := 122) rfl)) rfl
theorem wd363 : (Cond.methodLink "java/lang/AbstractStringBuilder" 195 y257) ∈ TG := tg_in (tt2 (List.mem_of_getElem? (i := 123) rfl)) rfl
theorem wd364 : (Cond.privateMethod y257) ∈ lw_tbl := tt2 (List.mem_of_getElem? (i := 124) rfl)
theorem wd365 : (Cond.instanceMethod y257) ∈ TG := tg_in (tt2 (List.mem_of_getElem? (i := 125) rfl)) rfl
theorem wd366 : (Cond.code y257 prog_14_method_11_code 2 (Option.none : Option FieldType)) ∈ TG := tg_in (tt2 (List.mem_of_getElem? (i := 126) rfl)) rfl
theorem wd367 : (Cond.methodLink "java/lang/AbstractStringBuilder" 125 y314) ∈ TG := tg_in (tt2 (List.mem_of_getElem? (i := 127) rfl)) rfl
theorem wd368 : (Cond.static y314) ∈ TG := tg_in (tt2 (List.mem_of_getElem? (i := 128) rfl)) rfl
theorem wd369 : (Cond.code y314 prog_25_method_50_code 5 (Option.none : Option FieldType)) ∈ TG := tg_in (tt2 (List.mem_of_getElem? (i := 129) rfl)) rfl
theorem wd370 : (Cond.methodLink "java/lang/StringLatin1" 240 y331) ∈ TG := tg_in (tt2 (List.mem_of_getElem? (i := 130) rfl)) rfl
theorem wd371 : (Cond.static y331) ∈ TG := tg_in (tt2 (List.mem_of_getElem? (i := 131) rfl)) rfl
theorem wd372 : (Cond.code y331 prog_26_method_86_code 6 (Option.none : Option FieldType)) ∈ TG := tg_in (tt2 (List.mem_of_getElem? (i := 132) rfl)) rfl
theorem wd373 : (Cond.methodLink "java/lang/StringUTF16" 173 y318) ∈ TG := tg_in (tt2 (List.mem_of_getElem? (i := 133) rfl)) rfl
theorem wd374 : (Cond.static y318) ∈ TG := tg_in (tt2 (List.mem_of_getElem? (i := 134) rfl)) rfl
theorem wd375 : (Cond.code y318 prog_26_method_94_code 3 (Option.none : Option FieldType)) ∈ TG := tg_in (tt2 (List.mem_of_getElem? (i := 135) rfl)) rfl
theorem wd376 : (Cond.methodLink "java/lang/StringUTF16" 48 y332) ∈ TG := tg_in (tt2 (List.mem_of_getElem? (i := 136) rfl)) rfl
theorem wd377 : (Cond.static y332) ∈ TG := tg_in (tt2 (List.mem_of_getElem? (i := 137) rfl)) rfl
theorem wd378 : (Cond.code y332 prog_26_method_6_code 1 (Option.some FieldType.int)) ∈ TG := tg_in (tt2 (List.mem_of_getElem? (i := 138) rfl)) rfl
theorem wd379 : (Cond.methodLink "java/lang/StringUTF16" 419 y289) ∈ TG := tg_in (tt2 (List.mem_of_getElem? (i := 139) rfl)) rfl
theorem wd380 : (Cond.static y289) ∈ TG := tg_in (tt2 (List.mem_of_getElem? (i := 140) rfl)) rfl
theorem wd381 : (Cond.code y289 prog_23_method_157_code 3 (Option.some FieldType.int)) ∈ TG := tg_in (tt2 (List.mem_of_getElem? (i := 141) rfl)) rfl
theorem wd382 : (Cond.fieldLink "java/lang/String" 1053 "jdk/internal/util/Preconditions" "SIOOBE_FORMATTER" "Ljava/util/function/BiFunction;") ∈ TG := tg_in (tt2 (List.mem_of_getElem? (i := 142) rfl)) rfl
theorem wd383 : (Cond.laysStatic "jdk/internal/util/Preconditions" "SIOOBE_FORMATTER" "Ljava/util/function/BiFunction;") ∈ lw_tbl := tt2 (List.mem_of_getElem? (i := 143) rfl)
theorem wd384 : (Cond.methodLink "java/lang/String" 1065 y352) ∈ TG := tg_in (tt2 (List.mem_of_getElem? (i := 144) rfl)) rfl
theorem wd385 : (Cond.static y352) ∈ TG := tg_in (tt2 (List.mem_of_getElem? (i := 145) rfl)) rfl
theorem wd386 : (Cond.code y352 prog_31_method_13_code 4 (Option.some FieldType.int)) ∈ TG := tg_in (tt2 (List.mem_of_getElem? (i := 146) rfl)) rfl
theorem wd387 : (Cond.methodLink "java/lang/StringUTF16" 111 y336) ∈ TG := tg_in (tt2 (List.mem_of_getElem? (i := 147) rfl)) rfl
theorem wd388 : (Cond.static y336) ∈ TG := tg_in (tt2 (List.mem_of_getElem? (i := 148) rfl)) rfl
theorem wd389 : (Cond.code y336 prog_26_method_4_code 3 (Option.none : Option FieldType)) ∈ TG := tg_in (tt2 (List.mem_of_getElem? (i := 149) rfl)) rfl
theorem wd390 : (Cond.fieldLink "java/lang/StringUTF16" 44 "java/lang/StringUTF16" "$assertionsDisabled" "Z") ∈ TG := tg_in (tt2 (List.mem_of_getElem? (i := 150) rfl)) rfl
theorem wd391 : (Cond.laysStatic "java/lang/StringUTF16" "$assertionsDisabled" "Z") ∈ lw_tbl := tt2 (List.mem_of_getElem? (i := 151) rfl)
theorem wd392 : (Cond.fieldLink "java/lang/StringUTF16" 59 "java/lang/StringUTF16" "HI_BYTE_SHIFT" "I") ∈ TG := tg_in (tt2 (List.mem_of_getElem? (i := 152) rfl)) rfl
theorem wd393 : (Cond.laysStatic "java/lang/StringUTF16" "HI_BYTE_SHIFT" "I") ∈ lw_tbl := tt2 (List.mem_of_getElem? (i := 153) rfl)
theorem wd394 : (Cond.fieldLink "java/lang/StringUTF16" 63 "java/lang/StringUTF16" "LO_BYTE_SHIFT" "I") ∈ TG := tg_in (tt2 (List.mem_of_getElem? (i := 154) rfl)) rfl
theorem wd395 : (Cond.laysStatic "java/lang/StringUTF16" "LO_BYTE_SHIFT" "I") ∈ lw_tbl := tt2 (List.mem_of_getElem? (i := 155) rfl)
theorem wd396 : (Cond.methodLink "java/lang/AbstractStringBuilder" 197 y337) ∈ TG := tg_in (tt2 (List.mem_of_getElem? (i := 156) rfl)) rfl
theorem wd397 : (Cond.static y337) ∈ TG := tg_in (tt2 (List.mem_of_getElem? (i := 157) rfl)) rfl
theorem wd398 : (Cond.code y337 prog_26_method_71_code 3 (Option.none : Option FieldType)) ∈ TG := tg_in (tt2 (List.mem_of_getElem? (i := 158) rfl)) rfl
theorem wd399 : (Cond.methodLink "java/lang/StringUTF16" 67 y319) ∈ TG := tg_in (tt2 (List.mem_of_getElem? (i := 159) rfl)) rfl
theorem wd400 : (Cond.static y319) ∈ TG := tg_in (tt2 (List.mem_of_getElem? (i := 160) rfl)) rfl
theorem wd401 : (Cond.code y319 prog_26_method_91_code 2 (Option.none : Option FieldType)) ∈ TG := tg_in (tt2 (List.mem_of_getElem? (i := 161) rfl)) rfl
theorem wd402 : (Cond.methodLink "java/lang/StringUTF16" 414 y290) ∈ TG := tg_in (tt2 (List.mem_of_getElem? (i := 162) rfl)) rfl
theorem wd403 : (Cond.static y290) ∈ TG := tg_in (tt2 (List.mem_of_getElem? (i := 163) rfl)) rfl
theorem wd404 : (Cond.code y290 prog_23_method_155_code 2 (Option.none : Option FieldType)) ∈ TG := tg_in (tt2 (List.mem_of_getElem? (i := 164) rfl)) rfl
theorem wd405 : (Cond.methodLink "java/lang/String" 1059 y354) ∈ TG := tg_in (tt2 (List.mem_of_getElem? (i := 165) rfl)) rfl
theorem wd406 : (Cond.static y354) ∈ TG := tg_in (tt2 (List.mem_of_getElem? (i := 166) rfl)) rfl
theorem wd407 : (Cond.code y354 prog_31_method_11_code 3 (Option.some FieldType.int)) ∈ TG := tg_in (tt2 (List.mem_of_getElem? (i := 167) rfl)) rfl
theorem wd408 : (Cond.methodLink "WordFunctions" 83 y307) ∈ TG := tg_in (tt2 (List.mem_of_getElem? (i := 168) rfl)) rfl
theorem wd409 : (Cond.instanceMethod y307) ∈ TG := tg_in (tt2 (List.mem_of_getElem? (i := 169) rfl)) rfl
theorem wd410 : (Cond.selects "java/lang/StringBuilder" y307 y307) ∈ TG := tg_in (tt2 (List.mem_of_getElem? (i := 170) rfl)) rfl
theorem wd411 : (Cond.code y307 prog_24_method_42_code 1 (Option.some (FieldType.object "java/lang/String"))) ∈ TG := tg_in (tt2 (List.mem_of_getElem? (i := 171) rfl)) rfl
theorem wd412 : (Cond.classLink "java/lang/StringBuilder" 18 "java/lang/String") ∈ TG := tg_in (tt2 (List.mem_of_getElem? (i := 172) rfl)) rfl
theorem wd413 : (Cond.instantiable "java/lang/String" 4) ∈ TG := tg_in (tt2 (List.mem_of_getElem? (i := 173) rfl)) rfl
theorem wd414 : (Cond.methodLink "java/lang/StringBuilder" 137 y285) ∈ TG := tg_in (tt2 (List.mem_of_getElem? (i := 174) rfl)) rfl
theorem wd415 : (Cond.instanceMethod y285) ∈ TG := tg_in (tt2 (List.mem_of_getElem? (i := 175) rfl)) rfl
theorem wd416 : (Cond.code y285 prog_23_method_53_code 2 (Option.none : Option FieldType)) ∈ TG := tg_in (tt2 (List.mem_of_getElem? (i := 176) rfl)) rfl
theorem wd417 : (Cond.methodLink "java/lang/String" 489 y284) ∈ TG := tg_in (tt2 (List.mem_of_getElem? (i := 177) rfl)) rfl
theorem wd418 : (Cond.instanceMethod y284) ∈ TG := tg_in (tt2 (List.mem_of_getElem? (i := 178) rfl)) rfl
theorem wd419 : (Cond.code y284 prog_23_method_150_code 5 (Option.none : Option FieldType)) ∈ TG := tg_in (tt2 (List.mem_of_getElem? (i := 179) rfl)) rfl
theorem wd420 : (Cond.methodLink "java/lang/String" 1 y280) ∈ TG := tg_in (tt2 (List.mem_of_getElem? (i := 180) rfl)) rfl
theorem wd421 : (Cond.methodLink "java/lang/String" 552 y256) ∈ TG := tg_in (tt2 (List.mem_of_getElem? (i := 181) rfl)) rfl
theorem wd422 : (Cond.instanceMethod y256) ∈ TG := tg_in (tt2 (List.mem_of_getElem? (i := 182) rfl)) rfl
theorem wd423 : (Cond.sameMethod "java/lang/AbstractStringBuilder" "java/lang/AbstractStringBuilder" "getValue" "()[B") ∈ TG := tg_in (tt2 (List.mem_of_getElem? (i := 183) rfl)) rfl
theorem wd424 : (Cond.selects "java/lang/StringBuilder" y256 y256) ∈ TG := tg_in (tt2 (List.mem_of_getElem? (i := 184) rfl)) rfl
theorem wd425 : (Cond.code y256 prog_14_method_64_code 1 (Option.some (FieldType.array FieldType.byte))) ∈ TG := tg_in (tt2 (List.mem_of_getElem? (i := 185) rfl)) rfl
theorem wd426 : (Cond.methodLink "java/lang/String" 549 y260) ∈ TG := tg_in (tt2 (List.mem_of_getElem? (i := 186) rfl)) rfl
theorem wd427 : (Cond.instanceMethod y260) ∈ TG := tg_in (tt2 (List.mem_of_getElem? (i := 187) rfl)) rfl
theorem wd428 : (Cond.sameMethod "java/lang/AbstractStringBuilder" "java/lang/AbstractStringBuilder" "length" "()I") ∈ TG := tg_in (tt2 (List.mem_of_getElem? (i := 188) rfl)) rfl
theorem wd429 : (Cond.selects "java/lang/StringBuilder" y260 y305) ∈ TG := tg_in (tt2 (List.mem_of_getElem? (i := 189) rfl)) rfl
theorem wd430 : (Cond.instanceMethod y305) ∈ TG := tg_in (tt2 (List.mem_of_getElem? (i := 190) rfl)) rfl
theorem wd431 : (Cond.code y305 prog_24_method_93_code 1 (Option.some FieldType.int)) ∈ TG := tg_in (tt2 (List.mem_of_getElem? (i := 191) rfl)) rfl
theorem wd432 : (Cond.methodLink "java/lang/StringBuilder" 343 y260) ∈ TG := tg_in (tt2 (List.mem_of_getElem? (i := 192) rfl)) rfl
theorem wd433 : (Cond.code y260 prog_14_method_6_code 1 (Option.some FieldType.int)) ∈ TG := tg_in (tt2 (List.mem_of_getElem? (i := 193) rfl)) rfl
theorem wd434 : (Cond.methodLink "java/lang/String" 1047 y259) ∈ TG := tg_in (tt2 (List.mem_of_getElem? (i := 194) rfl)) rfl
theorem wd435 : (Cond.methodLink "java/lang/String" 54 y348) ∈ TG := tg_in (tt2 (List.mem_of_getElem? (i := 195) rfl)) rfl
theorem wd436 : (Cond.static y348) ∈ TG := tg_in (tt2 (List.mem_of_getElem? (i := 196) rfl)) rfl
theorem wd437 : (Cond.code y348 prog_29_method_132_code 3 (Option.some (FieldType.array FieldType.byte))) ∈ TG := tg_in (tt2 (List.mem_of_getElem? (i := 197) rfl)) rfl
theorem wd438 : (Cond.methodLink "java/util/Arrays" 339 y349) ∈ TG := tg_in (tt2 (List.mem_of_getElem? (i := 198) rfl)) rfl
theorem wd439 : (Cond.static y349) ∈ TG := tg_in (tt2 (List.mem_of_getElem? (i := 199) rfl)) rfl
theorem wd440 : (Cond.code y349 prog_29_method_133_code 5 (Option.some (FieldType.array FieldType.byte))) ∈ TG := tg_in (tt2 (List.mem_of_getElem? (i := 200) rfl)) rfl
theorem wd441 : (Cond.methodLink "java/util/Arrays" 343 y346) ∈ TG := tg_in (tt2 (List.mem_of_getElem? (i := 201) rfl)) rfl
theorem wd442 : (Cond.static y346) ∈ TG := tg_in (tt2 (List.mem_of_getElem? (i := 202) rfl)) rfl
theorem wd443 : (Cond.code y346 prog_29_method_131_code 2 (Option.none : Option FieldType)) ∈ TG := tg_in (tt2 (List.mem_of_getElem? (i := 203) rfl)) rfl
theorem wd444 : (Cond.classLink "java/util/Arrays" 43 "java/lang/IllegalArgumentException") ∈ TG := tg_in (tt2 (List.mem_of_getElem? (i := 204) rfl)) rfl
theorem wd445 : (Cond.instantiable "java/lang/IllegalArgumentException" 6) ∈ TG := tg_in (tt2 (List.mem_of_getElem? (i := 205) rfl)) rfl
theorem wd446 : (Cond.castable "java/lang/IllegalArgumentException" "java/lang/IllegalArgumentException") ∈ lw_tbl := tt2 (List.mem_of_getElem? (i := 206) rfl)
theorem wd447 : (Cond.declares y282) ∈ lw_tbl := tt2 (List.mem_of_getElem? (i := 207) rfl)
theorem wd448 : (Cond.declares y283) ∈ lw_tbl := tt2 (List.mem_of_getElem? (i := 208) rfl)
theorem wd449 : (Cond.declares y270) ∈ lw_tbl := tt2 (List.mem_of_getElem? (i := 209) rfl)
theorem wd450 : (Cond.declares y271) ∈ lw_tbl := tt2 (List.mem_of_getElem? (i := 210) rfl)
theorem wd451 : (Cond.declares y342) ∈ lw_tbl := tt2 (List.mem_of_getElem? (i := 211) rfl)
theorem wd452 : (Cond.declares y343) ∈ lw_tbl := tt2 (List.mem_of_getElem? (i := 212) rfl)
theorem wd453 : (Cond.selects "java/lang/IllegalArgumentException" y345 y345) ∈ TG := tg_in (tt2 (List.mem_of_getElem? (i := 213) rfl)) rfl
theorem wd454 : (Cond.selects "java/lang/IllegalArgumentException" y344 y344) ∈ TG := tg_in (tt2 (List.mem_of_getElem? (i := 214) rfl)) rfl
theorem wd455 : (Cond.lays "java/lang/IllegalArgumentException" "java/lang/Throwable" "cause" "Ljava/lang/Throwable;") ∈ TG := tg_in (tt2 (List.mem_of_getElem? (i := 215) rfl)) rfl
theorem wd456 : (Cond.lays "java/lang/Throwable" "java/lang/Throwable" "cause" "Ljava/lang/Throwable;") ∈ TG := tg_in (tt2 (List.mem_of_getElem? (i := 216) rfl)) rfl
theorem wd457 : (Cond.lays "java/lang/IllegalArgumentException" "java/lang/Throwable" "stackTrace" "[Ljava/lang/StackTraceElement;") ∈ TG := tg_in (tt2 (List.mem_of_getElem? (i := 217) rfl)) rfl
theorem wd458 : (Cond.lays "java/lang/Throwable" "java/lang/Throwable" "stackTrace" "[Ljava/lang/StackTraceElement;") ∈ TG := tg_in (tt2 (List.mem_of_getElem? (i := 218) rfl)) rfl
theorem wd459 : (Cond.lays "java/lang/IllegalArgumentException" "java/lang/Throwable" "suppressedExceptions" "Ljava/util/List;") ∈ TG := tg_in (tt2 (List.mem_of_getElem? (i := 219) rfl)) rfl
theorem wd460 : (Cond.lays "java/lang/Throwable" "java/lang/Throwable" "suppressedExceptions" "Ljava/util/List;") ∈ TG := tg_in (tt2 (List.mem_of_getElem? (i := 220) rfl)) rfl
theorem wd461 : (Cond.lays "java/lang/IllegalArgumentException" "java/lang/Throwable" "detailMessage" "Ljava/lang/String;") ∈ TG := tg_in (tt2 (List.mem_of_getElem? (i := 221) rfl)) rfl
theorem wd462 : (Cond.lays "java/lang/Throwable" "java/lang/Throwable" "detailMessage" "Ljava/lang/String;") ∈ TG := tg_in (tt2 (List.mem_of_getElem? (i := 222) rfl)) rfl
theorem wd463 : (Cond.lays "java/lang/IllegalArgumentException" "java/lang/Throwable" "backtrace" "Ljava/lang/Object;") ∈ TG := tg_in (tt2 (List.mem_of_getElem? (i := 223) rfl)) rfl
theorem wd464 : (Cond.lays "java/lang/Throwable" "java/lang/Throwable" "backtrace" "Ljava/lang/Object;") ∈ TG := tg_in (tt2 (List.mem_of_getElem? (i := 224) rfl)) rfl
theorem wd465 : (Cond.fieldLink "java/lang/Throwable" 198 "java/lang/Throwable" "backtrace" "Ljava/lang/Object;") ∈ TG := tg_in (tt2 (List.mem_of_getElem? (i := 225) rfl)) rfl
theorem wd466 : (Cond.superclass "java/lang/Throwable" "java/lang/Object") ∈ TG := tg_in (tt2 (List.mem_of_getElem? (i := 226) rfl)) rfl
theorem wd467 : (Cond.instanceMethod y342) ∈ TG := tg_in (tt2 (List.mem_of_getElem? (i := 227) rfl)) rfl
theorem wd468 : (Cond.code y342 prog_28_method_1_code 1 (Option.none : Option FieldType)) ∈ TG := tg_in (tt2 (List.mem_of_getElem? (i := 228) rfl)) rfl
theorem wd469 : (Cond.methodLink "java/lang/Throwable" 1 y280) ∈ TG := tg_in (tt2 (List.mem_of_getElem? (i := 229) rfl)) rfl
theorem wd470 : (Cond.fieldLink "java/lang/Throwable" 13 "java/lang/Throwable" "UNASSIGNED_STACK" "[Ljava/lang/StackTraceElement;") ∈ TG := tg_in (tt2 (List.mem_of_getElem? (i := 230) rfl)) rfl
theorem wd471 : (Cond.laysStatic "java/lang/Throwable" "UNASSIGNED_STACK" "[Ljava/lang/StackTraceElement;") ∈ lw_tbl := tt2 (List.mem_of_getElem? (i := 231) rfl)
theorem wd472 : (Cond.fieldLink "java/lang/Throwable" 20 "java/lang/Throwable" "SUPPRESSED_SENTINEL" "Ljava/util/List;") ∈ TG := tg_in (tt2 (List.mem_of_getElem? (i := 232) rfl)) rfl
theorem wd473 : (Cond.laysStatic "java/lang/Throwable" "SUPPRESSED_SENTINEL" "Ljava/util/List;") ∈ lw_tbl := tt2 (List.mem_of_getElem? (i := 233) rfl)
theorem wd474 : (Cond.methodLink "java/lang/Throwable" 27 y344) ∈ TG := tg_in (tt2 (List.mem_of_getElem? (i := 234) rfl)) rfl
theorem wd475 : (Cond.instanceMethod y344) ∈ TG := tg_in (tt2 (List.mem_of_getElem? (i := 235) rfl)) rfl
theorem wd476 : (Cond.sameMethod "java/lang/Throwable" "java/lang/Throwable" "fillInStackTrace" "()Ljava/lang/Throwable;") ∈ TG := tg_in (tt2 (List.mem_of_getElem? (i := 236) rfl)) rfl
theorem wd477 : (Cond.selects "java/lang/IllegalStateException" y344 y344) ∈ TG := tg_in (tt2 (List.mem_of_getElem? (i := 237) rfl)) rfl
theorem wd478 : (Cond.codeSync y344 prog_28_method_18_code 1 (Option.some (FieldType.object "java/lang/Throwable"))) ∈ TG := tg_in (tt2 (List.mem_of_getElem? (i := 238) rfl)) rfl
theorem wd479 : (Cond.methodLink "java/lang/Throwable" 202 y345) ∈ TG := tg_in (tt2 (List.mem_of_getElem? (i := 239) rfl)) rfl
theorem wd480 : (Cond.privateMethod y345) ∈ lw_tbl := tt3 (List.mem_of_getElem? (i := 0) rfl)
theorem wd481 : (Cond.instanceMethod y345) ∈ TG := tg_in (tt3 (List.mem_of_getElem? (i := 1) rfl)) rfl
theorem wd482 : (Cond.instantiable "java/lang/Throwable" 6) ∈ TG := tg_in (tt3 (List.mem_of_getElem? (i := 2) rfl)) rfl
theorem wd483 : (Cond.native y345) ∈ TG := tg_in (tt3 (List.mem_of_getElem? (i := 3) rfl)) rfl
theorem wd484 : (Cond.classLink "java/util/Arrays" 45 "java/lang/StringBuilder") ∈ TG := tg_in (tt3 (List.mem_of_getElem? (i := 4) rfl)) rfl
theorem wd485 : (Cond.methodLink "java/util/Arrays" 47 y301) ∈ TG := tg_in (tt3 (List.mem_of_getElem? (i := 5) rfl)) rfl
theorem wd486 : (Cond.methodLink "java/util/Arrays" 54 y303) ∈ TG := tg_in (tt3 (List.mem_of_getElem? (i := 6) rfl)) rfl
theorem wd487 : (Cond.instanceMethod y303) ∈ TG := tg_in (tt3 (List.mem_of_getElem? (i := 7) rfl)) rfl
theorem wd488 : (Cond.selects "java/lang/StringBuilder" y303 y303) ∈ TG := tg_in (tt3 (List.mem_of_getElem? (i := 8) rfl)) rfl
theorem wd489 : (Cond.code y303 prog_24_method_15_code 2 (Option.some (FieldType.object "java/lang/StringBuilder"))) ∈ TG := tg_in (tt3 (List.mem_of_getElem? (i := 9) rfl)) rfl
theorem wd490 : (Cond.methodLink "java/lang/StringBuilder" 53 y252) ∈ TG := tg_in (tt3 (List.mem_of_getElem? (i := 10) rfl)) rfl
theorem wd491 : (Cond.instanceMethod y252) ∈ TG := tg_in (tt3 (List.mem_of_getElem? (i := 11) rfl)) rfl
theorem wd492 : (Cond.code y252 prog_14_method_32_code 4 (Option.some (FieldType.object "java/lang/AbstractStringBuilder"))) ∈ TG := tg_in (tt3 (List.mem_of_getElem? (i := 12) rfl)) rfl
theorem wd493 : (Cond.methodLink "java/lang/AbstractStringBuilder" 245 y275) ∈ TG := tg_in (tt3 (List.mem_of_getElem? (i := 13) rfl)) rfl
theorem wd494 : (Cond.static y275) ∈ TG := tg_in (tt3 (List.mem_of_getElem? (i := 14) rfl)) rfl
theorem wd495 : (Cond.code y275 prog_20_method_13_code 4 (Option.some FieldType.int)) ∈ TG := tg_in (tt3 (List.mem_of_getElem? (i := 15) rfl)) rfl
theorem wd496 : (Cond.methodLink "java/lang/AbstractStringBuilder" 248 y274) ∈ TG := tg_in (tt3 (List.mem_of_getElem? (i := 16) rfl)) rfl
theorem wd497 : (Cond.static y274) ∈ TG := tg_in (tt3 (List.mem_of_getElem? (i := 17) rfl)) rfl
theorem wd498 : (Cond.code y274 prog_20_method_12_code 7 (Option.some FieldType.int)) ∈ TG := tg_in (tt3 (List.mem_of_getElem? (i := 18) rfl)) rfl
theorem wd499 : (Cond.fieldLink "java/lang/Integer" 83 "java/lang/Integer" "DigitOnes" "[B") ∈ TG := tg_in (tt3 (List.mem_of_getElem? (i := 19) rfl)) rfl
theorem wd500 : (Cond.laysStatic "java/lang/Integer" "DigitOnes" "[B") ∈ lw_tbl := tt3 (List.mem_of_getElem? (i := 20) rfl)
theorem wd501 : (Cond.fieldLink "java/lang/Integer" 87 "java/lang/Integer" "DigitTens" "[B") ∈ TG := tg_in (tt3 (List.mem_of_getElem? (i := 21) rfl)) rfl
theorem wd502 : (Cond.laysStatic "java/lang/Integer" "DigitTens" "[B") ∈ lw_tbl := tt3 (List.mem_of_getElem? (i := 22) rfl)
theorem wd503 : (Cond.methodLink "java/lang/AbstractStringBuilder" 251 y325) ∈ TG := tg_in (tt3 (List.mem_of_getElem? (i := 23) rfl)) rfl
theorem wd504 : (Cond.static y325) ∈ TG := tg_in (tt3 (List.mem_of_getElem? (i := 24) rfl)) rfl
theorem wd505 : (Cond.code y325 prog_26_method_77_code 5 (Option.some FieldType.int)) ∈ TG := tg_in (tt3 (List.mem_of_getElem? (i := 25) rfl)) rfl
theorem wd506 : (Cond.methodLink "java/lang/StringUTF16" 96 y317) ∈ TG := tg_in (tt3 (List.mem_of_getElem? (i := 26) rfl)) rfl
theorem wd507 : (Cond.static y317) ∈ TG := tg_in (tt3 (List.mem_of_getElem? (i := 27) rfl)) rfl
theorem wd508 : (Cond.code y317 prog_26_method_93_code 3 (Option.none : Option FieldType)) ∈ TG := tg_in (tt3 (List.mem_of_getElem? (i := 28) rfl)) rfl
theorem wd509 : (Cond.methodLink "java/lang/StringUTF16" 241 y288) ∈ TG := tg_in (tt3 (List.mem_of_getElem? (i := 29) rfl)) rfl
theorem wd510 : (Cond.static y288) ∈ TG := tg_in (tt3 (List.mem_of_getElem? (i := 30) rfl)) rfl
theorem wd511 : (Cond.code y288 prog_23_method_158_code 3 (Option.none : Option FieldType)) ∈ TG := tg_in (tt3 (List.mem_of_getElem? (i := 31) rfl)) rfl
theorem wd512 : (Cond.methodLink "java/lang/String" 1062 y353) ∈ TG := tg_in (tt3 (List.mem_of_getElem? (i := 32) rfl)) rfl
theorem wd513 : (Cond.static y353) ∈ TG := tg_in (tt3 (List.mem_of_getElem? (i := 33) rfl)) rfl
theorem wd514 : (Cond.code y353 prog_31_method_12_code 4 (Option.some FieldType.int)) ∈ TG := tg_in (tt3 (List.mem_of_getElem? (i := 34) rfl)) rfl
theorem wd515 : (Cond.methodLink "java/lang/StringUTF16" 393 y326) ∈ TG := tg_in (tt3 (List.mem_of_getElem? (i := 35) rfl)) rfl
theorem wd516 : (Cond.static y326) ∈ TG := tg_in (tt3 (List.mem_of_getElem? (i := 36) rfl)) rfl
theorem wd517 : (Cond.code y326 prog_26_method_89_code 7 (Option.some FieldType.int)) ∈ TG := tg_in (tt3 (List.mem_of_getElem? (i := 37) rfl)) rfl
theorem wd518 : (Cond.fieldLink "java/lang/StringUTF16" 403 "java/lang/Integer" "DigitOnes" "[B") ∈ TG := tg_in (tt3 (List.mem_of_getElem? (i := 38) rfl)) rfl
theorem wd519 : (Cond.fieldLink "java/lang/StringUTF16" 407 "java/lang/Integer" "DigitTens" "[B") ∈ TG := tg_in (tt3 (List.mem_of_getElem? (i := 39) rfl)) rfl
theorem wd520 : (Cond.stringRef "java/util/Arrays" 337 " > ") ∈ lw_tbl := tt3 (List.mem_of_getElem? (i := 40) rfl)
theorem wd521 : (Cond.methodLink "java/util/Arrays" 50 y304) ∈ TG := tg_in (tt3 (List.mem_of_getElem? (i := 41) rfl)) rfl
theorem wd522 : (Cond.instanceMethod y304) ∈ TG := tg_in (tt3 (List.mem_of_getElem? (i := 42) rfl)) rfl
theorem wd523 : (Cond.selects "java/lang/StringBuilder" y304 y304) ∈ TG := tg_in (tt3 (List.mem_of_getElem? (i := 43) rfl)) rfl
theorem wd524 : (Cond.code y304 prog_24_method_7_code 2 (Option.some (FieldType.object "java/lang/StringBuilder"))) ∈ TG := tg_in (tt3 (List.mem_of_getElem? (i := 44) rfl)) rfl
theorem wd525 : (Cond.methodLink "java/lang/StringBuilder" 29 y253) ∈ TG := tg_in (tt3 (List.mem_of_getElem? (i := 45) rfl)) rfl
theorem wd526 : (Cond.instanceMethod y253) ∈ TG := tg_in (tt3 (List.mem_of_getElem? (i := 46) rfl)) rfl
theorem wd527 : (Cond.code y253 prog_14_method_22_code 3 (Option.some (FieldType.object "java/lang/AbstractStringBuilder"))) ∈ TG := tg_in (tt3 (List.mem_of_getElem? (i := 47) rfl)) rfl
theorem wd528 : (Cond.methodLink "java/lang/AbstractStringBuilder" 204 y254) ∈ TG := tg_in (tt3 (List.mem_of_getElem? (i := 48) rfl)) rfl
theorem wd529 : (Cond.privateMethod y254) ∈ lw_tbl := tt3 (List.mem_of_getElem? (i := 49) rfl)
theorem wd530 : (Cond.instanceMethod y254) ∈ TG := tg_in (tt3 (List.mem_of_getElem? (i := 50) rfl)) rfl
theorem wd531 : (Cond.code y254 prog_14_method_26_code 3 (Option.some (FieldType.object "java/lang/AbstractStringBuilder"))) ∈ TG := tg_in (tt3 (List.mem_of_getElem? (i := 51) rfl)) rfl
theorem wd532 : (Cond.methodLink "java/lang/AbstractStringBuilder" 226 y338) ∈ TG := tg_in (tt3 (List.mem_of_getElem? (i := 52) rfl)) rfl
theorem wd533 : (Cond.static y338) ∈ TG := tg_in (tt3 (List.mem_of_getElem? (i := 53) rfl)) rfl
theorem wd534 : (Cond.code y338 prog_26_method_81_code 7 (Option.some FieldType.int)) ∈ TG := tg_in (tt3 (List.mem_of_getElem? (i := 54) rfl)) rfl
theorem wd535 : (Cond.methodLink "java/lang/AbstractStringBuilder" 32 y299) ∈ TG := tg_in (tt3 (List.mem_of_getElem? (i := 55) rfl)) rfl
theorem wd536 : (Cond.instanceMethod y299) ∈ TG := tg_in (tt3 (List.mem_of_getElem? (i := 56) rfl)) rfl
theorem wd537 : (Cond.selects "java/lang/String" y299 y299) ∈ TG := tg_in (tt3 (List.mem_of_getElem? (i := 57) rfl)) rfl
theorem wd538 : (Cond.code y299 prog_23_method_54_code 1 (Option.some FieldType.int)) ∈ TG := tg_in (tt3 (List.mem_of_getElem? (i := 58) rfl)) rfl
theorem wd539 : (Cond.methodLink "java/lang/String" 335 y292) ∈ TG := tg_in (tt3 (List.mem_of_getElem? (i := 59) rfl)) rfl
theorem wd540 : (Cond.instanceMethod y292) ∈ TG := tg_in (tt3 (List.mem_of_getElem? (i := 60) rfl)) rfl
theorem wd541 : (Cond.selects "java/lang/String" y292 y292) ∈ TG := tg_in (tt3 (List.mem_of_getElem? (i := 61) rfl)) rfl
theorem wd542 : (Cond.code y292 prog_23_method_152_code 1 (Option.some FieldType.byte)) ∈ TG := tg_in (tt3 (List.mem_of_getElem? (i := 62) rfl)) rfl
theorem wd543 : (Cond.fieldLink "java/lang/String" 38 "java/lang/String" "COMPACT_STRINGS" "Z") ∈ TG := tg_in (tt3 (List.mem_of_getElem? (i := 63) rfl)) rfl
theorem wd544 : (Cond.methodLink "java/lang/AbstractStringBuilder" 208 y262) ∈ TG := tg_in (tt3 (List.mem_of_getElem? (i := 64) rfl)) rfl
theorem wd545 : (Cond.privateMethod y262) ∈ lw_tbl := tt3 (List.mem_of_getElem? (i := 65) rfl)
theorem wd546 : (Cond.instanceMethod y262) ∈ TG := tg_in (tt3 (List.mem_of_getElem? (i := 66) rfl)) rfl
theorem wd547 : (Cond.code y262 prog_14_method_73_code 3 (Option.none : Option FieldType)) ∈ TG := tg_in (tt3 (List.mem_of_getElem? (i := 67) rfl)) rfl
theorem wd548 : (Cond.methodLink "java/lang/AbstractStringBuilder" 397 y258) ∈ TG := tg_in (tt3 (List.mem_of_getElem? (i := 68) rfl)) rfl
theorem wd549 : (Cond.privateMethod y258) ∈ lw_tbl := tt3 (List.mem_of_getElem? (i := 69) rfl)
theorem wd550 : (Cond.instanceMethod y258) ∈ TG := tg_in (tt3 (List.mem_of_getElem? (i := 70) rfl)) rfl
theorem wd551 : (Cond.code y258 prog_14_method_71_code 2 (Option.none : Option FieldType)) ∈ TG := tg_in (tt3 (List.mem_of_getElem? (i := 71) rfl)) rfl
theorem wd552 : (Cond.methodLink "java/lang/AbstractStringBuilder" 40 y292) ∈ TG := tg_in (tt3 (List.mem_of_getElem? (i := 72) rfl)) rfl
theorem wd553 : (Cond.methodLink "java/lang/AbstractStringBuilder" 399 y294) ∈ TG := tg_in (tt3 (List.mem_of_getElem? (i := 73) rfl)) rfl
theorem wd554 : (Cond.instanceMethod y294) ∈ TG := tg_in (tt3 (List.mem_of_getElem? (i := 74) rfl)) rfl
theorem wd555 : (Cond.selects "java/lang/String" y294 y294) ∈ TG := tg_in (tt3 (List.mem_of_getElem? (i := 75) rfl)) rfl
theorem wd556 : (Cond.code y294 prog_23_method_147_code 4 (Option.none : Option FieldType)) ∈ TG := tg_in (tt3 (List.mem_of_getElem? (i := 76) rfl)) rfl
theorem wd557 : (Cond.methodLink "java/lang/String" 212 y341) ∈ TG := tg_in (tt3 (List.mem_of_getElem? (i := 77) rfl)) rfl
theorem wd558 : (Cond.methodLink "java/lang/String" 106 y314) ∈ TG := tg_in (tt3 (List.mem_of_getElem? (i := 78) rfl)) rfl
theorem wd559 : (Cond.methodLink "java/util/Arrays" 61 y307) ∈ TG := tg_in (tt3 (List.mem_of_getElem? (i := 79) rfl)) rfl
theorem wd560 : (Cond.methodLink "java/util/Arrays" 65 y272) ∈ TG := tg_in (tt3 (List.mem_of_getElem? (i := 80) rfl)) rfl
theorem wd561 : (Cond.instanceMethod y272) ∈ TG := tg_in (tt3 (List.mem_of_getElem? (i := 81) rfl)) rfl
theorem wd562 : (Cond.code y272 prog_18_method_2_code 2 (Option.none : Option FieldType)) ∈ TG := tg_in (tt3 (List.mem_of_getElem? (i := 82) rfl)) rfl
theorem wd563 : (Cond.methodLink "java/lang/IllegalArgumentException" 7 y283) ∈ TG := tg_in (tt3 (List.mem_of_getElem? (i := 83) rfl)) rfl
theorem wd564 : (Cond.instanceMethod y283) ∈ TG := tg_in (tt3 (List.mem_of_getElem? (i := 84) rfl)) rfl
theorem wd565 : (Cond.code y283 prog_22_method_2_code 2 (Option.none : Option FieldType)) ∈ TG := tg_in (tt3 (List.mem_of_getElem? (i := 85) rfl)) rfl
theorem wd566 : (Cond.methodLink "java/lang/RuntimeException" 7 y271) ∈ TG := tg_in (tt3 (List.mem_of_getElem? (i := 86) rfl)) rfl
theorem wd567 : (Cond.instanceMethod y271) ∈ TG := tg_in (tt3 (List.mem_of_getElem? (i := 87) rfl)) rfl
theorem wd568 : (Cond.code y271 prog_17_method_2_code 2 (Option.none : Option FieldType)) ∈ TG := tg_in (tt3 (List.mem_of_getElem? (i := 88) rfl)) rfl
theorem wd569 : (Cond.methodLink "java/lang/Exception" 7 y343) ∈ TG := tg_in (tt3 (List.mem_of_getElem? (i := 89) rfl)) rfl
theorem wd570 : (Cond.instanceMethod y343) ∈ TG := tg_in (tt3 (List.mem_of_getElem? (i := 90) rfl)) rfl
theorem wd571 : (Cond.code y343 prog_28_method_2_code 2 (Option.none : Option FieldType)) ∈ TG := tg_in (tt3 (List.mem_of_getElem? (i := 91) rfl)) rfl
theorem wd572 : (Cond.fieldLink "java/lang/Throwable" 198 "java/lang/Throwable" "backtrace" "Ljava/lang/Object;") ∈ TG := tg_in (tt3 (List.mem_of_getElem? (i := 92) rfl)) rfl
theorem wd573 : (Cond.fieldLink "java/lang/Throwable" 31 "java/lang/Throwable" "detailMessage" "Ljava/lang/String;") ∈ TG := tg_in (tt3 (List.mem_of_getElem? (i := 93) rfl)) rfl
theorem wd574 : (Cond.fieldLink "java/lang/Throwable" 7 "java/lang/Throwable" "cause" "Ljava/lang/Throwable;") ∈ TG := tg_in (tt3 (List.mem_of_getElem? (i := 94) rfl)) rfl
theorem wd575 : (Cond.fieldLink "java/lang/Throwable" 17 "java/lang/Throwable" "stackTrace" "[Ljava/lang/StackTraceElement;") ∈ TG := tg_in (tt3 (List.mem_of_getElem? (i := 95) rfl)) rfl
theorem wd576 : (Cond.fieldLink "java/lang/Throwable" 24 "java/lang/Throwable" "suppressedExceptions" "Ljava/util/List;") ∈ TG := tg_in (tt3 (List.mem_of_getElem? (i := 96) rfl)) rfl
theorem wd577 : (Cond.soleField "java/lang/Throwable" "backtrace") ∈ TG := tg_in (tt3 (List.mem_of_getElem? (i := 97) rfl)) rfl
theorem wd578 : (Cond.soleField "java/lang/Throwable" "detailMessage") ∈ TG := tg_in (tt3 (List.mem_of_getElem? (i := 98) rfl)) rfl
theorem wd579 : (Cond.soleField "java/lang/Throwable" "cause") ∈ TG := tg_in (tt3 (List.mem_of_getElem? (i := 99) rfl)) rfl
theorem wd580 : (Cond.soleField "java/lang/Throwable" "stackTrace") ∈ TG := tg_in (tt3 (List.mem_of_getElem? (i := 100) rfl)) rfl
theorem wd581 : (Cond.lays "java/lang/IllegalArgumentException" "java/lang/Throwable" "depth" "I") ∈ TG := tg_in (tt3 (List.mem_of_getElem? (i := 101) rfl)) rfl
theorem wd582 : (Cond.soleField "java/lang/Throwable" "depth") ∈ TG := tg_in (tt3 (List.mem_of_getElem? (i := 102) rfl)) rfl
theorem wd583 : (Cond.soleField "java/lang/Throwable" "suppressedExceptions") ∈ TG := tg_in (tt3 (List.mem_of_getElem? (i := 103) rfl)) rfl
theorem wd584 : (Cond.superclass "java/lang/IllegalArgumentException" "java/lang/RuntimeException") ∈ TG := tg_in (tt3 (List.mem_of_getElem? (i := 104) rfl)) rfl
theorem wd585 : (Cond.methodLink "java/lang/String" 1051 y322) ∈ TG := tg_in (tt3 (List.mem_of_getElem? (i := 105) rfl)) rfl
theorem wd586 : (Cond.static y322) ∈ TG := tg_in (tt3 (List.mem_of_getElem? (i := 106) rfl)) rfl
theorem wd587 : (Cond.code y322 prog_26_method_17_code 6 (Option.some (FieldType.array FieldType.byte))) ∈ TG := tg_in (tt3 (List.mem_of_getElem? (i := 107) rfl)) rfl
theorem wd588 : (Cond.methodLink "java/lang/StringUTF16" 123 y323) ∈ TG := tg_in (tt3 (List.mem_of_getElem? (i := 108) rfl)) rfl
theorem wd589 : (Cond.static y323) ∈ TG := tg_in (tt3 (List.mem_of_getElem? (i := 109) rfl)) rfl
theorem wd590 : (Cond.code y323 prog_26_method_22_code 7 (Option.some FieldType.int)) ∈ TG := tg_in (tt3 (List.mem_of_getElem? (i := 110) rfl)) rfl
theorem wd591 : (Cond.methodLink "java/lang/StringUTF16" 71 y324) ∈ TG := tg_in (tt3 (List.mem_of_getElem? (i := 111) rfl)) rfl
theorem wd592 : (Cond.static y324) ∈ TG := tg_in (tt3 (List.mem_of_getElem? (i := 112) rfl)) rfl
theorem wd593 : (Cond.code y324 prog_26_method_5_code 2 (Option.some FieldType.char)) ∈ TG := tg_in (tt3 (List.mem_of_getElem? (i := 113) rfl)) rfl
theorem wd594 : (Cond.methodLink "java/lang/StringUTF16" 126 y348) ∈ TG := tg_in (tt3 (List.mem_of_getElem? (i := 114) rfl)) rfl
theorem wd595 : (Cond.methodLink "java/lang/String" 47 y321) ∈ TG := tg_in (tt3 (List.mem_of_getElem? (i := 115) rfl)) rfl
theorem wd596 : (Cond.static y321) ∈ TG := tg_in (tt3 (List.mem_of_getElem? (i := 116) rfl)) rfl
theorem wd597 : (Cond.code y321 prog_26_method_15_code 2 (Option.some FieldType.byte)) ∈ TG := tg_in (tt3 (List.mem_of_getElem? (i := 117) rfl)) rfl
theorem wd598 : (Cond.fieldLink "java/lang/String" 9 "java/lang/String" "value" "[B") ∈ TG := tg_in (tt3 (List.mem_of_getElem? (i := 118) rfl)) rfl
theorem wd599 : (Cond.fieldLink "java/lang/String" 15 "java/lang/String" "coder" "B") ∈ TG := tg_in (tt3 (List.mem_of_getElem? (i := 119) rfl)) rfl
theorem wd600 : (Cond.laysFinal "java/lang/String" "java/lang/String" "value" "[B") ∈ TG := tg_in (tt3 (List.mem_of_getElem? (i := 120) rfl)) rfl
theorem wd601 : (Cond.soleField "java/lang/String" "value") ∈ TG := tg_in (tt3 (List.mem_of_getElem? (i := 121) rfl)) rfl
theorem wd602 : (Cond.laysFinal "java/lang/String" "java/lang/String" "coder" "B") ∈ TG := tg_in (tt3 (List.mem_of_getElem? (i := 122) rfl)) rfl
theorem wd603 : (Cond.soleField "java/lang/String" "coder") ∈ TG := tg_in (tt3 (List.mem_of_getElem? (i := 123) rfl)) rfl
theorem wd604 : (Cond.lays "java/lang/String" "java/lang/String" "hash" "I") ∈ TG := tg_in (tt3 (List.mem_of_getElem? (i := 124) rfl)) rfl
theorem wd605 : (Cond.soleField "java/lang/String" "hash") ∈ TG := tg_in (tt3 (List.mem_of_getElem? (i := 125) rfl)) rfl
theorem wd606 : (Cond.lays "java/lang/String" "java/lang/String" "hashIsZero" "Z") ∈ TG := tg_in (tt3 (List.mem_of_getElem? (i := 126) rfl)) rfl
theorem wd607 : (Cond.soleField "java/lang/String" "hashIsZero") ∈ TG := tg_in (tt3 (List.mem_of_getElem? (i := 127) rfl)) rfl
theorem wd608 : (Cond.superclass "java/lang/String" "java/lang/Object") ∈ TG := tg_in (tt3 (List.mem_of_getElem? (i := 128) rfl)) rfl
theorem wd609 : (Cond.methodLink "WordFunctionsLaw" 35 y7) ∈ TG := tg_in (tt3 (List.mem_of_getElem? (i := 129) rfl)) rfl
theorem wd610 : (Cond.instanceMethod y7) ∈ TG := tg_in (tt3 (List.mem_of_getElem? (i := 130) rfl)) rfl
theorem wd611 : (Cond.selects "WordFunctions" y7 y7) ∈ TG := tg_in (tt3 (List.mem_of_getElem? (i := 131) rfl)) rfl
theorem wd612 : (Cond.code y7 prog_1_method_5_code 3 (Option.some FieldType.boolean)) ∈ TG := tg_in (tt3 (List.mem_of_getElem? (i := 132) rfl)) rfl
theorem wd613 : (Cond.methodLink "WordFunctions" 87 y8) ∈ TG := tg_in (tt3 (List.mem_of_getElem? (i := 133) rfl)) rfl
theorem wd614 : (Cond.static y8) ∈ TG := tg_in (tt3 (List.mem_of_getElem? (i := 134) rfl)) rfl
theorem wd615 : (Cond.code y8 prog_1_method_17_code 2 (Option.some FieldType.boolean)) ∈ TG := tg_in (tt3 (List.mem_of_getElem? (i := 135) rfl)) rfl
theorem wd616 : (Cond.constant "WordFunctions" 222 (1048576 : Int32)) ∈ TG := tg_in (tt3 (List.mem_of_getElem? (i := 136) rfl)) rfl
theorem wd617 : (Cond.methodLink "WordFunctionsLaw" 50 y16) ∈ TG := tg_in (tt3 (List.mem_of_getElem? (i := 137) rfl)) rfl
theorem wd618 : (Cond.instanceMethod y16) ∈ TG := tg_in (tt3 (List.mem_of_getElem? (i := 138) rfl)) rfl
theorem wd619 : (Cond.selects "WordFunctions" y16 y16) ∈ TG := tg_in (tt3 (List.mem_of_getElem? (i := 139) rfl)) rfl
theorem wd620 : (Cond.code y16 prog_1_method_7_code 3 (Option.some FieldType.boolean)) ∈ TG := tg_in (tt3 (List.mem_of_getElem? (i := 140) rfl)) rfl
theorem wd621 : (Cond.methodLink "WordFunctions" 112 y44) ∈ TG := tg_in (tt3 (List.mem_of_getElem? (i := 141) rfl)) rfl
theorem wd622 : (Cond.instanceMethod y44) ∈ TG := tg_in (tt3 (List.mem_of_getElem? (i := 142) rfl)) rfl
theorem wd623 : (Cond.selects "WordFunctions$Arguments" y44 y44) ∈ TG := tg_in (tt3 (List.mem_of_getElem? (i := 143) rfl)) rfl
theorem wd624 : (Cond.code y44 prog_3_method_4_code 4 (Option.some FieldType.boolean)) ∈ TG := tg_in (tt3 (List.mem_of_getElem? (i := 144) rfl)) rfl
theorem wd625 : (Cond.methodLink "WordFunctions$Arguments" 62 y35) ∈ TG := tg_in (tt3 (List.mem_of_getElem? (i := 145) rfl)) rfl
theorem wd626 : (Cond.instanceMethod y35) ∈ TG := tg_in (tt3 (List.mem_of_getElem? (i := 146) rfl)) rfl
theorem wd627 : (Cond.selects "WordFunctions$Arguments" y35 y35) ∈ TG := tg_in (tt3 (List.mem_of_getElem? (i := 147) rfl)) rfl
theorem wd628 : (Cond.code y35 prog_3_method_6_code 2 (Option.some (FieldType.object "WordFunctions$Grid"))) ∈ TG := tg_in (tt3 (List.mem_of_getElem? (i := 148) rfl)) rfl
theorem wd629 : (Cond.methodLinkNest "WordFunctions$Arguments" 66 y8 "WordFunctions") ∈ lw_tbl := tt3 (List.mem_of_getElem? (i := 149) rfl)
theorem wd630 : (Cond.methodLink "WordFunctionsLaw" 56 y14) ∈ TG := tg_in (tt3 (List.mem_of_getElem? (i := 150) rfl)) rfl
theorem wd631 : (Cond.instanceMethod y14) ∈ TG := tg_in (tt3 (List.mem_of_getElem? (i := 151) rfl)) rfl
theorem wd632 : (Cond.selects "WordFunctions" y14 y14) ∈ TG := tg_in (tt3 (List.mem_of_getElem? (i := 152) rfl)) rfl
theorem wd633 : (Cond.code y14 prog_1_method_8_code 7 (Option.some FieldType.boolean)) ∈ TG := tg_in (tt3 (List.mem_of_getElem? (i := 153) rfl)) rfl
theorem wd634 : (Cond.methodLink "WordFunctions" 115 y130) ∈ TG := tg_in (tt3 (List.mem_of_getElem? (i := 154) rfl)) rfl
theorem wd635 : (Cond.methodLink "WordFunctions" 121 y43) ∈ TG := tg_in (tt3 (List.mem_of_getElem? (i := 155) rfl)) rfl
theorem wd636 : (Cond.instanceMethod y43) ∈ TG := tg_in (tt3 (List.mem_of_getElem? (i := 156) rfl)) rfl
theorem wd637 : (Cond.selects "WordFunctions$Arguments" y43 y43) ∈ TG := tg_in (tt3 (List.mem_of_getElem? (i := 157) rfl)) rfl
theorem wd638 : (Cond.code y43 prog_3_method_5_code 4 (Option.some FieldType.boolean)) ∈ TG := tg_in (tt3 (List.mem_of_getElem? (i := 158) rfl)) rfl
theorem wd639 : (Cond.constantDouble "WordFunctions" 125 (9094988921128908188 : UInt64)) ∈ TG := tg_in (tt3 (List.mem_of_getElem? (i := 159) rfl)) rfl
theorem wd640 : (Cond.methodLink "WordFunctions" 127 y132) ∈ TG := tg_in (tt3 (List.mem_of_getElem? (i := 160) rfl)) rfl
theorem wd641 : (Cond.static y132) ∈ TG := tg_in (tt3 (List.mem_of_getElem? (i := 161) rfl)) rfl
theorem wd642 : (Cond.code y132 prog_11_method_3_code 2 (Option.some (FieldType.object "WordFunctions$Value"))) ∈ TG := tg_in (tt3 (List.mem_of_getElem? (i := 162) rfl)) rfl
theorem wd643 : (Cond.methodLink "WordFunctions" 131 y134) ∈ TG := tg_in (tt3 (List.mem_of_getElem? (i := 163) rfl)) rfl
theorem wd644 : (Cond.static y134) ∈ TG := tg_in (tt3 (List.mem_of_getElem? (i := 164) rfl)) rfl
theorem wd645 : (Cond.code y134 prog_11_method_5_code 1 (Option.some (FieldType.object "WordFunctions$Value"))) ∈ TG := tg_in (tt3 (List.mem_of_getElem? (i := 165) rfl)) rfl
theorem wd646 : (Cond.methodLink "WordFunctions" 135 y4) ∈ TG := tg_in (tt3 (List.mem_of_getElem? (i := 166) rfl)) rfl
theorem wd647 : (Cond.static y4) ∈ TG := tg_in (tt3 (List.mem_of_getElem? (i := 167) rfl)) rfl
theorem wd648 : (Cond.code y4 prog_1_method_9_code 3 (Option.some FieldType.int)) ∈ TG := tg_in (tt3 (List.mem_of_getElem? (i := 168) rfl)) rfl
theorem wd649 : (Cond.methodLink "WordFunctions" 139 y131) ∈ TG := tg_in (tt3 (List.mem_of_getElem? (i := 169) rfl)) rfl
theorem wd650 : (Cond.static y131) ∈ TG := tg_in (tt3 (List.mem_of_getElem? (i := 170) rfl)) rfl
theorem wd651 : (Cond.code y131 prog_11_method_6_code 1 (Option.some (FieldType.object "WordFunctions$Value"))) ∈ TG := tg_in (tt3 (List.mem_of_getElem? (i := 171) rfl)) rfl
theorem wd652 : (Cond.methodLink "WordFunctionsLaw" 61 y15) ∈ TG := tg_in (tt3 (List.mem_of_getElem? (i := 172) rfl)) rfl
theorem wd653 : (Cond.instanceMethod y15) ∈ TG := tg_in (tt3 (List.mem_of_getElem? (i := 173) rfl)) rfl
theorem wd654 : (Cond.selects "WordFunctions" y15 y15) ∈ TG := tg_in (tt3 (List.mem_of_getElem? (i := 174) rfl)) rfl
theorem wd655 : (Cond.code y15 prog_1_method_10_code 2 (Option.some FieldType.boolean)) ∈ TG := tg_in (tt3 (List.mem_of_getElem? (i := 175) rfl)) rfl
theorem wd656 : (Cond.methodLink "WordFunctions" 143 y133) ∈ TG := tg_in (tt3 (List.mem_of_getElem? (i := 176) rfl)) rfl
theorem wd657 : (Cond.static y133) ∈ TG := tg_in (tt3 (List.mem_of_getElem? (i := 177) rfl)) rfl
theorem wd658 : (Cond.code y133 prog_11_method_4_code 1 (Option.some (FieldType.object "WordFunctions$Value"))) ∈ TG := tg_in (tt3 (List.mem_of_getElem? (i := 178) rfl)) rfl
theorem wd659 : (Cond.methodLink "WordFunctionsLaw" 69 y17) ∈ TG := tg_in (tt3 (List.mem_of_getElem? (i := 179) rfl)) rfl
theorem wd660 : (Cond.instanceMethod y17) ∈ TG := tg_in (tt3 (List.mem_of_getElem? (i := 180) rfl)) rfl
theorem wd661 : (Cond.selects "WordFunctions" y17 y17) ∈ TG := tg_in (tt3 (List.mem_of_getElem? (i := 181) rfl)) rfl
theorem wd662 : (Cond.code y17 prog_1_method_13_code 2 (Option.some FieldType.int)) ∈ TG := tg_in (tt3 (List.mem_of_getElem? (i := 182) rfl)) rfl
theorem wd663 : (Cond.methodLink "WordFunctionsLaw" 74 y13) ∈ TG := tg_in (tt3 (List.mem_of_getElem? (i := 183) rfl)) rfl
theorem wd664 : (Cond.instanceMethod y13) ∈ TG := tg_in (tt3 (List.mem_of_getElem? (i := 184) rfl)) rfl
theorem wd665 : (Cond.selects "WordFunctions" y13 y13) ∈ TG := tg_in (tt3 (List.mem_of_getElem? (i := 185) rfl)) rfl
theorem wd666 : (Cond.code y13 prog_1_method_14_code 3 (Option.some FieldType.int)) ∈ TG := tg_in (tt3 (List.mem_of_getElem? (i := 186) rfl)) rfl
theorem wd667 : (Cond.methodLink "WordFunctions" 202 y26) ∈ TG := tg_in (tt3 (List.mem_of_getElem? (i := 187) rfl)) rfl
theorem wd668 : (Cond.instanceMethod y26) ∈ TG := tg_in (tt3 (List.mem_of_getElem? (i := 188) rfl)) rfl
theorem wd669 : (Cond.selects "WordFunctions$Answer" y26 y26) ∈ TG := tg_in (tt3 (List.mem_of_getElem? (i := 189) rfl)) rfl
theorem wd670 : (Cond.code y26 prog_2_method_7_code 3 (Option.some FieldType.boolean)) ∈ TG := tg_in (tt3 (List.mem_of_getElem? (i := 190) rfl)) rfl
theorem wd671 : (Cond.methodLink "WordFunctionsLaw" 79 y20) ∈ TG := tg_in (tt3 (List.mem_of_getElem? (i := 191) rfl)) rfl
theorem wd672 : (Cond.instanceMethod y20) ∈ TG := tg_in (tt3 (List.mem_of_getElem? (i := 192) rfl)) rfl
theorem wd673 : (Cond.selects "WordFunctions" y20 y20) ∈ TG := tg_in (tt3 (List.mem_of_getElem? (i := 193) rfl)) rfl
theorem wd674 : (Cond.code y20 prog_1_method_15_code 2 (Option.some FieldType.double)) ∈ TG := tg_in (tt3 (List.mem_of_getElem? (i := 194) rfl)) rfl
theorem wd675 : (Cond.methodLink "WordFunctions" 208 y299) ∈ TG := tg_in (tt3 (List.mem_of_getElem? (i := 195) rfl)) rfl
theorem wd676 : (Cond.methodLink "WordFunctionsLaw" 84 y12) ∈ TG := tg_in (tt3 (List.mem_of_getElem? (i := 196) rfl)) rfl
theorem wd677 : (Cond.instanceMethod y12) ∈ TG := tg_in (tt3 (List.mem_of_getElem? (i := 197) rfl)) rfl
theorem wd678 : (Cond.selects "WordFunctions" y12 y12) ∈ TG := tg_in (tt3 (List.mem_of_getElem? (i := 198) rfl)) rfl
theorem wd679 : (Cond.code y12 prog_1_method_16_code 3 (Option.some FieldType.int)) ∈ TG := tg_in (tt3 (List.mem_of_getElem? (i := 199) rfl)) rfl
theorem wd680 : (Cond.methodLink "WordFunctions" 218 y287) ∈ TG := tg_in (tt3 (List.mem_of_getElem? (i := 200) rfl)) rfl
theorem wd681 : (Cond.instanceMethod y287) ∈ TG := tg_in (tt3 (List.mem_of_getElem? (i := 201) rfl)) rfl
theorem wd682 : (Cond.selects "java/lang/String" y287 y287) ∈ TG := tg_in (tt3 (List.mem_of_getElem? (i := 202) rfl)) rfl
theorem wd683 : (Cond.code y287 prog_23_method_56_code 2 (Option.some FieldType.char)) ∈ TG := tg_in (tt3 (List.mem_of_getElem? (i := 203) rfl)) rfl
theorem wd684 : (Cond.methodLink "java/lang/String" 492 y298) ∈ TG := tg_in (tt3 (List.mem_of_getElem? (i := 204) rfl)) rfl
theorem wd685 : (Cond.instanceMethod y298) ∈ TG := tg_in (tt3 (List.mem_of_getElem? (i := 205) rfl)) rfl
theorem wd686 : (Cond.selects "java/lang/String" y298 y298) ∈ TG := tg_in (tt3 (List.mem_of_getElem? (i := 206) rfl)) rfl
theorem wd687 : (Cond.code y298 prog_23_method_154_code 1 (Option.some FieldType.boolean)) ∈ TG := tg_in (tt3 (List.mem_of_getElem? (i := 207) rfl)) rfl
theorem wd688 : (Cond.methodLink "java/lang/String" 495 y310) ∈ TG := tg_in (tt3 (List.mem_of_getElem? (i := 208) rfl)) rfl
theorem wd689 : (Cond.static y310) ∈ TG := tg_in (tt3 (List.mem_of_getElem? (i := 209) rfl)) rfl
theorem wd690 : (Cond.code y310 prog_25_method_2_code 2 (Option.some FieldType.char)) ∈ TG := tg_in (tt3 (List.mem_of_getElem? (i := 210) rfl)) rfl
theorem wd691 : (Cond.methodLink "java/lang/StringLatin1" 9 y290) ∈ TG := tg_in (tt3 (List.mem_of_getElem? (i := 211) rfl)) rfl
theorem wd692 : (Cond.methodLink "java/lang/String" 498 y316) ∈ TG := tg_in (tt3 (List.mem_of_getElem? (i := 212) rfl)) rfl
theorem wd693 : (Cond.static y316) ∈ TG := tg_in (tt3 (List.mem_of_getElem? (i := 213) rfl)) rfl
theorem wd694 : (Cond.code y316 prog_26_method_83_code 2 (Option.some FieldType.char)) ∈ TG := tg_in (tt3 (List.mem_of_getElem? (i := 214) rfl)) rfl
theorem wd695 : (Cond.methodLink "WordFunctionsLaw" 40 y135) ∈ TG := tg_in (tt3 (List.mem_of_getElem? (i := 215) rfl)) rfl
theorem wd696 : (Cond.static y135) ∈ TG := tg_in (tt3 (List.mem_of_getElem? (i := 216) rfl)) rfl
theorem wd697 : (Cond.codeWith y135 method_3_code 4 (Option.some FieldType.int) [(0, 6, 9, 13), (0, 6, 12, 15)]) ∈ TG := tg_in (tt3 (List.mem_of_getElem? (i := 217) rfl)) rfl
theorem wd698 : (Cond.classLink "WordFunctionsLaw" 13 "java/lang/IllegalArgumentException") ∈ TG := tg_in (tt3 (List.mem_of_getElem? (i := 218) rfl)) rfl
theorem wd699 : (Cond.classLink "WordFunctionsLaw" 15 "java/lang/IllegalStateException") ∈ TG := tg_in (tt3 (List.mem_of_getElem? (i := 219) rfl)) rfl
theorem wd700 : (Cond.methodLink "WordFunctionsLaw" 7 y1) ∈ TG := tg_in (tt3 (List.mem_of_getElem? (i := 220) rfl)) rfl
theorem wd701 : (Cond.instanceMethod y1) ∈ TG := tg_in (tt3 (List.mem_of_getElem? (i := 221) rfl)) rfl
theorem wd702 : (Cond.selects "WordFunctions" y1 y1) ∈ TG := tg_in (tt3 (List.mem_of_getElem? (i := 222) rfl)) rfl
theorem wd703 : (Cond.code y1 prog_1_method_6_code 4 (Option.none : Option FieldType)) ∈ TG := tg_in (tt3 (List.mem_of_getElem? (i := 223) rfl)) rfl
theorem wd704 : (Cond.classLink "WordFunctions" 97 "java/lang/IllegalArgumentException") ∈ TG := tg_in (tt3 (List.mem_of_getElem? (i := 224) rfl)) rfl
theorem wd705 : (Cond.stringRef "WordFunctions" 99 "a grid has one row and one column at least") ∈ lw_tbl := tt3 (List.mem_of_getElem? (i := 225) rfl)
theorem wd706 : (Cond.methodLink "WordFunctions" 101 y272) ∈ TG := tg_in (tt3 (List.mem_of_getElem? (i := 226) rfl)) rfl
theorem wd707 : (Cond.methodLink "WordFunctions" 104 y29) ∈ TG := tg_in (tt3 (List.mem_of_getElem? (i := 227) rfl)) rfl
theorem wd708 : (Cond.instanceMethod y29) ∈ TG := tg_in (tt3 (List.mem_of_getElem? (i := 228) rfl)) rfl
theorem wd709 : (Cond.selects "WordFunctions$Arguments" y29 y29) ∈ TG := tg_in (tt3 (List.mem_of_getElem? (i := 229) rfl)) rfl
theorem wd710 : (Cond.code y29 prog_3_method_2_code 7 (Option.some FieldType.boolean)) ∈ TG := tg_in (tt3 (List.mem_of_getElem? (i := 230) rfl)) rfl
theorem wd711 : (Cond.classLink "WordFunctions" 107 "java/lang/IllegalStateException") ∈ TG := tg_in (tt3 (List.mem_of_getElem? (i := 231) rfl)) rfl
theorem wd712 : (Cond.instantiable "java/lang/IllegalStateException" 6) ∈ TG := tg_in (tt3 (List.mem_of_getElem? (i := 232) rfl)) rfl
theorem wd713 : (Cond.castable "java/lang/IllegalStateException" "java/lang/IllegalStateException") ∈ lw_tbl := tt3 (List.mem_of_getElem? (i := 233) rfl)
theorem wd714 : (Cond.selects "java/lang/IllegalStateException" y345 y345) ∈ TG := tg_in (tt3 (List.mem_of_getElem? (i := 234) rfl)) rfl
theorem wd715 : (Cond.lays "java/lang/IllegalStateException" "java/lang/Throwable" "cause" "Ljava/lang/Throwable;") ∈ TG := tg_in (tt3 (List.mem_of_getElem? (i := 235) rfl)) rfl
theorem wd716 : (Cond.lays "java/lang/IllegalStateException" "java/lang/Throwable" "stackTrace" "[Ljava/lang/StackTraceElement;") ∈ TG := tg_in (tt3 (List.mem_of_getElem? (i := 236) rfl)) rfl
theorem wd717 : (Cond.lays "java/lang/IllegalStateException" "java/lang/Throwable" "suppressedExceptions" "Ljava/util/List;") ∈ TG := tg_in (tt3 (List.mem_of_getElem? (i := 237) rfl)) rfl
theorem wd718 : (Cond.lays "java/lang/IllegalStateException" "java/lang/Throwable" "detailMessage" "Ljava/lang/String;") ∈ TG := tg_in (tt3 (List.mem_of_getElem? (i := 238) rfl)) rfl
theorem wd719 : (Cond.lays "java/lang/IllegalStateException" "java/lang/Throwable" "backtrace" "Ljava/lang/Object;") ∈ TG := tg_in (tt3 (List.mem_of_getElem? (i := 239) rfl)) rfl
theorem wd720 : (Cond.stringRef "WordFunctions" 109 "too many arguments or values") ∈ lw_tbl := tt4 (List.mem_of_getElem? (i := 0) rfl)
theorem wd721 : (Cond.methodLink "WordFunctions" 111 y273) ∈ TG := tg_in (tt4 (List.mem_of_getElem? (i := 1) rfl)) rfl
theorem wd722 : (Cond.instanceMethod y273) ∈ TG := tg_in (tt4 (List.mem_of_getElem? (i := 2) rfl)) rfl
theorem wd723 : (Cond.code y273 prog_19_method_2_code 2 (Option.none : Option FieldType)) ∈ TG := tg_in (tt4 (List.mem_of_getElem? (i := 3) rfl)) rfl
theorem wd724 : (Cond.methodLink "java/lang/IllegalStateException" 7 y283) ∈ TG := tg_in (tt4 (List.mem_of_getElem? (i := 4) rfl)) rfl
theorem wd725 : (Cond.lays "java/lang/IllegalStateException" "java/lang/Throwable" "depth" "I") ∈ TG := tg_in (tt4 (List.mem_of_getElem? (i := 5) rfl)) rfl
theorem wd726 : (Cond.superclass "java/lang/IllegalStateException" "java/lang/RuntimeException") ∈ TG := tg_in (tt4 (List.mem_of_getElem? (i := 6) rfl)) rfl
theorem wd727 : (Cond.methodLink "WordFunctionsLaw" 65 y136) ∈ TG := tg_in (tt4 (List.mem_of_getElem? (i := 7) rfl)) rfl
theorem wd728 : (Cond.static y136) ∈ TG := tg_in (tt4 (List.mem_of_getElem? (i := 8) rfl)) rfl
theorem wd729 : (Cond.codeWith y136 method_4_code 4 (Option.some FieldType.int) [(0, 9, 12, 13)]) ∈ TG := tg_in (tt4 (List.mem_of_getElem? (i := 9) rfl)) rfl
theorem wd730 : (Cond.methodLink "WordFunctionsLaw" 17 y2) ∈ TG := tg_in (tt4 (List.mem_of_getElem? (i := 10) rfl)) rfl
theorem wd731 : (Cond.instanceMethod y2) ∈ TG := tg_in (tt4 (List.mem_of_getElem? (i := 11) rfl)) rfl
theorem wd732 : (Cond.selects "WordFunctions" y2 y2) ∈ TG := tg_in (tt4 (List.mem_of_getElem? (i := 12) rfl)) rfl
theorem wd733 : (Cond.code y2 prog_1_method_11_code 3 (Option.some FieldType.int)) ∈ TG := tg_in (tt4 (List.mem_of_getElem? (i := 13) rfl)) rfl
theorem wd734 : (Cond.methodLink "WordFunctions" 150 y9) ∈ TG := tg_in (tt4 (List.mem_of_getElem? (i := 14) rfl)) rfl
theorem wd735 : (Cond.static y9) ∈ TG := tg_in (tt4 (List.mem_of_getElem? (i := 15) rfl)) rfl
theorem wd736 : (Cond.code y9 prog_1_method_12_code 3 (Option.some FieldType.boolean)) ∈ TG := tg_in (tt4 (List.mem_of_getElem? (i := 16) rfl)) rfl
theorem wd737 : (Cond.fieldLink "WordFunctions" 189 "WordFunctions" "LEAST" "[I") ∈ TG := tg_in (tt4 (List.mem_of_getElem? (i := 17) rfl)) rfl
theorem wd738 : (Cond.laysStatic "WordFunctions" "LEAST" "[I") ∈ lw_tbl := tt4 (List.mem_of_getElem? (i := 18) rfl)
theorem wd739 : (Cond.fieldLink "WordFunctions" 193 "WordFunctions" "MOST" "[I") ∈ TG := tg_in (tt4 (List.mem_of_getElem? (i := 19) rfl)) rfl
theorem wd740 : (Cond.laysStatic "WordFunctions" "MOST" "[I") ∈ lw_tbl := tt4 (List.mem_of_getElem? (i := 20) rfl)
theorem wd741 : (Cond.stringRef "WordFunctions" 153 "no such function for so many arguments") ∈ lw_tbl := tt4 (List.mem_of_getElem? (i := 21) rfl)
theorem wd742 : (Cond.methodLink "WordFunctions" 158 y95) ∈ TG := tg_in (tt4 (List.mem_of_getElem? (i := 22) rfl)) rfl
theorem wd743 : (Cond.instanceMethod y95) ∈ TG := tg_in (tt4 (List.mem_of_getElem? (i := 23) rfl)) rfl
theorem wd744 : (Cond.selects "WordFunctions$LookUps" y95 y95) ∈ TG := tg_in (tt4 (List.mem_of_getElem? (i := 24) rfl)) rfl
theorem wd745 : (Cond.code y95 prog_8_method_10_code 7 (Option.none : Option FieldType)) ∈ TG := tg_in (tt4 (List.mem_of_getElem? (i := 25) rfl)) rfl
theorem wd746 : (Cond.methodLink "WordFunctions$LookUps" 33 y41) ∈ TG := tg_in (tt4 (List.mem_of_getElem? (i := 26) rfl)) rfl
theorem wd747 : (Cond.instanceMethod y41) ∈ TG := tg_in (tt4 (List.mem_of_getElem? (i := 27) rfl)) rfl
theorem wd748 : (Cond.selects "WordFunctions$Arguments" y41 y41) ∈ TG := tg_in (tt4 (List.mem_of_getElem? (i := 28) rfl)) rfl
theorem wd749 : (Cond.code y41 prog_3_method_9_code 2 (Option.some FieldType.int)) ∈ TG := tg_in (tt4 (List.mem_of_getElem? (i := 29) rfl)) rfl
theorem wd750 : (Cond.methodLink "WordFunctions$Arguments" 76 y278) ∈ TG := tg_in (tt4 (List.mem_of_getElem? (i := 30) rfl)) rfl
theorem wd751 : (Cond.methodLink "WordFunctions$LookUps" 45 y32) ∈ TG := tg_in (tt4 (List.mem_of_getElem? (i := 31) rfl)) rfl
theorem wd752 : (Cond.instanceMethod y32) ∈ TG := tg_in (tt4 (List.mem_of_getElem? (i := 32) rfl)) rfl
theorem wd753 : (Cond.selects "WordFunctions$Arguments" y32 y32) ∈ TG := tg_in (tt4 (List.mem_of_getElem? (i := 33) rfl)) rfl
theorem wd754 : (Cond.code y32 prog_3_method_10_code 2 (Option.some FieldType.int)) ∈ TG := tg_in (tt4 (List.mem_of_getElem? (i := 34) rfl)) rfl
theorem wd755 : (Cond.methodLink "WordFunctions$LookUps" 144 y37) ∈ TG := tg_in (tt4 (List.mem_of_getElem? (i := 35) rfl)) rfl
theorem wd756 : (Cond.instanceMethod y37) ∈ TG := tg_in (tt4 (List.mem_of_getElem? (i := 36) rfl)) rfl
theorem wd757 : (Cond.selects "WordFunctions$Arguments" y37 y37) ∈ TG := tg_in (tt4 (List.mem_of_getElem? (i := 37) rfl)) rfl
theorem wd758 : (Cond.code y37 prog_3_method_7_code 2 (Option.some FieldType.boolean)) ∈ TG := tg_in (tt4 (List.mem_of_getElem? (i := 38) rfl)) rfl
theorem wd759 : (Cond.methodLink "WordFunctions$LookUps" 115 y49) ∈ TG := tg_in (tt4 (List.mem_of_getElem? (i := 39) rfl)) rfl
theorem wd760 : (Cond.instanceMethod y49) ∈ TG := tg_in (tt4 (List.mem_of_getElem? (i := 40) rfl)) rfl
theorem wd761 : (Cond.selects "WordFunctions$Arguments" y49 y49) ∈ TG := tg_in (tt4 (List.mem_of_getElem? (i := 41) rfl)) rfl
theorem wd762 : (Cond.code y49 prog_3_method_17_code 6 (Option.some FieldType.int)) ∈ TG := tg_in (tt4 (List.mem_of_getElem? (i := 42) rfl)) rfl
theorem wd763 : (Cond.methodLink "WordFunctions$Arguments" 138 y40) ∈ TG := tg_in (tt4 (List.mem_of_getElem? (i := 43) rfl)) rfl
theorem wd764 : (Cond.instanceMethod y40) ∈ TG := tg_in (tt4 (List.mem_of_getElem? (i := 44) rfl)) rfl
theorem wd765 : (Cond.selects "WordFunctions$Arguments" y40 y40) ∈ TG := tg_in (tt4 (List.mem_of_getElem? (i := 45) rfl)) rfl
theorem wd766 : (Cond.code y40 prog_3_method_15_code 3 (Option.some FieldType.double)) ∈ TG := tg_in (tt4 (List.mem_of_getElem? (i := 46) rfl)) rfl
theorem wd767 : (Cond.methodLink "WordFunctions$Arguments" 87 y39) ∈ TG := tg_in (tt4 (List.mem_of_getElem? (i := 47) rfl)) rfl
theorem wd768 : (Cond.instanceMethod y39) ∈ TG := tg_in (tt4 (List.mem_of_getElem? (i := 48) rfl)) rfl
theorem wd769 : (Cond.selects "WordFunctions$Arguments" y39 y39) ∈ TG := tg_in (tt4 (List.mem_of_getElem? (i := 49) rfl)) rfl
theorem wd770 : (Cond.code y39 prog_3_method_12_code 4 (Option.some (FieldType.object "WordFunctions$Value"))) ∈ TG := tg_in (tt4 (List.mem_of_getElem? (i := 50) rfl)) rfl
theorem wd771 : (Cond.methodLink "WordFunctions$Arguments" 101 y34) ∈ TG := tg_in (tt4 (List.mem_of_getElem? (i := 51) rfl)) rfl
theorem wd772 : (Cond.instanceMethod y34) ∈ TG := tg_in (tt4 (List.mem_of_getElem? (i := 52) rfl)) rfl
theorem wd773 : (Cond.selects "WordFunctions$Arguments" y34 y34) ∈ TG := tg_in (tt4 (List.mem_of_getElem? (i := 53) rfl)) rfl
theorem wd774 : (Cond.code y34 prog_3_method_14_code 2 (Option.none : Option FieldType)) ∈ TG := tg_in (tt4 (List.mem_of_getElem? (i := 54) rfl)) rfl
theorem wd775 : (Cond.methodLink "WordFunctions$Arguments" 109 y42) ∈ TG := tg_in (tt4 (List.mem_of_getElem? (i := 55) rfl)) rfl
theorem wd776 : (Cond.privateMethod y42) ∈ lw_tbl := tt4 (List.mem_of_getElem? (i := 56) rfl)
theorem wd777 : (Cond.instanceMethod y42) ∈ TG := tg_in (tt4 (List.mem_of_getElem? (i := 57) rfl)) rfl
theorem wd778 : (Cond.code y42 prog_3_method_16_code 11 (Option.some FieldType.double)) ∈ TG := tg_in (tt4 (List.mem_of_getElem? (i := 58) rfl)) rfl
theorem wd779 : (Cond.methodLink "WordFunctions$Arguments" 113 y297) ∈ TG := tg_in (tt4 (List.mem_of_getElem? (i := 59) rfl)) rfl
theorem wd780 : (Cond.instanceMethod y297) ∈ TG := tg_in (tt4 (List.mem_of_getElem? (i := 60) rfl)) rfl
theorem wd781 : (Cond.selects "java/lang/String" y297 y297) ∈ TG := tg_in (tt4 (List.mem_of_getElem? (i := 61) rfl)) rfl
theorem wd782 : (Cond.code y297 prog_23_method_55_code 1 (Option.some FieldType.boolean)) ∈ TG := tg_in (tt4 (List.mem_of_getElem? (i := 62) rfl)) rfl
theorem wd783 : (Cond.methodLink "WordFunctions$Arguments" 119 y287) ∈ TG := tg_in (tt4 (List.mem_of_getElem? (i := 63) rfl)) rfl
theorem wd784 : (Cond.methodLink "WordFunctions$Arguments" 123 y295) ∈ TG := tg_in (tt4 (List.mem_of_getElem? (i := 64) rfl)) rfl
theorem wd785 : (Cond.instanceMethod y295) ∈ TG := tg_in (tt4 (List.mem_of_getElem? (i := 65) rfl)) rfl
theorem wd786 : (Cond.selects "java/lang/String" y295 y295) ∈ TG := tg_in (tt4 (List.mem_of_getElem? (i := 66) rfl)) rfl
theorem wd787 : (Cond.code y295 prog_23_method_79_code 2 (Option.some FieldType.int)) ∈ TG := tg_in (tt4 (List.mem_of_getElem? (i := 67) rfl)) rfl
theorem wd788 : (Cond.methodLink "java/lang/String" 633 y296) ∈ TG := tg_in (tt4 (List.mem_of_getElem? (i := 68) rfl)) rfl
theorem wd789 : (Cond.instanceMethod y296) ∈ TG := tg_in (tt4 (List.mem_of_getElem? (i := 69) rfl)) rfl
theorem wd790 : (Cond.selects "java/lang/String" y296 y296) ∈ TG := tg_in (tt4 (List.mem_of_getElem? (i := 70) rfl)) rfl
theorem wd791 : (Cond.code y296 prog_23_method_80_code 3 (Option.some FieldType.int)) ∈ TG := tg_in (tt4 (List.mem_of_getElem? (i := 71) rfl)) rfl
theorem wd792 : (Cond.methodLink "java/lang/String" 505 y299) ∈ TG := tg_in (tt4 (List.mem_of_getElem? (i := 72) rfl)) rfl
theorem wd793 : (Cond.methodLink "java/lang/String" 637 y312) ∈ TG := tg_in (tt4 (List.mem_of_getElem? (i := 73) rfl)) rfl
theorem wd794 : (Cond.static y312) ∈ TG := tg_in (tt4 (List.mem_of_getElem? (i := 74) rfl)) rfl
theorem wd795 : (Cond.code y312 prog_25_method_22_code 4 (Option.some FieldType.int)) ∈ TG := tg_in (tt4 (List.mem_of_getElem? (i := 75) rfl)) rfl
theorem wd796 : (Cond.methodLink "java/lang/StringLatin1" 88 y309) ∈ TG := tg_in (tt4 (List.mem_of_getElem? (i := 76) rfl)) rfl
theorem wd797 : (Cond.static y309) ∈ TG := tg_in (tt4 (List.mem_of_getElem? (i := 77) rfl)) rfl
theorem wd798 : (Cond.code y309 prog_25_method_4_code 1 (Option.some FieldType.boolean)) ∈ TG := tg_in (tt4 (List.mem_of_getElem? (i := 78) rfl)) rfl
theorem wd799 : (Cond.methodLink "java/lang/StringLatin1" 92 y278) ∈ TG := tg_in (tt4 (List.mem_of_getElem? (i := 79) rfl)) rfl
theorem wd800 : (Cond.methodLink "java/lang/StringLatin1" 38 y279) ∈ TG := tg_in (tt4 (List.mem_of_getElem? (i := 80) rfl)) rfl
theorem wd801 : (Cond.methodLink "java/lang/StringLatin1" 95 y313) ∈ TG := tg_in (tt4 (List.mem_of_getElem? (i := 81) rfl)) rfl
theorem wd802 : (Cond.static y313) ∈ TG := tg_in (tt4 (List.mem_of_getElem? (i := 82) rfl)) rfl
theorem wd803 : (Cond.code y313 prog_25_method_23_code 6 (Option.some FieldType.int)) ∈ TG := tg_in (tt4 (List.mem_of_getElem? (i := 83) rfl)) rfl
theorem wd804 : (Cond.methodLink "java/lang/String" 640 y327) ∈ TG := tg_in (tt4 (List.mem_of_getElem? (i := 84) rfl)) rfl
theorem wd805 : (Cond.static y327) ∈ TG := tg_in (tt4 (List.mem_of_getElem? (i := 85) rfl)) rfl
theorem wd806 : (Cond.code y327 prog_26_method_40_code 4 (Option.some FieldType.int)) ∈ TG := tg_in (tt4 (List.mem_of_getElem? (i := 86) rfl)) rfl
theorem wd807 : (Cond.methodLink "java/lang/StringUTF16" 224 y278) ∈ TG := tg_in (tt4 (List.mem_of_getElem? (i := 87) rfl)) rfl
theorem wd808 : (Cond.methodLink "java/lang/StringUTF16" 183 y279) ∈ TG := tg_in (tt4 (List.mem_of_getElem? (i := 88) rfl)) rfl
theorem wd809 : (Cond.constant "java/lang/StringUTF16" 227 (65536 : Int32)) ∈ TG := tg_in (tt4 (List.mem_of_getElem? (i := 89) rfl)) rfl
theorem wd810 : (Cond.methodLink "java/lang/StringUTF16" 228 y328) ∈ TG := tg_in (tt4 (List.mem_of_getElem? (i := 90) rfl)) rfl
theorem wd811 : (Cond.static y328) ∈ TG := tg_in (tt4 (List.mem_of_getElem? (i := 91) rfl)) rfl
theorem wd812 : (Cond.code y328 prog_26_method_47_code 4 (Option.some FieldType.int)) ∈ TG := tg_in (tt4 (List.mem_of_getElem? (i := 92) rfl)) rfl
theorem wd813 : (Cond.methodLink "java/lang/StringUTF16" 244 y329) ∈ TG := tg_in (tt4 (List.mem_of_getElem? (i := 93) rfl)) rfl
theorem wd814 : (Cond.static y329) ∈ TG := tg_in (tt4 (List.mem_of_getElem? (i := 94) rfl)) rfl
theorem wd815 : (Cond.code y329 prog_26_method_48_code 5 (Option.some FieldType.int)) ∈ TG := tg_in (tt4 (List.mem_of_getElem? (i := 95) rfl)) rfl
theorem wd816 : (Cond.methodLink "java/lang/StringUTF16" 232 y330) ∈ TG := tg_in (tt4 (List.mem_of_getElem? (i := 96) rfl)) rfl
theorem wd817 : (Cond.static y330) ∈ TG := tg_in (tt4 (List.mem_of_getElem? (i := 97) rfl)) rfl
theorem wd818 : (Cond.code y330 prog_26_method_49_code 7 (Option.some FieldType.int)) ∈ TG := tg_in (tt4 (List.mem_of_getElem? (i := 98) rfl)) rfl
theorem wd819 : (Cond.methodLink "java/lang/StringUTF16" 164 y268) ∈ TG := tg_in (tt4 (List.mem_of_getElem? (i := 99) rfl)) rfl
theorem wd820 : (Cond.static y268) ∈ TG := tg_in (tt4 (List.mem_of_getElem? (i := 100) rfl)) rfl
theorem wd821 : (Cond.code y268 prog_15_method_11_code 2 (Option.some FieldType.boolean)) ∈ TG := tg_in (tt4 (List.mem_of_getElem? (i := 101) rfl)) rfl
theorem wd822 : (Cond.methodLink "java/lang/StringUTF16" 157 y264) ∈ TG := tg_in (tt4 (List.mem_of_getElem? (i := 102) rfl)) rfl
theorem wd823 : (Cond.static y264) ∈ TG := tg_in (tt4 (List.mem_of_getElem? (i := 103) rfl)) rfl
theorem wd824 : (Cond.code y264 prog_15_method_28_code 1 (Option.some FieldType.char)) ∈ TG := tg_in (tt4 (List.mem_of_getElem? (i := 104) rfl)) rfl
theorem wd825 : (Cond.constant "java/lang/Character" 110 (55232 : Int32)) ∈ TG := tg_in (tt4 (List.mem_of_getElem? (i := 105) rfl)) rfl
theorem wd826 : (Cond.methodLink "java/lang/StringUTF16" 161 y269) ∈ TG := tg_in (tt4 (List.mem_of_getElem? (i := 106) rfl)) rfl
theorem wd827 : (Cond.static y269) ∈ TG := tg_in (tt4 (List.mem_of_getElem? (i := 107) rfl)) rfl
theorem wd828 : (Cond.code y269 prog_15_method_29_code 1 (Option.some FieldType.char)) ∈ TG := tg_in (tt4 (List.mem_of_getElem? (i := 108) rfl)) rfl
theorem wd829 : (Cond.constant "java/lang/Character" 76 (56320 : Int32)) ∈ TG := tg_in (tt4 (List.mem_of_getElem? (i := 109) rfl)) rfl
theorem wd830 : (Cond.methodLink "WordFunctions$Arguments" 126 y299) ∈ TG := tg_in (tt4 (List.mem_of_getElem? (i := 110) rfl)) rfl
theorem wd831 : (Cond.constantLong "WordFunctions$Arguments" 130 (10 : Int64)) ∈ TG := tg_in (tt4 (List.mem_of_getElem? (i := 111) rfl)) rfl
theorem wd832 : (Cond.constantDouble "WordFunctions$Arguments" 132 (4621819117588971520 : UInt64)) ∈ TG := tg_in (tt4 (List.mem_of_getElem? (i := 112) rfl)) rfl
theorem wd833 : (Cond.constantDouble "WordFunctions$Arguments" 134 (4636737291354636288 : UInt64)) ∈ TG := tg_in (tt4 (List.mem_of_getElem? (i := 113) rfl)) rfl
theorem wd834 : (Cond.constantDouble "WordFunctions$Arguments" 136 (4652007308841189376 : UInt64)) ∈ TG := tg_in (tt4 (List.mem_of_getElem? (i := 114) rfl)) rfl
theorem wd835 : (Cond.constantDouble "WordFunctions$Arguments" 141 (4746794007248502784 : UInt64)) ∈ TG := tg_in (tt4 (List.mem_of_getElem? (i := 115) rfl)) rfl
theorem wd836 : (Cond.methodLink "WordFunctions$LookUps" 122 y131) ∈ TG := tg_in (tt4 (List.mem_of_getElem? (i := 116) rfl)) rfl
theorem wd837 : (Cond.methodLink "WordFunctions$LookUps" 150 y22) ∈ TG := tg_in (tt4 (List.mem_of_getElem? (i := 117) rfl)) rfl
theorem wd838 : (Cond.instanceMethod y22) ∈ TG := tg_in (tt4 (List.mem_of_getElem? (i := 118) rfl)) rfl
theorem wd839 : (Cond.selects "WordFunctions$Answer" y22 y22) ∈ TG := tg_in (tt4 (List.mem_of_getElem? (i := 119) rfl)) rfl
theorem wd840 : (Cond.code y22 prog_2_method_3_code 2 (Option.none : Option FieldType)) ∈ TG := tg_in (tt4 (List.mem_of_getElem? (i := 120) rfl)) rfl
theorem wd841 : (Cond.methodLink "WordFunctions$LookUps" 156 y278) ∈ TG := tg_in (tt4 (List.mem_of_getElem? (i := 121) rfl)) rfl
theorem wd842 : (Cond.methodLink "WordFunctions$LookUps" 159 y23) ∈ TG := tg_in (tt4 (List.mem_of_getElem? (i := 122) rfl)) rfl
theorem wd843 : (Cond.instanceMethod y23) ∈ TG := tg_in (tt4 (List.mem_of_getElem? (i := 123) rfl)) rfl
theorem wd844 : (Cond.selects "WordFunctions$Answer" y23 y23) ∈ TG := tg_in (tt4 (List.mem_of_getElem? (i := 124) rfl)) rfl
theorem wd845 : (Cond.code y23 prog_2_method_4_code 8 (Option.none : Option FieldType)) ∈ TG := tg_in (tt4 (List.mem_of_getElem? (i := 125) rfl)) rfl
theorem wd846 : (Cond.methodLink "WordFunctions$Answer" 32 y30) ∈ TG := tg_in (tt4 (List.mem_of_getElem? (i := 126) rfl)) rfl
theorem wd847 : (Cond.instanceMethod y30) ∈ TG := tg_in (tt4 (List.mem_of_getElem? (i := 127) rfl)) rfl
theorem wd848 : (Cond.selects "WordFunctions$Arguments" y30 y30) ∈ TG := tg_in (tt4 (List.mem_of_getElem? (i := 128) rfl)) rfl
theorem wd849 : (Cond.code y30 prog_3_method_13_code 4 (Option.some (FieldType.object "WordFunctions$Value"))) ∈ TG := tg_in (tt4 (List.mem_of_getElem? (i := 129) rfl)) rfl
theorem wd850 : (Cond.methodLink "WordFunctions$Arguments" 85 y32) ∈ TG := tg_in (tt4 (List.mem_of_getElem? (i := 130) rfl)) rfl
theorem wd851 : (Cond.methodLink "WordFunctions$Answer" 38 y25) ∈ TG := tg_in (tt4 (List.mem_of_getElem? (i := 131) rfl)) rfl
theorem wd852 : (Cond.privateMethod y25) ∈ lw_tbl := tt4 (List.mem_of_getElem? (i := 132) rfl)
theorem wd853 : (Cond.instanceMethod y25) ∈ TG := tg_in (tt4 (List.mem_of_getElem? (i := 133) rfl)) rfl
theorem wd854 : (Cond.code y25 prog_2_method_6_code 5 (Option.none : Option FieldType)) ∈ TG := tg_in (tt4 (List.mem_of_getElem? (i := 134) rfl)) rfl
theorem wd855 : (Cond.methodLink "WordFunctions" 162 y27) ∈ TG := tg_in (tt4 (List.mem_of_getElem? (i := 135) rfl)) rfl
theorem wd856 : (Cond.instanceMethod y27) ∈ TG := tg_in (tt4 (List.mem_of_getElem? (i := 136) rfl)) rfl
theorem wd857 : (Cond.selects "WordFunctions$Answer" y27 y27) ∈ TG := tg_in (tt4 (List.mem_of_getElem? (i := 137) rfl)) rfl
theorem wd858 : (Cond.code y27 prog_2_method_5_code 4 (Option.none : Option FieldType)) ∈ TG := tg_in (tt4 (List.mem_of_getElem? (i := 138) rfl)) rfl
theorem wd859 : (Cond.methodLink "WordFunctions$Answer" 42 y32) ∈ TG := tg_in (tt4 (List.mem_of_getElem? (i := 139) rfl)) rfl
theorem wd860 : (Cond.methodLink "WordFunctions$Answer" 45 y41) ∈ TG := tg_in (tt4 (List.mem_of_getElem? (i := 140) rfl)) rfl
theorem wd861 : (Cond.methodLink "WordFunctions" 165 y119) ∈ TG := tg_in (tt4 (List.mem_of_getElem? (i := 141) rfl)) rfl
theorem wd862 : (Cond.instanceMethod y119) ∈ TG := tg_in (tt4 (List.mem_of_getElem? (i := 142) rfl)) rfl
theorem wd863 : (Cond.selects "WordFunctions$Texts" y119 y119) ∈ TG := tg_in (tt4 (List.mem_of_getElem? (i := 143) rfl)) rfl
theorem wd864 : (Cond.code y119 prog_10_method_2_code 2 (Option.some (FieldType.object "WordFunctions$Value"))) ∈ TG := tg_in (tt4 (List.mem_of_getElem? (i := 144) rfl)) rfl
theorem wd865 : (Cond.methodLink "WordFunctions$Texts" 19 y45) ∈ TG := tg_in (tt4 (List.mem_of_getElem? (i := 145) rfl)) rfl
theorem wd866 : (Cond.instanceMethod y45) ∈ TG := tg_in (tt4 (List.mem_of_getElem? (i := 146) rfl)) rfl
theorem wd867 : (Cond.selects "WordFunctions$Arguments" y45 y45) ∈ TG := tg_in (tt4 (List.mem_of_getElem? (i := 147) rfl)) rfl
theorem wd868 : (Cond.code y45 prog_3_method_22_code 2 (Option.some (FieldType.object "java/lang/String"))) ∈ TG := tg_in (tt4 (List.mem_of_getElem? (i := 148) rfl)) rfl
theorem wd869 : (Cond.methodLink "WordFunctions$Arguments" 159 y46) ∈ TG := tg_in (tt4 (List.mem_of_getElem? (i := 149) rfl)) rfl
theorem wd870 : (Cond.instanceMethod y46) ∈ TG := tg_in (tt4 (List.mem_of_getElem? (i := 150) rfl)) rfl
theorem wd871 : (Cond.selects "WordFunctions$Arguments" y46 y46) ∈ TG := tg_in (tt4 (List.mem_of_getElem? (i := 151) rfl)) rfl
theorem wd872 : (Cond.code y46 prog_3_method_23_code 2 (Option.some (FieldType.object "java/lang/String"))) ∈ TG := tg_in (tt4 (List.mem_of_getElem? (i := 152) rfl)) rfl
theorem wd873 : (Cond.methodLink "WordFunctions$Arguments" 163 y51) ∈ TG := tg_in (tt4 (List.mem_of_getElem? (i := 153) rfl)) rfl
theorem wd874 : (Cond.privateMethod y51) ∈ lw_tbl := tt4 (List.mem_of_getElem? (i := 154) rfl)
theorem wd875 : (Cond.instanceMethod y51) ∈ TG := tg_in (tt4 (List.mem_of_getElem? (i := 155) rfl)) rfl
theorem wd876 : (Cond.code y51 prog_3_method_24_code 11 (Option.some (FieldType.object "java/lang/String"))) ∈ TG := tg_in (tt4 (List.mem_of_getElem? (i := 156) rfl)) rfl
theorem wd877 : (Cond.constantDouble "WordFunctions$Arguments" 173 (4786511204640096256 : UInt64)) ∈ TG := tg_in (tt4 (List.mem_of_getElem? (i := 157) rfl)) rfl
theorem wd878 : (Cond.stringRef "WordFunctions$Arguments" 171 "") ∈ lw_tbl := tt4 (List.mem_of_getElem? (i := 158) rfl)
theorem wd879 : (Cond.constantDouble "WordFunctions$Arguments" 175 (4602678819172646912 : UInt64)) ∈ TG := tg_in (tt4 (List.mem_of_getElem? (i := 159) rfl)) rfl
theorem wd880 : (Cond.classLink "WordFunctions$Arguments" 177 "java/lang/StringBuilder") ∈ TG := tg_in (tt4 (List.mem_of_getElem? (i := 160) rfl)) rfl
theorem wd881 : (Cond.methodLink "WordFunctions$Arguments" 179 y301) ∈ TG := tg_in (tt4 (List.mem_of_getElem? (i := 161) rfl)) rfl
theorem wd882 : (Cond.methodLink "WordFunctions$Arguments" 180 y302) ∈ TG := tg_in (tt4 (List.mem_of_getElem? (i := 162) rfl)) rfl
theorem wd883 : (Cond.methodLink "WordFunctions$Arguments" 184 y306) ∈ TG := tg_in (tt4 (List.mem_of_getElem? (i := 163) rfl)) rfl
theorem wd884 : (Cond.instanceMethod y306) ∈ TG := tg_in (tt4 (List.mem_of_getElem? (i := 164) rfl)) rfl
theorem wd885 : (Cond.selects "java/lang/StringBuilder" y306 y306) ∈ TG := tg_in (tt4 (List.mem_of_getElem? (i := 165) rfl)) rfl
theorem wd886 : (Cond.code y306 prog_24_method_39_code 1 (Option.some (FieldType.object "java/lang/StringBuilder"))) ∈ TG := tg_in (tt4 (List.mem_of_getElem? (i := 166) rfl)) rfl
theorem wd887 : (Cond.methodLink "java/lang/StringBuilder" 127 y263) ∈ TG := tg_in (tt4 (List.mem_of_getElem? (i := 167) rfl)) rfl
theorem wd888 : (Cond.instanceMethod y263) ∈ TG := tg_in (tt4 (List.mem_of_getElem? (i := 168) rfl)) rfl
theorem wd889 : (Cond.code y263 prog_14_method_60_code 7 (Option.some (FieldType.object "java/lang/AbstractStringBuilder"))) ∈ TG := tg_in (tt4 (List.mem_of_getElem? (i := 169) rfl)) rfl
theorem wd890 : (Cond.methodLink "java/lang/AbstractStringBuilder" 358 y339) ∈ TG := tg_in (tt4 (List.mem_of_getElem? (i := 170) rfl)) rfl
theorem wd891 : (Cond.static y339) ∈ TG := tg_in (tt4 (List.mem_of_getElem? (i := 171) rfl)) rfl
theorem wd892 : (Cond.code y339 prog_26_method_84_code 8 (Option.none : Option FieldType)) ∈ TG := tg_in (tt4 (List.mem_of_getElem? (i := 172) rfl)) rfl
theorem wd893 : (Cond.methodLink "java/lang/StringUTF16" 180 y320) ∈ TG := tg_in (tt4 (List.mem_of_getElem? (i := 173) rfl)) rfl
theorem wd894 : (Cond.static y320) ∈ TG := tg_in (tt4 (List.mem_of_getElem? (i := 174) rfl)) rfl
theorem wd895 : (Cond.code y320 prog_26_method_92_code 2 (Option.none : Option FieldType)) ∈ TG := tg_in (tt4 (List.mem_of_getElem? (i := 175) rfl)) rfl
theorem wd896 : (Cond.methodLink "java/lang/StringUTF16" 417 y291) ∈ TG := tg_in (tt4 (List.mem_of_getElem? (i := 176) rfl)) rfl
theorem wd897 : (Cond.static y291) ∈ TG := tg_in (tt4 (List.mem_of_getElem? (i := 177) rfl)) rfl
theorem wd898 : (Cond.code y291 prog_23_method_156_code 2 (Option.none : Option FieldType)) ∈ TG := tg_in (tt4 (List.mem_of_getElem? (i := 178) rfl)) rfl
theorem wd899 : (Cond.methodLink "java/lang/StringUTF16" 212 y267) ∈ TG := tg_in (tt4 (List.mem_of_getElem? (i := 179) rfl)) rfl
theorem wd900 : (Cond.static y267) ∈ TG := tg_in (tt4 (List.mem_of_getElem? (i := 180) rfl)) rfl
theorem wd901 : (Cond.code y267 prog_15_method_16_code 1 (Option.some FieldType.boolean)) ∈ TG := tg_in (tt4 (List.mem_of_getElem? (i := 181) rfl)) rfl
theorem wd902 : (Cond.constant "java/lang/Character" 75 (55296 : Int32)) ∈ TG := tg_in (tt4 (List.mem_of_getElem? (i := 182) rfl)) rfl
theorem wd903 : (Cond.constant "java/lang/Character" 77 (57344 : Int32)) ∈ TG := tg_in (tt4 (List.mem_of_getElem? (i := 183) rfl)) rfl
theorem wd904 : (Cond.methodLink "java/lang/StringUTF16" 399 y340) ∈ TG := tg_in (tt4 (List.mem_of_getElem? (i := 184) rfl)) rfl
theorem wd905 : (Cond.static y340) ∈ TG := tg_in (tt4 (List.mem_of_getElem? (i := 185) rfl)) rfl
theorem wd906 : (Cond.code y340 prog_26_method_85_code 5 (Option.none : Option FieldType)) ∈ TG := tg_in (tt4 (List.mem_of_getElem? (i := 186) rfl)) rfl
theorem wd907 : (Cond.methodLink "java/lang/StringUTF16" 81 y266) ∈ TG := tg_in (tt4 (List.mem_of_getElem? (i := 187) rfl)) rfl
theorem wd908 : (Cond.static y266) ∈ TG := tg_in (tt4 (List.mem_of_getElem? (i := 188) rfl)) rfl
theorem wd909 : (Cond.code y266 prog_15_method_15_code 1 (Option.some FieldType.boolean)) ∈ TG := tg_in (tt4 (List.mem_of_getElem? (i := 189) rfl)) rfl
theorem wd910 : (Cond.methodLink "java/lang/StringUTF16" 75 y265) ∈ TG := tg_in (tt4 (List.mem_of_getElem? (i := 190) rfl)) rfl
theorem wd911 : (Cond.static y265) ∈ TG := tg_in (tt4 (List.mem_of_getElem? (i := 191) rfl)) rfl
theorem wd912 : (Cond.code y265 prog_15_method_14_code 1 (Option.some FieldType.boolean)) ∈ TG := tg_in (tt4 (List.mem_of_getElem? (i := 192) rfl)) rfl
theorem wd913 : (Cond.methodLink "WordFunctions$Arguments" 188 y307) ∈ TG := tg_in (tt4 (List.mem_of_getElem? (i := 193) rfl)) rfl
theorem wd914 : (Cond.stringRef "WordFunctions$Arguments" 167 "TRUE") ∈ lw_tbl := tt4 (List.mem_of_getElem? (i := 194) rfl)
theorem wd915 : (Cond.stringRef "WordFunctions$Arguments" 169 "FALSE") ∈ lw_tbl := tt4 (List.mem_of_getElem? (i := 195) rfl)
theorem wd916 : (Cond.methodLink "WordFunctions$Texts" 25 y299) ∈ TG := tg_in (tt4 (List.mem_of_getElem? (i := 196) rfl)) rfl
theorem wd917 : (Cond.methodLink "WordFunctions$Texts" 31 y132) ∈ TG := tg_in (tt4 (List.mem_of_getElem? (i := 197) rfl)) rfl
theorem wd918 : (Cond.methodLink "WordFunctions$Texts" 37 y125) ∈ TG := tg_in (tt4 (List.mem_of_getElem? (i := 198) rfl)) rfl
theorem wd919 : (Cond.privateMethod y125) ∈ lw_tbl := tt4 (List.mem_of_getElem? (i := 199) rfl)
theorem wd920 : (Cond.instanceMethod y125) ∈ TG := tg_in (tt4 (List.mem_of_getElem? (i := 200) rfl)) rfl
theorem wd921 : (Cond.code y125 prog_10_method_3_code 6 (Option.some (FieldType.object "WordFunctions$Value"))) ∈ TG := tg_in (tt4 (List.mem_of_getElem? (i := 201) rfl)) rfl
theorem wd922 : (Cond.methodLink "WordFunctions$Texts" 93 y50) ∈ TG := tg_in (tt4 (List.mem_of_getElem? (i := 202) rfl)) rfl
theorem wd923 : (Cond.instanceMethod y50) ∈ TG := tg_in (tt4 (List.mem_of_getElem? (i := 203) rfl)) rfl
theorem wd924 : (Cond.selects "WordFunctions$Arguments" y50 y50) ∈ TG := tg_in (tt4 (List.mem_of_getElem? (i := 204) rfl)) rfl
theorem wd925 : (Cond.code y50 prog_3_method_18_code 3 (Option.some FieldType.int)) ∈ TG := tg_in (tt4 (List.mem_of_getElem? (i := 205) rfl)) rfl
theorem wd926 : (Cond.methodLink "WordFunctions$Arguments" 143 y36) ∈ TG := tg_in (tt4 (List.mem_of_getElem? (i := 206) rfl)) rfl
theorem wd927 : (Cond.instanceMethod y36) ∈ TG := tg_in (tt4 (List.mem_of_getElem? (i := 207) rfl)) rfl
theorem wd928 : (Cond.selects "WordFunctions$Arguments" y36 y36) ∈ TG := tg_in (tt4 (List.mem_of_getElem? (i := 208) rfl)) rfl
theorem wd929 : (Cond.code y36 prog_3_method_8_code 2 (Option.some FieldType.boolean)) ∈ TG := tg_in (tt4 (List.mem_of_getElem? (i := 209) rfl)) rfl
theorem wd930 : (Cond.methodLink "WordFunctions$Arguments" 147 y49) ∈ TG := tg_in (tt4 (List.mem_of_getElem? (i := 210) rfl)) rfl
theorem wd931 : (Cond.methodLink "WordFunctions$Texts" 97 y131) ∈ TG := tg_in (tt4 (List.mem_of_getElem? (i := 211) rfl)) rfl
theorem wd932 : (Cond.methodLink "WordFunctions$Texts" 101 y279) ∈ TG := tg_in (tt4 (List.mem_of_getElem? (i := 212) rfl)) rfl
theorem wd933 : (Cond.methodLink "WordFunctions$Texts" 106 y300) ∈ TG := tg_in (tt4 (List.mem_of_getElem? (i := 213) rfl)) rfl
theorem wd934 : (Cond.instanceMethod y300) ∈ TG := tg_in (tt4 (List.mem_of_getElem? (i := 214) rfl)) rfl
theorem wd935 : (Cond.selects "java/lang/String" y300 y300) ∈ TG := tg_in (tt4 (List.mem_of_getElem? (i := 215) rfl)) rfl
theorem wd936 : (Cond.code y300 prog_23_method_92_code 5 (Option.some (FieldType.object "java/lang/String"))) ∈ TG := tg_in (tt4 (List.mem_of_getElem? (i := 216) rfl)) rfl
theorem wd937 : (Cond.methodLink "java/lang/String" 521 y288) ∈ TG := tg_in (tt4 (List.mem_of_getElem? (i := 217) rfl)) rfl
theorem wd938 : (Cond.methodLink "java/lang/String" 685 y315) ∈ TG := tg_in (tt4 (List.mem_of_getElem? (i := 218) rfl)) rfl
theorem wd939 : (Cond.static y315) ∈ TG := tg_in (tt4 (List.mem_of_getElem? (i := 219) rfl)) rfl
theorem wd940 : (Cond.code y315 prog_25_method_47_code 3 (Option.some (FieldType.object "java/lang/String"))) ∈ TG := tg_in (tt4 (List.mem_of_getElem? (i := 220) rfl)) rfl
theorem wd941 : (Cond.stringRef "java/lang/StringLatin1" 151 "") ∈ lw_tbl := tt4 (List.mem_of_getElem? (i := 221) rfl)
theorem wd942 : (Cond.classLink "java/lang/StringLatin1" 1 "java/lang/String") ∈ TG := tg_in (tt4 (List.mem_of_getElem? (i := 222) rfl)) rfl
theorem wd943 : (Cond.methodLink "java/lang/StringLatin1" 232 y348) ∈ TG := tg_in (tt4 (List.mem_of_getElem? (i := 223) rfl)) rfl
theorem wd944 : (Cond.methodLink "java/lang/StringLatin1" 112 y286) ∈ TG := tg_in (tt4 (List.mem_of_getElem? (i := 224) rfl)) rfl
theorem wd945 : (Cond.instanceMethod y286) ∈ TG := tg_in (tt4 (List.mem_of_getElem? (i := 225) rfl)) rfl
theorem wd946 : (Cond.code y286 prog_23_method_151_code 3 (Option.none : Option FieldType)) ∈ TG := tg_in (tt4 (List.mem_of_getElem? (i := 226) rfl)) rfl
theorem wd947 : (Cond.methodLink "java/lang/String" 689 y335) ∈ TG := tg_in (tt4 (List.mem_of_getElem? (i := 227) rfl)) rfl
theorem wd948 : (Cond.static y335) ∈ TG := tg_in (tt4 (List.mem_of_getElem? (i := 228) rfl)) rfl
theorem wd949 : (Cond.code y335 prog_26_method_69_code 5 (Option.some (FieldType.object "java/lang/String"))) ∈ TG := tg_in (tt4 (List.mem_of_getElem? (i := 229) rfl)) rfl
theorem wd950 : (Cond.stringRef "java/lang/StringUTF16" 295 "") ∈ lw_tbl := tt4 (List.mem_of_getElem? (i := 230) rfl)
theorem wd951 : (Cond.fieldLink "java/lang/StringUTF16" 251 "java/lang/String" "COMPACT_STRINGS" "Z") ∈ TG := tg_in (tt4 (List.mem_of_getElem? (i := 231) rfl)) rfl
theorem wd952 : (Cond.methodLink "java/lang/StringUTF16" 257 y322) ∈ TG := tg_in (tt4 (List.mem_of_getElem? (i := 232) rfl)) rfl
theorem wd953 : (Cond.methodLink "java/lang/StringUTF16" 259 y321) ∈ TG := tg_in (tt4 (List.mem_of_getElem? (i := 233) rfl)) rfl
theorem wd954 : (Cond.classLink "java/lang/StringUTF16" 3 "java/lang/String") ∈ TG := tg_in (tt4 (List.mem_of_getElem? (i := 234) rfl)) rfl
theorem wd955 : (Cond.methodLink "java/lang/StringUTF16" 263 y286) ∈ TG := tg_in (tt4 (List.mem_of_getElem? (i := 235) rfl)) rfl
theorem wd956 : (Cond.methodLink "WordFunctions$Texts" 110 y133) ∈ TG := tg_in (tt4 (List.mem_of_getElem? (i := 236) rfl)) rfl
theorem wd957 : (Cond.methodLink "WordFunctions$Texts" 41 y118) ∈ TG := tg_in (tt4 (List.mem_of_getElem? (i := 237) rfl)) rfl
theorem wd958 : (Cond.privateMethod y118) ∈ lw_tbl := tt4 (List.mem_of_getElem? (i := 238) rfl)
theorem wd959 : (Cond.instanceMethod y118) ∈ TG := tg_in (tt4 (List.mem_of_getElem? (i := 239) rfl)) rfl
theorem wd960 : (Cond.code y118 prog_10_method_4_code 6 (Option.some (FieldType.object "WordFunctions$Value"))) ∈ TG := tg_in (tt5 (List.mem_of_getElem? (i := 0) rfl)) rfl
theorem wd961 : (Cond.methodLink "WordFunctions$Texts" 114 y49) ∈ TG := tg_in (tt5 (List.mem_of_getElem? (i := 1) rfl)) rfl
theorem wd962 : (Cond.methodLink "WordFunctions$Texts" 45 y115) ∈ TG := tg_in (tt5 (List.mem_of_getElem? (i := 2) rfl)) rfl
theorem wd963 : (Cond.privateMethod y115) ∈ lw_tbl := tt5 (List.mem_of_getElem? (i := 3) rfl)
theorem wd964 : (Cond.instanceMethod y115) ∈ TG := tg_in (tt5 (List.mem_of_getElem? (i := 4) rfl)) rfl
theorem wd965 : (Cond.code y115 prog_10_method_6_code 5 (Option.some (FieldType.object "WordFunctions$Value"))) ∈ TG := tg_in (tt5 (List.mem_of_getElem? (i := 5) rfl)) rfl
theorem wd966 : (Cond.methodLink "WordFunctions$Texts" 122 y116) ∈ TG := tg_in (tt5 (List.mem_of_getElem? (i := 6) rfl)) rfl
theorem wd967 : (Cond.static y116) ∈ TG := tg_in (tt5 (List.mem_of_getElem? (i := 7) rfl)) rfl
theorem wd968 : (Cond.code y116 prog_10_method_5_code 4 (Option.some FieldType.boolean)) ∈ TG := tg_in (tt5 (List.mem_of_getElem? (i := 8) rfl)) rfl
theorem wd969 : (Cond.methodLink "WordFunctions$Texts" 118 y287) ∈ TG := tg_in (tt5 (List.mem_of_getElem? (i := 9) rfl)) rfl
theorem wd970 : (Cond.methodLink "WordFunctions$Texts" 48 y124) ∈ TG := tg_in (tt5 (List.mem_of_getElem? (i := 10) rfl)) rfl
theorem wd971 : (Cond.privateMethod y124) ∈ lw_tbl := tt5 (List.mem_of_getElem? (i := 11) rfl)
theorem wd972 : (Cond.instanceMethod y124) ∈ TG := tg_in (tt5 (List.mem_of_getElem? (i := 12) rfl)) rfl
theorem wd973 : (Cond.code y124 prog_10_method_7_code 5 (Option.some (FieldType.object "WordFunctions$Value"))) ∈ TG := tg_in (tt5 (List.mem_of_getElem? (i := 13) rfl)) rfl
theorem wd974 : (Cond.methodLink "WordFunctions$Texts" 126 y105) ∈ TG := tg_in (tt5 (List.mem_of_getElem? (i := 14) rfl)) rfl
theorem wd975 : (Cond.instanceMethod y105) ∈ TG := tg_in (tt5 (List.mem_of_getElem? (i := 15) rfl)) rfl
theorem wd976 : (Cond.selects "WordFunctions$Pattern" y105 y105) ∈ TG := tg_in (tt5 (List.mem_of_getElem? (i := 16) rfl)) rfl
theorem wd977 : (Cond.code y105 prog_9_method_3_code 4 (Option.none : Option FieldType)) ∈ TG := tg_in (tt5 (List.mem_of_getElem? (i := 17) rfl)) rfl
theorem wd978 : (Cond.methodLink "WordFunctions$Pattern" 23 y299) ∈ TG := tg_in (tt5 (List.mem_of_getElem? (i := 18) rfl)) rfl
theorem wd979 : (Cond.methodLink "WordFunctions$Pattern" 29 y287) ∈ TG := tg_in (tt5 (List.mem_of_getElem? (i := 19) rfl)) rfl
theorem wd980 : (Cond.methodLink "WordFunctions$Pattern" 33 y102) ∈ TG := tg_in (tt5 (List.mem_of_getElem? (i := 20) rfl)) rfl
theorem wd981 : (Cond.static y102) ∈ TG := tg_in (tt5 (List.mem_of_getElem? (i := 21) rfl)) rfl
theorem wd982 : (Cond.code y102 prog_9_method_2_code 1 (Option.some FieldType.boolean)) ∈ TG := tg_in (tt5 (List.mem_of_getElem? (i := 22) rfl)) rfl
theorem wd983 : (Cond.methodLinkNest "WordFunctions$Pattern" 37 y6 "WordFunctions") ∈ lw_tbl := tt5 (List.mem_of_getElem? (i := 23) rfl)
theorem wd984 : (Cond.static y6) ∈ TG := tg_in (tt5 (List.mem_of_getElem? (i := 24) rfl)) rfl
theorem wd985 : (Cond.code y6 prog_1_method_19_code 1 (Option.some FieldType.char)) ∈ TG := tg_in (tt5 (List.mem_of_getElem? (i := 25) rfl)) rfl
theorem wd986 : (Cond.methodLink "WordFunctions$Texts" 132 y104) ∈ TG := tg_in (tt5 (List.mem_of_getElem? (i := 26) rfl)) rfl
theorem wd987 : (Cond.instanceMethod y104) ∈ TG := tg_in (tt5 (List.mem_of_getElem? (i := 27) rfl)) rfl
theorem wd988 : (Cond.selects "WordFunctions$Pattern" y104 y104) ∈ TG := tg_in (tt5 (List.mem_of_getElem? (i := 28) rfl)) rfl
theorem wd989 : (Cond.code y104 prog_9_method_5_code 4 (Option.some FieldType.int)) ∈ TG := tg_in (tt5 (List.mem_of_getElem? (i := 29) rfl)) rfl
theorem wd990 : (Cond.methodLink "WordFunctions$Pattern" 47 y103) ∈ TG := tg_in (tt5 (List.mem_of_getElem? (i := 30) rfl)) rfl
theorem wd991 : (Cond.instanceMethod y103) ∈ TG := tg_in (tt5 (List.mem_of_getElem? (i := 31) rfl)) rfl
theorem wd992 : (Cond.selects "WordFunctions$Pattern" y103 y103) ∈ TG := tg_in (tt5 (List.mem_of_getElem? (i := 32) rfl)) rfl
theorem wd993 : (Cond.code y103 prog_9_method_4_code 7 (Option.some FieldType.boolean)) ∈ TG := tg_in (tt5 (List.mem_of_getElem? (i := 33) rfl)) rfl
theorem wd994 : (Cond.methodLink "WordFunctions$Pattern" 41 y279) ∈ TG := tg_in (tt5 (List.mem_of_getElem? (i := 34) rfl)) rfl
theorem wd995 : (Cond.methodLink "WordFunctions$Texts" 51 y122) ∈ TG := tg_in (tt5 (List.mem_of_getElem? (i := 35) rfl)) rfl
theorem wd996 : (Cond.privateMethod y122) ∈ lw_tbl := tt5 (List.mem_of_getElem? (i := 36) rfl)
theorem wd997 : (Cond.instanceMethod y122) ∈ TG := tg_in (tt5 (List.mem_of_getElem? (i := 37) rfl)) rfl
theorem wd998 : (Cond.code y122 prog_10_method_8_code 8 (Option.some (FieldType.object "WordFunctions$Value"))) ∈ TG := tg_in (tt5 (List.mem_of_getElem? (i := 38) rfl)) rfl
theorem wd999 : (Cond.classLink "WordFunctions$Texts" 136 "java/lang/StringBuilder") ∈ TG := tg_in (tt5 (List.mem_of_getElem? (i := 39) rfl)) rfl
theorem wd1000 : (Cond.methodLink "WordFunctions$Texts" 138 y301) ∈ TG := tg_in (tt5 (List.mem_of_getElem? (i := 40) rfl)) rfl
theorem wd1001 : (Cond.methodLink "WordFunctions$Texts" 139 y304) ∈ TG := tg_in (tt5 (List.mem_of_getElem? (i := 41) rfl)) rfl
theorem wd1002 : (Cond.methodLinkNest "WordFunctions$Texts" 143 y19 "WordFunctions") ∈ lw_tbl := tt5 (List.mem_of_getElem? (i := 42) rfl)
theorem wd1003 : (Cond.static y19) ∈ TG := tg_in (tt5 (List.mem_of_getElem? (i := 43) rfl)) rfl
theorem wd1004 : (Cond.code y19 prog_1_method_21_code 1 (Option.some (FieldType.object "WordFunctions$Value"))) ∈ TG := tg_in (tt5 (List.mem_of_getElem? (i := 44) rfl)) rfl
theorem wd1005 : (Cond.methodLink "WordFunctions" 223 y305) ∈ TG := tg_in (tt5 (List.mem_of_getElem? (i := 45) rfl)) rfl
theorem wd1006 : (Cond.methodLink "WordFunctions$Texts" 54 y127) ∈ TG := tg_in (tt5 (List.mem_of_getElem? (i := 46) rfl)) rfl
theorem wd1007 : (Cond.privateMethod y127) ∈ lw_tbl := tt5 (List.mem_of_getElem? (i := 47) rfl)
theorem wd1008 : (Cond.instanceMethod y127) ∈ TG := tg_in (tt5 (List.mem_of_getElem? (i := 48) rfl)) rfl
theorem wd1009 : (Cond.code y127 prog_10_method_9_code 9 (Option.some (FieldType.object "WordFunctions$Value"))) ∈ TG := tg_in (tt5 (List.mem_of_getElem? (i := 49) rfl)) rfl
theorem wd1010 : (Cond.methodLink "WordFunctions$Texts" 147 y37) ∈ TG := tg_in (tt5 (List.mem_of_getElem? (i := 50) rfl)) rfl
theorem wd1011 : (Cond.methodLink "WordFunctions$Texts" 151 y297) ∈ TG := tg_in (tt5 (List.mem_of_getElem? (i := 51) rfl)) rfl
theorem wd1012 : (Cond.methodLink "WordFunctions$Texts" 155 y305) ∈ TG := tg_in (tt5 (List.mem_of_getElem? (i := 52) rfl)) rfl
theorem wd1013 : (Cond.methodLink "WordFunctions$Texts" 156 y302) ∈ TG := tg_in (tt5 (List.mem_of_getElem? (i := 53) rfl)) rfl
theorem wd1014 : (Cond.methodLink "WordFunctions$Texts" 57 y121) ∈ TG := tg_in (tt5 (List.mem_of_getElem? (i := 54) rfl)) rfl
theorem wd1015 : (Cond.privateMethod y121) ∈ lw_tbl := tt5 (List.mem_of_getElem? (i := 55) rfl)
theorem wd1016 : (Cond.instanceMethod y121) ∈ TG := tg_in (tt5 (List.mem_of_getElem? (i := 56) rfl)) rfl
theorem wd1017 : (Cond.code y121 prog_10_method_10_code 6 (Option.some (FieldType.object "WordFunctions$Value"))) ∈ TG := tg_in (tt5 (List.mem_of_getElem? (i := 57) rfl)) rfl
theorem wd1018 : (Cond.constantLong "WordFunctions$Texts" 159 (255 : Int64)) ∈ TG := tg_in (tt5 (List.mem_of_getElem? (i := 58) rfl)) rfl
theorem wd1019 : (Cond.methodLink "WordFunctions$Texts" 60 y126) ∈ TG := tg_in (tt5 (List.mem_of_getElem? (i := 59) rfl)) rfl
theorem wd1020 : (Cond.privateMethod y126) ∈ lw_tbl := tt5 (List.mem_of_getElem? (i := 60) rfl)
theorem wd1021 : (Cond.instanceMethod y126) ∈ TG := tg_in (tt5 (List.mem_of_getElem? (i := 61) rfl)) rfl
theorem wd1022 : (Cond.code y126 prog_10_method_11_code 6 (Option.some (FieldType.object "WordFunctions$Value"))) ∈ TG := tg_in (tt5 (List.mem_of_getElem? (i := 62) rfl)) rfl
theorem wd1023 : (Cond.methodLinkNest "WordFunctions$Texts" 161 y6 "WordFunctions") ∈ lw_tbl := tt5 (List.mem_of_getElem? (i := 63) rfl)
theorem wd1024 : (Cond.methodLinkNest "WordFunctions$Texts" 165 y18 "WordFunctions") ∈ lw_tbl := tt5 (List.mem_of_getElem? (i := 64) rfl)
theorem wd1025 : (Cond.static y18) ∈ TG := tg_in (tt5 (List.mem_of_getElem? (i := 65) rfl)) rfl
theorem wd1026 : (Cond.code y18 prog_1_method_20_code 1 (Option.some FieldType.char)) ∈ TG := tg_in (tt5 (List.mem_of_getElem? (i := 66) rfl)) rfl
theorem wd1027 : (Cond.methodLink "WordFunctions$Texts" 63 y120) ∈ TG := tg_in (tt5 (List.mem_of_getElem? (i := 67) rfl)) rfl
theorem wd1028 : (Cond.privateMethod y120) ∈ lw_tbl := tt5 (List.mem_of_getElem? (i := 68) rfl)
theorem wd1029 : (Cond.instanceMethod y120) ∈ TG := tg_in (tt5 (List.mem_of_getElem? (i := 69) rfl)) rfl
theorem wd1030 : (Cond.code y120 prog_10_method_12_code 6 (Option.some (FieldType.object "WordFunctions$Value"))) ∈ TG := tg_in (tt5 (List.mem_of_getElem? (i := 70) rfl)) rfl
theorem wd1031 : (Cond.methodLinkNest "WordFunctions$Texts" 168 y10 "WordFunctions") ∈ lw_tbl := tt5 (List.mem_of_getElem? (i := 71) rfl)
theorem wd1032 : (Cond.static y10) ∈ TG := tg_in (tt5 (List.mem_of_getElem? (i := 72) rfl)) rfl
theorem wd1033 : (Cond.code y10 prog_1_method_18_code 1 (Option.some FieldType.boolean)) ∈ TG := tg_in (tt5 (List.mem_of_getElem? (i := 73) rfl)) rfl
theorem wd1034 : (Cond.methodLink "WordFunctions$Texts" 66 y128) ∈ TG := tg_in (tt5 (List.mem_of_getElem? (i := 74) rfl)) rfl
theorem wd1035 : (Cond.privateMethod y128) ∈ lw_tbl := tt5 (List.mem_of_getElem? (i := 75) rfl)
theorem wd1036 : (Cond.instanceMethod y128) ∈ TG := tg_in (tt5 (List.mem_of_getElem? (i := 76) rfl)) rfl
theorem wd1037 : (Cond.code y128 prog_10_method_13_code 6 (Option.some (FieldType.object "WordFunctions$Value"))) ∈ TG := tg_in (tt5 (List.mem_of_getElem? (i := 77) rfl)) rfl
theorem wd1038 : (Cond.methodLink "WordFunctions$Texts" 69 y111) ∈ TG := tg_in (tt5 (List.mem_of_getElem? (i := 78) rfl)) rfl
theorem wd1039 : (Cond.privateMethod y111) ∈ lw_tbl := tt5 (List.mem_of_getElem? (i := 79) rfl)
theorem wd1040 : (Cond.instanceMethod y111) ∈ TG := tg_in (tt5 (List.mem_of_getElem? (i := 80) rfl)) rfl
theorem wd1041 : (Cond.code y111 prog_10_method_14_code 3 (Option.some (FieldType.object "WordFunctions$Value"))) ∈ TG := tg_in (tt5 (List.mem_of_getElem? (i := 81) rfl)) rfl
theorem wd1042 : (Cond.methodLink "WordFunctions$Texts" 176 y107) ∈ TG := tg_in (tt5 (List.mem_of_getElem? (i := 82) rfl)) rfl
theorem wd1043 : (Cond.static y107) ∈ TG := tg_in (tt5 (List.mem_of_getElem? (i := 83) rfl)) rfl
theorem wd1044 : (Cond.code y107 prog_10_method_15_code 2 (Option.none : Option FieldType)) ∈ TG := tg_in (tt5 (List.mem_of_getElem? (i := 84) rfl)) rfl
theorem wd1045 : (Cond.methodLink "WordFunctions$Texts" 72 y117) ∈ TG := tg_in (tt5 (List.mem_of_getElem? (i := 85) rfl)) rfl
theorem wd1046 : (Cond.privateMethod y117) ∈ lw_tbl := tt5 (List.mem_of_getElem? (i := 86) rfl)
theorem wd1047 : (Cond.instanceMethod y117) ∈ TG := tg_in (tt5 (List.mem_of_getElem? (i := 87) rfl)) rfl
theorem wd1048 : (Cond.code y117 prog_10_method_16_code 9 (Option.some (FieldType.object "WordFunctions$Value"))) ∈ TG := tg_in (tt5 (List.mem_of_getElem? (i := 88) rfl)) rfl
theorem wd1049 : (Cond.methodLink "WordFunctions$Texts" 180 y47) ∈ TG := tg_in (tt5 (List.mem_of_getElem? (i := 89) rfl)) rfl
theorem wd1050 : (Cond.instanceMethod y47) ∈ TG := tg_in (tt5 (List.mem_of_getElem? (i := 90) rfl)) rfl
theorem wd1051 : (Cond.selects "WordFunctions$Arguments" y47 y47) ∈ TG := tg_in (tt5 (List.mem_of_getElem? (i := 91) rfl)) rfl
theorem wd1052 : (Cond.code y47 prog_3_method_19_code 2 (Option.some FieldType.boolean)) ∈ TG := tg_in (tt5 (List.mem_of_getElem? (i := 92) rfl)) rfl
theorem wd1053 : (Cond.methodLink "WordFunctions$Texts" 183 y38) ∈ TG := tg_in (tt5 (List.mem_of_getElem? (i := 93) rfl)) rfl
theorem wd1054 : (Cond.instanceMethod y38) ∈ TG := tg_in (tt5 (List.mem_of_getElem? (i := 94) rfl)) rfl
theorem wd1055 : (Cond.selects "WordFunctions$Arguments" y38 y38) ∈ TG := tg_in (tt5 (List.mem_of_getElem? (i := 95) rfl)) rfl
theorem wd1056 : (Cond.code y38 prog_3_method_11_code 2 (Option.some FieldType.int)) ∈ TG := tg_in (tt5 (List.mem_of_getElem? (i := 96) rfl)) rfl
theorem wd1057 : (Cond.methodLink "WordFunctions$Arguments" 82 y41) ∈ TG := tg_in (tt5 (List.mem_of_getElem? (i := 97) rfl)) rfl
theorem wd1058 : (Cond.methodLink "WordFunctions$Texts" 186 y39) ∈ TG := tg_in (tt5 (List.mem_of_getElem? (i := 98) rfl)) rfl
theorem wd1059 : (Cond.methodLink "WordFunctions$Texts" 190 y46) ∈ TG := tg_in (tt5 (List.mem_of_getElem? (i := 99) rfl)) rfl
theorem wd1060 : (Cond.stringRef "WordFunctions$Texts" 194 "") ∈ lw_tbl := tt5 (List.mem_of_getElem? (i := 100) rfl)
theorem wd1061 : (Cond.methodLink "WordFunctions$Texts" 75 y114) ∈ TG := tg_in (tt5 (List.mem_of_getElem? (i := 101) rfl)) rfl
theorem wd1062 : (Cond.privateMethod y114) ∈ lw_tbl := tt5 (List.mem_of_getElem? (i := 102) rfl)
theorem wd1063 : (Cond.instanceMethod y114) ∈ TG := tg_in (tt5 (List.mem_of_getElem? (i := 103) rfl)) rfl
theorem wd1064 : (Cond.code y114 prog_10_method_17_code 3 (Option.some (FieldType.object "WordFunctions$Value"))) ∈ TG := tg_in (tt5 (List.mem_of_getElem? (i := 104) rfl)) rfl
theorem wd1065 : (Cond.methodLink "WordFunctions$Texts" 196 y293) ∈ TG := tg_in (tt5 (List.mem_of_getElem? (i := 105) rfl)) rfl
theorem wd1066 : (Cond.instanceMethod y293) ∈ TG := tg_in (tt5 (List.mem_of_getElem? (i := 106) rfl)) rfl
theorem wd1067 : (Cond.selects "java/lang/String" y293 y293) ∈ TG := tg_in (tt5 (List.mem_of_getElem? (i := 107) rfl)) rfl
theorem wd1068 : (Cond.code y293 prog_23_method_66_code 3 (Option.some FieldType.boolean)) ∈ TG := tg_in (tt5 (List.mem_of_getElem? (i := 108) rfl)) rfl
theorem wd1069 : (Cond.classLink "java/lang/String" 10 "java/lang/String") ∈ TG := tg_in (tt5 (List.mem_of_getElem? (i := 109) rfl)) rfl
theorem wd1070 : (Cond.methodLink "java/lang/String" 541 y311) ∈ TG := tg_in (tt5 (List.mem_of_getElem? (i := 110) rfl)) rfl
theorem wd1071 : (Cond.static y311) ∈ TG := tg_in (tt5 (List.mem_of_getElem? (i := 111) rfl)) rfl
theorem wd1072 : (Cond.code y311 prog_25_method_13_code 3 (Option.some FieldType.boolean)) ∈ TG := tg_in (tt5 (List.mem_of_getElem? (i := 112) rfl)) rfl
theorem wd1073 : (Cond.methodLink "WordFunctions$Texts" 200 y134) ∈ TG := tg_in (tt5 (List.mem_of_getElem? (i := 113) rfl)) rfl
theorem wd1074 : (Cond.methodLink "WordFunctions$Texts" 78 y109) ∈ TG := tg_in (tt5 (List.mem_of_getElem? (i := 114) rfl)) rfl
theorem wd1075 : (Cond.privateMethod y109) ∈ lw_tbl := tt5 (List.mem_of_getElem? (i := 115) rfl)
theorem wd1076 : (Cond.instanceMethod y109) ∈ TG := tg_in (tt5 (List.mem_of_getElem? (i := 116) rfl)) rfl
theorem wd1077 : (Cond.code y109 prog_10_method_18_code 3 (Option.some (FieldType.object "WordFunctions$Value"))) ∈ TG := tg_in (tt5 (List.mem_of_getElem? (i := 117) rfl)) rfl
theorem wd1078 : (Cond.methodLink "WordFunctions$Texts" 81 y110) ∈ TG := tg_in (tt5 (List.mem_of_getElem? (i := 118) rfl)) rfl
theorem wd1079 : (Cond.privateMethod y110) ∈ lw_tbl := tt5 (List.mem_of_getElem? (i := 119) rfl)
theorem wd1080 : (Cond.instanceMethod y110) ∈ TG := tg_in (tt5 (List.mem_of_getElem? (i := 120) rfl)) rfl
theorem wd1081 : (Cond.code y110 prog_10_method_19_code 2 (Option.some (FieldType.object "WordFunctions$Value"))) ∈ TG := tg_in (tt5 (List.mem_of_getElem? (i := 121) rfl)) rfl
theorem wd1082 : (Cond.methodLink "WordFunctions$Texts" 84 y123) ∈ TG := tg_in (tt5 (List.mem_of_getElem? (i := 122) rfl)) rfl
theorem wd1083 : (Cond.privateMethod y123) ∈ lw_tbl := tt5 (List.mem_of_getElem? (i := 123) rfl)
theorem wd1084 : (Cond.instanceMethod y123) ∈ TG := tg_in (tt5 (List.mem_of_getElem? (i := 124) rfl)) rfl
theorem wd1085 : (Cond.code y123 prog_10_method_20_code 5 (Option.some (FieldType.object "WordFunctions$Value"))) ∈ TG := tg_in (tt5 (List.mem_of_getElem? (i := 125) rfl)) rfl
theorem wd1086 : (Cond.fieldLink "WordFunctions$Texts" 203 "WordFunctions$Texts" "ROMAN_VALUES" "[I") ∈ TG := tg_in (tt5 (List.mem_of_getElem? (i := 126) rfl)) rfl
theorem wd1087 : (Cond.laysStatic "WordFunctions$Texts" "ROMAN_VALUES" "[I") ∈ lw_tbl := tt5 (List.mem_of_getElem? (i := 127) rfl)
theorem wd1088 : (Cond.stringRef "WordFunctions$Texts" 207 "M CMD CDC XCL XLX IXV IVI ") ∈ lw_tbl := tt5 (List.mem_of_getElem? (i := 128) rfl)
theorem wd1089 : (Cond.methodLink "WordFunctions$Texts" 87 y108) ∈ TG := tg_in (tt5 (List.mem_of_getElem? (i := 129) rfl)) rfl
theorem wd1090 : (Cond.privateMethod y108) ∈ lw_tbl := tt5 (List.mem_of_getElem? (i := 130) rfl)
theorem wd1091 : (Cond.instanceMethod y108) ∈ TG := tg_in (tt5 (List.mem_of_getElem? (i := 131) rfl)) rfl
theorem wd1092 : (Cond.code y108 prog_10_method_21_code 11 (Option.some (FieldType.object "WordFunctions$Value"))) ∈ TG := tg_in (tt5 (List.mem_of_getElem? (i := 132) rfl)) rfl
theorem wd1093 : (Cond.methodLink "WordFunctions$Texts" 209 y40) ∈ TG := tg_in (tt5 (List.mem_of_getElem? (i := 133) rfl)) rfl
theorem wd1094 : (Cond.constantDouble "WordFunctions$Texts" 213 (13830554455654793216 : UInt64)) ∈ TG := tg_in (tt5 (List.mem_of_getElem? (i := 134) rfl)) rfl
theorem wd1095 : (Cond.constantDouble "WordFunctions$Texts" 215 (4845873199050653696 : UInt64)) ∈ TG := tg_in (tt5 (List.mem_of_getElem? (i := 135) rfl)) rfl
theorem wd1096 : (Cond.methodLink "WordFunctions$Texts" 217 y278) ∈ TG := tg_in (tt5 (List.mem_of_getElem? (i := 136) rfl)) rfl
theorem wd1097 : (Cond.methodLink "WordFunctions$Texts" 220 y306) ∈ TG := tg_in (tt5 (List.mem_of_getElem? (i := 137) rfl)) rfl
theorem wd1098 : (Cond.methodLink "WordFunctions$Texts" 90 y112) ∈ TG := tg_in (tt5 (List.mem_of_getElem? (i := 138) rfl)) rfl
theorem wd1099 : (Cond.privateMethod y112) ∈ lw_tbl := tt5 (List.mem_of_getElem? (i := 139) rfl)
theorem wd1100 : (Cond.instanceMethod y112) ∈ TG := tg_in (tt5 (List.mem_of_getElem? (i := 140) rfl)) rfl
theorem wd1101 : (Cond.code y112 prog_10_method_23_code 7 (Option.some (FieldType.object "WordFunctions$Value"))) ∈ TG := tg_in (tt5 (List.mem_of_getElem? (i := 141) rfl)) rfl
theorem wd1102 : (Cond.methodLink "WordFunctions$Texts" 224 y113) ∈ TG := tg_in (tt5 (List.mem_of_getElem? (i := 142) rfl)) rfl
theorem wd1103 : (Cond.static y113) ∈ TG := tg_in (tt5 (List.mem_of_getElem? (i := 143) rfl)) rfl
theorem wd1104 : (Cond.code y113 prog_10_method_22_code 1 (Option.some FieldType.int)) ∈ TG := tg_in (tt5 (List.mem_of_getElem? (i := 144) rfl)) rfl
theorem wd1105 : (Cond.constantLong "WordFunctions$Texts" 228 (9007199254740991 : Int64)) ∈ TG := tg_in (tt5 (List.mem_of_getElem? (i := 145) rfl)) rfl
theorem wd1106 : (Cond.methodLink "WordFunctions" 168 y98) ∈ TG := tg_in (tt5 (List.mem_of_getElem? (i := 146) rfl)) rfl
theorem wd1107 : (Cond.instanceMethod y98) ∈ TG := tg_in (tt5 (List.mem_of_getElem? (i := 147) rfl)) rfl
theorem wd1108 : (Cond.selects "WordFunctions$LookUps" y98 y98) ∈ TG := tg_in (tt5 (List.mem_of_getElem? (i := 148) rfl)) rfl
theorem wd1109 : (Cond.code y98 prog_8_method_2_code 2 (Option.some (FieldType.object "WordFunctions$Value"))) ∈ TG := tg_in (tt5 (List.mem_of_getElem? (i := 149) rfl)) rfl
theorem wd1110 : (Cond.methodLink "WordFunctions$LookUps" 19 y94) ∈ TG := tg_in (tt5 (List.mem_of_getElem? (i := 150) rfl)) rfl
theorem wd1111 : (Cond.privateMethod y94) ∈ lw_tbl := tt5 (List.mem_of_getElem? (i := 151) rfl)
theorem wd1112 : (Cond.instanceMethod y94) ∈ TG := tg_in (tt5 (List.mem_of_getElem? (i := 152) rfl)) rfl
theorem wd1113 : (Cond.code y94 prog_8_method_7_code 8 (Option.some (FieldType.object "WordFunctions$Value"))) ∈ TG := tg_in (tt5 (List.mem_of_getElem? (i := 153) rfl)) rfl
theorem wd1114 : (Cond.methodLink "WordFunctions$LookUps" 112 y100) ∈ TG := tg_in (tt5 (List.mem_of_getElem? (i := 154) rfl)) rfl
theorem wd1115 : (Cond.privateMethod y100) ∈ lw_tbl := tt5 (List.mem_of_getElem? (i := 155) rfl)
theorem wd1116 : (Cond.instanceMethod y100) ∈ TG := tg_in (tt5 (List.mem_of_getElem? (i := 156) rfl)) rfl
theorem wd1117 : (Cond.code y100 prog_8_method_3_code 2 (Option.some (FieldType.object "WordFunctions$Value"))) ∈ TG := tg_in (tt5 (List.mem_of_getElem? (i := 157) rfl)) rfl
theorem wd1118 : (Cond.methodLink "WordFunctions$LookUps" 51 y39) ∈ TG := tg_in (tt5 (List.mem_of_getElem? (i := 158) rfl)) rfl
theorem wd1119 : (Cond.methodLink "WordFunctions$LookUps" 63 y34) ∈ TG := tg_in (tt5 (List.mem_of_getElem? (i := 159) rfl)) rfl
theorem wd1120 : (Cond.methodLink "WordFunctions$LookUps" 39 y132) ∈ TG := tg_in (tt5 (List.mem_of_getElem? (i := 160) rfl)) rfl
theorem wd1121 : (Cond.methodLink "WordFunctions$LookUps" 118 y48) ∈ TG := tg_in (tt5 (List.mem_of_getElem? (i := 161) rfl)) rfl
theorem wd1122 : (Cond.instanceMethod y48) ∈ TG := tg_in (tt5 (List.mem_of_getElem? (i := 162) rfl)) rfl
theorem wd1123 : (Cond.selects "WordFunctions$Arguments" y48 y48) ∈ TG := tg_in (tt5 (List.mem_of_getElem? (i := 163) rfl)) rfl
theorem wd1124 : (Cond.code y48 prog_3_method_20_code 3 (Option.some FieldType.boolean)) ∈ TG := tg_in (tt5 (List.mem_of_getElem? (i := 164) rfl)) rfl
theorem wd1125 : (Cond.methodLink "WordFunctions$Arguments" 150 y47) ∈ TG := tg_in (tt5 (List.mem_of_getElem? (i := 165) rfl)) rfl
theorem wd1126 : (Cond.methodLink "WordFunctions$LookUps" 126 y92) ∈ TG := tg_in (tt5 (List.mem_of_getElem? (i := 166) rfl)) rfl
theorem wd1127 : (Cond.privateMethod y92) ∈ lw_tbl := tt5 (List.mem_of_getElem? (i := 167) rfl)
theorem wd1128 : (Cond.instanceMethod y92) ∈ TG := tg_in (tt5 (List.mem_of_getElem? (i := 168) rfl)) rfl
theorem wd1129 : (Cond.code y92 prog_8_method_4_code 11 (Option.some FieldType.int)) ∈ TG := tg_in (tt5 (List.mem_of_getElem? (i := 169) rfl)) rfl
theorem wd1130 : (Cond.methodLink "WordFunctions$LookUps" 71 y295) ∈ TG := tg_in (tt5 (List.mem_of_getElem? (i := 170) rfl)) rfl
theorem wd1131 : (Cond.methodLink "WordFunctions$LookUps" 76 y105) ∈ TG := tg_in (tt5 (List.mem_of_getElem? (i := 171) rfl)) rfl
theorem wd1132 : (Cond.methodLink "WordFunctions$LookUps" 82 y103) ∈ TG := tg_in (tt5 (List.mem_of_getElem? (i := 172) rfl)) rfl
theorem wd1133 : (Cond.methodLink "WordFunctions$LookUps" 86 y99) ∈ TG := tg_in (tt5 (List.mem_of_getElem? (i := 173) rfl)) rfl
theorem wd1134 : (Cond.static y99) ∈ TG := tg_in (tt5 (List.mem_of_getElem? (i := 174) rfl)) rfl
theorem wd1135 : (Cond.code y99 prog_8_method_6_code 5 (Option.some FieldType.int)) ∈ TG := tg_in (tt5 (List.mem_of_getElem? (i := 175) rfl)) rfl
theorem wd1136 : (Cond.methodLink "WordFunctions$LookUps" 94 y299) ∈ TG := tg_in (tt5 (List.mem_of_getElem? (i := 176) rfl)) rfl
theorem wd1137 : (Cond.methodLink "WordFunctions$LookUps" 98 y279) ∈ TG := tg_in (tt5 (List.mem_of_getElem? (i := 177) rfl)) rfl
theorem wd1138 : (Cond.methodLink "WordFunctions$LookUps" 104 y287) ∈ TG := tg_in (tt5 (List.mem_of_getElem? (i := 178) rfl)) rfl
theorem wd1139 : (Cond.methodLinkNest "WordFunctions$LookUps" 108 y6 "WordFunctions") ∈ lw_tbl := tt5 (List.mem_of_getElem? (i := 179) rfl)
theorem wd1140 : (Cond.methodLink "WordFunctions$LookUps" 90 y93) ∈ TG := tg_in (tt5 (List.mem_of_getElem? (i := 180) rfl)) rfl
theorem wd1141 : (Cond.static y93) ∈ TG := tg_in (tt5 (List.mem_of_getElem? (i := 181) rfl)) rfl
theorem wd1142 : (Cond.code y93 prog_8_method_5_code 2 (Option.some FieldType.boolean)) ∈ TG := tg_in (tt5 (List.mem_of_getElem? (i := 182) rfl)) rfl
theorem wd1143 : (Cond.methodLink "WordFunctions$LookUps" 130 y30) ∈ TG := tg_in (tt5 (List.mem_of_getElem? (i := 183) rfl)) rfl
theorem wd1144 : (Cond.methodLink "WordFunctions$LookUps" 23 y96) ∈ TG := tg_in (tt5 (List.mem_of_getElem? (i := 184) rfl)) rfl
theorem wd1145 : (Cond.privateMethod y96) ∈ lw_tbl := tt5 (List.mem_of_getElem? (i := 185) rfl)
theorem wd1146 : (Cond.instanceMethod y96) ∈ TG := tg_in (tt5 (List.mem_of_getElem? (i := 186) rfl)) rfl
theorem wd1147 : (Cond.code y96 prog_8_method_8_code 6 (Option.some (FieldType.object "WordFunctions$Value"))) ∈ TG := tg_in (tt5 (List.mem_of_getElem? (i := 187) rfl)) rfl
theorem wd1148 : (Cond.methodLink "WordFunctions$LookUps" 134 y36) ∈ TG := tg_in (tt5 (List.mem_of_getElem? (i := 188) rfl)) rfl
theorem wd1149 : (Cond.methodLink "WordFunctions$LookUps" 138 y38) ∈ TG := tg_in (tt5 (List.mem_of_getElem? (i := 189) rfl)) rfl
theorem wd1150 : (Cond.methodLink "WordFunctions$LookUps" 27 y97) ∈ TG := tg_in (tt5 (List.mem_of_getElem? (i := 190) rfl)) rfl
theorem wd1151 : (Cond.privateMethod y97) ∈ lw_tbl := tt5 (List.mem_of_getElem? (i := 191) rfl)
theorem wd1152 : (Cond.instanceMethod y97) ∈ TG := tg_in (tt5 (List.mem_of_getElem? (i := 192) rfl)) rfl
theorem wd1153 : (Cond.code y97 prog_8_method_9_code 5 (Option.some (FieldType.object "WordFunctions$Value"))) ∈ TG := tg_in (tt5 (List.mem_of_getElem? (i := 193) rfl)) rfl
theorem wd1154 : (Cond.methodLink "WordFunctions$LookUps" 141 y50) ∈ TG := tg_in (tt5 (List.mem_of_getElem? (i := 194) rfl)) rfl
theorem wd1155 : (Cond.methodLink "WordFunctions$LookUps" 30 y91) ∈ TG := tg_in (tt5 (List.mem_of_getElem? (i := 195) rfl)) rfl
theorem wd1156 : (Cond.privateMethod y91) ∈ lw_tbl := tt5 (List.mem_of_getElem? (i := 196) rfl)
theorem wd1157 : (Cond.instanceMethod y91) ∈ TG := tg_in (tt5 (List.mem_of_getElem? (i := 197) rfl)) rfl
theorem wd1158 : (Cond.code y91 prog_8_method_11_code 3 (Option.some (FieldType.object "WordFunctions$Value"))) ∈ TG := tg_in (tt5 (List.mem_of_getElem? (i := 198) rfl)) rfl
theorem wd1159 : (Cond.methodLink "WordFunctions$LookUps" 169 y35) ∈ TG := tg_in (tt5 (List.mem_of_getElem? (i := 199) rfl)) rfl
theorem wd1160 : (Cond.methodLink "WordFunctions$LookUps" 48 y88) ∈ TG := tg_in (tt5 (List.mem_of_getElem? (i := 200) rfl)) rfl
theorem wd1161 : (Cond.privateMethod y88) ∈ lw_tbl := tt5 (List.mem_of_getElem? (i := 201) rfl)
theorem wd1162 : (Cond.instanceMethod y88) ∈ TG := tg_in (tt5 (List.mem_of_getElem? (i := 202) rfl)) rfl
theorem wd1163 : (Cond.code y88 prog_8_method_12_code 10 (Option.some (FieldType.object "WordFunctions$Value"))) ∈ TG := tg_in (tt5 (List.mem_of_getElem? (i := 203) rfl)) rfl
theorem wd1164 : (Cond.methodLink "WordFunctions$LookUps" 185 y45) ∈ TG := tg_in (tt5 (List.mem_of_getElem? (i := 204) rfl)) rfl
theorem wd1165 : (Cond.methodLinkNest "WordFunctions$LookUps" 188 y8 "WordFunctions") ∈ lw_tbl := tt5 (List.mem_of_getElem? (i := 205) rfl)
theorem wd1166 : (Cond.classLink "WordFunctions$LookUps" 191 "java/lang/StringBuilder") ∈ TG := tg_in (tt5 (List.mem_of_getElem? (i := 206) rfl)) rfl
theorem wd1167 : (Cond.methodLink "WordFunctions$LookUps" 193 y301) ∈ TG := tg_in (tt5 (List.mem_of_getElem? (i := 207) rfl)) rfl
theorem wd1168 : (Cond.methodLink "WordFunctions$LookUps" 194 y304) ∈ TG := tg_in (tt5 (List.mem_of_getElem? (i := 208) rfl)) rfl
theorem wd1169 : (Cond.methodLink "WordFunctions$LookUps" 198 y302) ∈ TG := tg_in (tt5 (List.mem_of_getElem? (i := 209) rfl)) rfl
theorem wd1170 : (Cond.stringRef "WordFunctions$LookUps" 201 "$") ∈ lw_tbl := tt5 (List.mem_of_getElem? (i := 210) rfl)
theorem wd1171 : (Cond.stringRef "WordFunctions$LookUps" 203 "") ∈ lw_tbl := tt5 (List.mem_of_getElem? (i := 211) rfl)
theorem wd1172 : (Cond.methodLink "WordFunctions$LookUps" 205 y89) ∈ TG := tg_in (tt5 (List.mem_of_getElem? (i := 212) rfl)) rfl
theorem wd1173 : (Cond.static y89) ∈ TG := tg_in (tt5 (List.mem_of_getElem? (i := 213) rfl)) rfl
theorem wd1174 : (Cond.code y89 prog_8_method_13_code 2 (Option.none : Option FieldType)) ∈ TG := tg_in (tt5 (List.mem_of_getElem? (i := 214) rfl)) rfl
theorem wd1175 : (Cond.methodLink "WordFunctions$LookUps" 209 y303) ∈ TG := tg_in (tt5 (List.mem_of_getElem? (i := 215) rfl)) rfl
theorem wd1176 : (Cond.methodLink "WordFunctions$LookUps" 212 y90) ∈ TG := tg_in (tt5 (List.mem_of_getElem? (i := 216) rfl)) rfl
theorem wd1177 : (Cond.static y90) ∈ TG := tg_in (tt5 (List.mem_of_getElem? (i := 217) rfl)) rfl
theorem wd1178 : (Cond.code y90 prog_8_method_14_code 4 (Option.none : Option FieldType)) ∈ TG := tg_in (tt5 (List.mem_of_getElem? (i := 218) rfl)) rfl
theorem wd1179 : (Cond.stringRef "WordFunctions$LookUps" 220 "[") ∈ lw_tbl := tt5 (List.mem_of_getElem? (i := 219) rfl)
theorem wd1180 : (Cond.stringRef "WordFunctions$LookUps" 222 "]") ∈ lw_tbl := tt5 (List.mem_of_getElem? (i := 220) rfl)
theorem wd1181 : (Cond.methodLinkNest "WordFunctions$LookUps" 216 y19 "WordFunctions") ∈ lw_tbl := tt5 (List.mem_of_getElem? (i := 221) rfl)
theorem wd1182 : (Cond.methodLink "WordFunctions" 169 y72) ∈ TG := tg_in (tt5 (List.mem_of_getElem? (i := 222) rfl)) rfl
theorem wd1183 : (Cond.instanceMethod y72) ∈ TG := tg_in (tt5 (List.mem_of_getElem? (i := 223) rfl)) rfl
theorem wd1184 : (Cond.selects "WordFunctions$Dates" y72 y72) ∈ TG := tg_in (tt5 (List.mem_of_getElem? (i := 224) rfl)) rfl
theorem wd1185 : (Cond.code y72 prog_5_method_2_code 2 (Option.some (FieldType.object "WordFunctions$Value"))) ∈ TG := tg_in (tt5 (List.mem_of_getElem? (i := 225) rfl)) rfl
theorem wd1186 : (Cond.methodLink "WordFunctions$Dates" 19 y64) ∈ TG := tg_in (tt5 (List.mem_of_getElem? (i := 226) rfl)) rfl
theorem wd1187 : (Cond.privateMethod y64) ∈ lw_tbl := tt5 (List.mem_of_getElem? (i := 227) rfl)
theorem wd1188 : (Cond.instanceMethod y64) ∈ TG := tg_in (tt5 (List.mem_of_getElem? (i := 228) rfl)) rfl
theorem wd1189 : (Cond.code y64 prog_5_method_5_code 5 (Option.some (FieldType.object "WordFunctions$Value"))) ∈ TG := tg_in (tt5 (List.mem_of_getElem? (i := 229) rfl)) rfl
theorem wd1190 : (Cond.methodLink "WordFunctions$Dates" 82 y49) ∈ TG := tg_in (tt5 (List.mem_of_getElem? (i := 230) rfl)) rfl
theorem wd1191 : (Cond.methodLink "WordFunctions$Dates" 85 y68) ∈ TG := tg_in (tt5 (List.mem_of_getElem? (i := 231) rfl)) rfl
theorem wd1192 : (Cond.static y68) ∈ TG := tg_in (tt5 (List.mem_of_getElem? (i := 232) rfl)) rfl
theorem wd1193 : (Cond.code y68 prog_5_method_4_code 1 (Option.some FieldType.boolean)) ∈ TG := tg_in (tt5 (List.mem_of_getElem? (i := 233) rfl)) rfl
theorem wd1194 : (Cond.constant "WordFunctions$Dates" 80 (-100000 : Int32)) ∈ TG := tg_in (tt5 (List.mem_of_getElem? (i := 234) rfl)) rfl
theorem wd1195 : (Cond.constant "WordFunctions$Dates" 81 (100000 : Int32)) ∈ TG := tg_in (tt5 (List.mem_of_getElem? (i := 235) rfl)) rfl
theorem wd1196 : (Cond.methodLink "WordFunctions$Dates" 76 y131) ∈ TG := tg_in (tt5 (List.mem_of_getElem? (i := 236) rfl)) rfl
theorem wd1197 : (Cond.methodLink "WordFunctions$Dates" 88 y53) ∈ TG := tg_in (tt5 (List.mem_of_getElem? (i := 237) rfl)) rfl
theorem wd1198 : (Cond.static y53) ∈ TG := tg_in (tt5 (List.mem_of_getElem? (i := 238) rfl)) rfl
theorem wd1199 : (Cond.code y53 prog_4_method_5_code 6 (Option.some FieldType.int)) ∈ TG := tg_in (tt5 (List.mem_of_getElem? (i := 239) rfl)) rfl
theorem wd1200 : (Cond.methodLink "WordFunctions$Calendar" 18 y276) ∈ TG := tg_in (tt6 (List.mem_of_getElem? (i := 0) rfl)) rfl
theorem wd1201 : (Cond.static y276) ∈ TG := tg_in (tt6 (List.mem_of_getElem? (i := 1) rfl)) rfl
theorem wd1202 : (Cond.code y276 prog_21_method_47_code 3 (Option.some FieldType.int)) ∈ TG := tg_in (tt6 (List.mem_of_getElem? (i := 2) rfl)) rfl
theorem wd1203 : (Cond.methodLink "WordFunctions$Calendar" 12 y277) ∈ TG := tg_in (tt6 (List.mem_of_getElem? (i := 3) rfl)) rfl
theorem wd1204 : (Cond.static y277) ∈ TG := tg_in (tt6 (List.mem_of_getElem? (i := 4) rfl)) rfl
theorem wd1205 : (Cond.code y277 prog_21_method_50_code 3 (Option.some FieldType.int)) ∈ TG := tg_in (tt6 (List.mem_of_getElem? (i := 5) rfl)) rfl
theorem wd1206 : (Cond.methodLink "WordFunctions$Calendar" 21 y56) ∈ TG := tg_in (tt6 (List.mem_of_getElem? (i := 6) rfl)) rfl
theorem wd1207 : (Cond.static y56) ∈ TG := tg_in (tt6 (List.mem_of_getElem? (i := 7) rfl)) rfl
theorem wd1208 : (Cond.code y56 prog_4_method_4_code 1 (Option.some FieldType.boolean)) ∈ TG := tg_in (tt6 (List.mem_of_getElem? (i := 8) rfl)) rfl
theorem wd1209 : (Cond.constant "WordFunctions$Calendar" 25 (693593 : Int32)) ∈ TG := tg_in (tt6 (List.mem_of_getElem? (i := 9) rfl)) rfl
theorem wd1210 : (Cond.fieldLink "WordFunctions$Calendar" 26 "WordFunctions$Calendar" "BEFORE_MONTH" "[I") ∈ TG := tg_in (tt6 (List.mem_of_getElem? (i := 10) rfl)) rfl
theorem wd1211 : (Cond.laysStatic "WordFunctions$Calendar" "BEFORE_MONTH" "[I") ∈ lw_tbl := tt6 (List.mem_of_getElem? (i := 11) rfl)
theorem wd1212 : (Cond.methodLink "WordFunctions$Dates" 91 y65) ∈ TG := tg_in (tt6 (List.mem_of_getElem? (i := 12) rfl)) rfl
theorem wd1213 : (Cond.static y65) ∈ TG := tg_in (tt6 (List.mem_of_getElem? (i := 13) rfl)) rfl
theorem wd1214 : (Cond.code y65 prog_5_method_3_code 1 (Option.some (FieldType.object "WordFunctions$Value"))) ∈ TG := tg_in (tt6 (List.mem_of_getElem? (i := 14) rfl)) rfl
theorem wd1215 : (Cond.methodLink "WordFunctions$Dates" 72 y55) ∈ TG := tg_in (tt6 (List.mem_of_getElem? (i := 15) rfl)) rfl
theorem wd1216 : (Cond.static y55) ∈ TG := tg_in (tt6 (List.mem_of_getElem? (i := 16) rfl)) rfl
theorem wd1217 : (Cond.code y55 prog_4_method_2_code 1 (Option.some FieldType.boolean)) ∈ TG := tg_in (tt6 (List.mem_of_getElem? (i := 17) rfl)) rfl
theorem wd1218 : (Cond.constant "WordFunctions$Calendar" 9 (2958465 : Int32)) ∈ TG := tg_in (tt6 (List.mem_of_getElem? (i := 18) rfl)) rfl
theorem wd1219 : (Cond.methodLink "WordFunctions$Dates" 37 y132) ∈ TG := tg_in (tt6 (List.mem_of_getElem? (i := 19) rfl)) rfl
theorem wd1220 : (Cond.methodLink "WordFunctions$Dates" 23 y76) ∈ TG := tg_in (tt6 (List.mem_of_getElem? (i := 20) rfl)) rfl
theorem wd1221 : (Cond.privateMethod y76) ∈ lw_tbl := tt6 (List.mem_of_getElem? (i := 21) rfl)
theorem wd1222 : (Cond.instanceMethod y76) ∈ TG := tg_in (tt6 (List.mem_of_getElem? (i := 22) rfl)) rfl
theorem wd1223 : (Cond.code y76 prog_5_method_7_code 4 (Option.some (FieldType.object "WordFunctions$Value"))) ∈ TG := tg_in (tt6 (List.mem_of_getElem? (i := 23) rfl)) rfl
theorem wd1224 : (Cond.methodLink "WordFunctions$Dates" 94 y69) ∈ TG := tg_in (tt6 (List.mem_of_getElem? (i := 24) rfl)) rfl
theorem wd1225 : (Cond.static y69) ∈ TG := tg_in (tt6 (List.mem_of_getElem? (i := 25) rfl)) rfl
theorem wd1226 : (Cond.code y69 prog_5_method_6_code 1 (Option.some FieldType.boolean)) ∈ TG := tg_in (tt6 (List.mem_of_getElem? (i := 26) rfl)) rfl
theorem wd1227 : (Cond.constant "WordFunctions$Dates" 97 (86400 : Int32)) ∈ TG := tg_in (tt6 (List.mem_of_getElem? (i := 27) rfl)) rfl
theorem wd1228 : (Cond.constantDouble "WordFunctions$Dates" 98 (4680673776000565248 : UInt64)) ∈ TG := tg_in (tt6 (List.mem_of_getElem? (i := 28) rfl)) rfl
theorem wd1229 : (Cond.methodLink "WordFunctions$Dates" 26 y33) ∈ TG := tg_in (tt6 (List.mem_of_getElem? (i := 29) rfl)) rfl
theorem wd1230 : (Cond.instanceMethod y33) ∈ TG := tg_in (tt6 (List.mem_of_getElem? (i := 30) rfl)) rfl
theorem wd1231 : (Cond.selects "WordFunctions$Arguments" y33 y33) ∈ TG := tg_in (tt6 (List.mem_of_getElem? (i := 31) rfl)) rfl
theorem wd1232 : (Cond.code y33 prog_3_method_21_code 4 (Option.some FieldType.int)) ∈ TG := tg_in (tt6 (List.mem_of_getElem? (i := 32) rfl)) rfl
theorem wd1233 : (Cond.methodLink "WordFunctions$Arguments" 153 y54) ∈ TG := tg_in (tt6 (List.mem_of_getElem? (i := 33) rfl)) rfl
theorem wd1234 : (Cond.static y54) ∈ TG := tg_in (tt6 (List.mem_of_getElem? (i := 34) rfl)) rfl
theorem wd1235 : (Cond.code y54 prog_4_method_3_code 2 (Option.some FieldType.boolean)) ∈ TG := tg_in (tt6 (List.mem_of_getElem? (i := 35) rfl)) rfl
theorem wd1236 : (Cond.constantDouble "WordFunctions$Calendar" 10 (4703607668705591296 : UInt64)) ∈ TG := tg_in (tt6 (List.mem_of_getElem? (i := 36) rfl)) rfl
theorem wd1237 : (Cond.methodLink "WordFunctions$Dates" 32 y59) ∈ TG := tg_in (tt6 (List.mem_of_getElem? (i := 37) rfl)) rfl
theorem wd1238 : (Cond.static y59) ∈ TG := tg_in (tt6 (List.mem_of_getElem? (i := 38) rfl)) rfl
theorem wd1239 : (Cond.code y59 prog_4_method_7_code 3 (Option.some FieldType.int)) ∈ TG := tg_in (tt6 (List.mem_of_getElem? (i := 39) rfl)) rfl
theorem wd1240 : (Cond.constantLong "WordFunctions$Calendar" 34 (4800 : Int64)) ∈ TG := tg_in (tt6 (List.mem_of_getElem? (i := 40) rfl)) rfl
theorem wd1241 : (Cond.constantLong "WordFunctions$Calendar" 36 (146097 : Int64)) ∈ TG := tg_in (tt6 (List.mem_of_getElem? (i := 41) rfl)) rfl
theorem wd1242 : (Cond.methodLink "WordFunctions$Calendar" 30 y53) ∈ TG := tg_in (tt6 (List.mem_of_getElem? (i := 42) rfl)) rfl
theorem wd1243 : (Cond.methodLink "WordFunctions$Dates" 43 y52) ∈ TG := tg_in (tt6 (List.mem_of_getElem? (i := 43) rfl)) rfl
theorem wd1244 : (Cond.static y52) ∈ TG := tg_in (tt6 (List.mem_of_getElem? (i := 44) rfl)) rfl
theorem wd1245 : (Cond.code y52 prog_4_method_8_code 1 (Option.some FieldType.int)) ∈ TG := tg_in (tt6 (List.mem_of_getElem? (i := 45) rfl)) rfl
theorem wd1246 : (Cond.methodLink "WordFunctions$Calendar" 38 y59) ∈ TG := tg_in (tt6 (List.mem_of_getElem? (i := 46) rfl)) rfl
theorem wd1247 : (Cond.methodLink "WordFunctions$Dates" 46 y75) ∈ TG := tg_in (tt6 (List.mem_of_getElem? (i := 47) rfl)) rfl
theorem wd1248 : (Cond.privateMethod y75) ∈ lw_tbl := tt6 (List.mem_of_getElem? (i := 48) rfl)
theorem wd1249 : (Cond.instanceMethod y75) ∈ TG := tg_in (tt6 (List.mem_of_getElem? (i := 49) rfl)) rfl
theorem wd1250 : (Cond.code y75 prog_5_method_8_code 5 (Option.some FieldType.int)) ∈ TG := tg_in (tt6 (List.mem_of_getElem? (i := 50) rfl)) rfl
theorem wd1251 : (Cond.methodLink "WordFunctions$Dates" 104 y40) ∈ TG := tg_in (tt6 (List.mem_of_getElem? (i := 51) rfl)) rfl
theorem wd1252 : (Cond.constantDouble "WordFunctions$Dates" 108 (4602678819172646912 : UInt64)) ∈ TG := tg_in (tt6 (List.mem_of_getElem? (i := 52) rfl)) rfl
theorem wd1253 : (Cond.methodLink "WordFunctions$Dates" 50 y78) ∈ TG := tg_in (tt6 (List.mem_of_getElem? (i := 53) rfl)) rfl
theorem wd1254 : (Cond.privateMethod y78) ∈ lw_tbl := tt6 (List.mem_of_getElem? (i := 54) rfl)
theorem wd1255 : (Cond.instanceMethod y78) ∈ TG := tg_in (tt6 (List.mem_of_getElem? (i := 55) rfl)) rfl
theorem wd1256 : (Cond.code y78 prog_5_method_9_code 4 (Option.some (FieldType.object "WordFunctions$Value"))) ∈ TG := tg_in (tt6 (List.mem_of_getElem? (i := 56) rfl)) rfl
theorem wd1257 : (Cond.methodLink "WordFunctions$Dates" 110 y50) ∈ TG := tg_in (tt6 (List.mem_of_getElem? (i := 57) rfl)) rfl
theorem wd1258 : (Cond.methodLink "WordFunctions$Dates" 114 y277) ∈ TG := tg_in (tt6 (List.mem_of_getElem? (i := 58) rfl)) rfl
theorem wd1259 : (Cond.methodLink "WordFunctions$Dates" 53 y77) ∈ TG := tg_in (tt6 (List.mem_of_getElem? (i := 59) rfl)) rfl
theorem wd1260 : (Cond.privateMethod y77) ∈ lw_tbl := tt6 (List.mem_of_getElem? (i := 60) rfl)
theorem wd1261 : (Cond.instanceMethod y77) ∈ TG := tg_in (tt6 (List.mem_of_getElem? (i := 61) rfl)) rfl
theorem wd1262 : (Cond.code y77 prog_5_method_10_code 7 (Option.some (FieldType.object "WordFunctions$Value"))) ∈ TG := tg_in (tt6 (List.mem_of_getElem? (i := 62) rfl)) rfl
theorem wd1263 : (Cond.methodLink "WordFunctions$Dates" 56 y71) ∈ TG := tg_in (tt6 (List.mem_of_getElem? (i := 63) rfl)) rfl
theorem wd1264 : (Cond.privateMethod y71) ∈ lw_tbl := tt6 (List.mem_of_getElem? (i := 64) rfl)
theorem wd1265 : (Cond.instanceMethod y71) ∈ TG := tg_in (tt6 (List.mem_of_getElem? (i := 65) rfl)) rfl
theorem wd1266 : (Cond.code y71 prog_5_method_11_code 7 (Option.some (FieldType.object "WordFunctions$Value"))) ∈ TG := tg_in (tt6 (List.mem_of_getElem? (i := 66) rfl)) rfl
theorem wd1267 : (Cond.methodLink "WordFunctions$Dates" 119 y58) ∈ TG := tg_in (tt6 (List.mem_of_getElem? (i := 67) rfl)) rfl
theorem wd1268 : (Cond.static y58) ∈ TG := tg_in (tt6 (List.mem_of_getElem? (i := 68) rfl)) rfl
theorem wd1269 : (Cond.code y58 prog_4_method_6_code 1 (Option.some FieldType.int)) ∈ TG := tg_in (tt6 (List.mem_of_getElem? (i := 69) rfl)) rfl
theorem wd1270 : (Cond.methodLink "WordFunctions$Dates" 122 y279) ∈ TG := tg_in (tt6 (List.mem_of_getElem? (i := 70) rfl)) rfl
theorem wd1271 : (Cond.methodLink "WordFunctions$Dates" 60 y66) ∈ TG := tg_in (tt6 (List.mem_of_getElem? (i := 71) rfl)) rfl
theorem wd1272 : (Cond.privateMethod y66) ∈ lw_tbl := tt6 (List.mem_of_getElem? (i := 72) rfl)
theorem wd1273 : (Cond.instanceMethod y66) ∈ TG := tg_in (tt6 (List.mem_of_getElem? (i := 73) rfl)) rfl
theorem wd1274 : (Cond.code y66 prog_5_method_12_code 3 (Option.some (FieldType.object "WordFunctions$Value"))) ∈ TG := tg_in (tt6 (List.mem_of_getElem? (i := 74) rfl)) rfl
theorem wd1275 : (Cond.methodLink "WordFunctions$Dates" 63 y67) ∈ TG := tg_in (tt6 (List.mem_of_getElem? (i := 75) rfl)) rfl
theorem wd1276 : (Cond.privateMethod y67) ∈ lw_tbl := tt6 (List.mem_of_getElem? (i := 76) rfl)
theorem wd1277 : (Cond.instanceMethod y67) ∈ TG := tg_in (tt6 (List.mem_of_getElem? (i := 77) rfl)) rfl
theorem wd1278 : (Cond.code y67 prog_5_method_13_code 5 (Option.some (FieldType.object "WordFunctions$Value"))) ∈ TG := tg_in (tt6 (List.mem_of_getElem? (i := 78) rfl)) rfl
theorem wd1279 : (Cond.methodLink "WordFunctions$Dates" 125 y45) ∈ TG := tg_in (tt6 (List.mem_of_getElem? (i := 79) rfl)) rfl
theorem wd1280 : (Cond.stringRef "WordFunctions$Dates" 129 "Y") ∈ lw_tbl := tt6 (List.mem_of_getElem? (i := 80) rfl)
theorem wd1281 : (Cond.methodLink "WordFunctions$Dates" 131 y70) ∈ TG := tg_in (tt6 (List.mem_of_getElem? (i := 81) rfl)) rfl
theorem wd1282 : (Cond.static y70) ∈ TG := tg_in (tt6 (List.mem_of_getElem? (i := 82) rfl)) rfl
theorem wd1283 : (Cond.code y70 prog_5_method_14_code 3 (Option.some FieldType.boolean)) ∈ TG := tg_in (tt6 (List.mem_of_getElem? (i := 83) rfl)) rfl
theorem wd1284 : (Cond.methodLink "WordFunctions$Dates" 148 y299) ∈ TG := tg_in (tt6 (List.mem_of_getElem? (i := 84) rfl)) rfl
theorem wd1285 : (Cond.methodLink "WordFunctions$Dates" 153 y287) ∈ TG := tg_in (tt6 (List.mem_of_getElem? (i := 85) rfl)) rfl
theorem wd1286 : (Cond.methodLinkNest "WordFunctions$Dates" 157 y6 "WordFunctions") ∈ lw_tbl := tt6 (List.mem_of_getElem? (i := 86) rfl)
theorem wd1287 : (Cond.stringRef "WordFunctions$Dates" 135 "M") ∈ lw_tbl := tt6 (List.mem_of_getElem? (i := 87) rfl)
theorem wd1288 : (Cond.stringRef "WordFunctions$Dates" 137 "D") ∈ lw_tbl := tt6 (List.mem_of_getElem? (i := 88) rfl)
theorem wd1289 : (Cond.stringRef "WordFunctions$Dates" 139 "YM") ∈ lw_tbl := tt6 (List.mem_of_getElem? (i := 89) rfl)
theorem wd1290 : (Cond.stringRef "WordFunctions$Dates" 141 "MD") ∈ lw_tbl := tt6 (List.mem_of_getElem? (i := 90) rfl)
theorem wd1291 : (Cond.methodLink "WordFunctions$Dates" 143 y73) ∈ TG := tg_in (tt6 (List.mem_of_getElem? (i := 91) rfl)) rfl
theorem wd1292 : (Cond.static y73) ∈ TG := tg_in (tt6 (List.mem_of_getElem? (i := 92) rfl)) rfl
theorem wd1293 : (Cond.code y73 prog_5_method_15_code 5 (Option.some FieldType.int)) ∈ TG := tg_in (tt6 (List.mem_of_getElem? (i := 93) rfl)) rfl
theorem wd1294 : (Cond.stringRef "WordFunctions$Dates" 146 "YD") ∈ lw_tbl := tt6 (List.mem_of_getElem? (i := 94) rfl)
theorem wd1295 : (Cond.methodLink "WordFunctions$Dates" 66 y82) ∈ TG := tg_in (tt6 (List.mem_of_getElem? (i := 95) rfl)) rfl
theorem wd1296 : (Cond.privateMethod y82) ∈ lw_tbl := tt6 (List.mem_of_getElem? (i := 96) rfl)
theorem wd1297 : (Cond.instanceMethod y82) ∈ TG := tg_in (tt6 (List.mem_of_getElem? (i := 97) rfl)) rfl
theorem wd1298 : (Cond.code y82 prog_5_method_18_code 7 (Option.some (FieldType.object "WordFunctions$Value"))) ∈ TG := tg_in (tt6 (List.mem_of_getElem? (i := 98) rfl)) rfl
theorem wd1299 : (Cond.methodLink "WordFunctions$Dates" 187 y74) ∈ TG := tg_in (tt6 (List.mem_of_getElem? (i := 99) rfl)) rfl
theorem wd1300 : (Cond.privateMethod y74) ∈ lw_tbl := tt6 (List.mem_of_getElem? (i := 100) rfl)
theorem wd1301 : (Cond.instanceMethod y74) ∈ TG := tg_in (tt6 (List.mem_of_getElem? (i := 101) rfl)) rfl
theorem wd1302 : (Cond.code y74 prog_5_method_16_code 5 (Option.none : Option FieldType)) ∈ TG := tg_in (tt6 (List.mem_of_getElem? (i := 102) rfl)) rfl
theorem wd1303 : (Cond.methodLink "WordFunctions$Dates" 164 y38) ∈ TG := tg_in (tt6 (List.mem_of_getElem? (i := 103) rfl)) rfl
theorem wd1304 : (Cond.methodLink "WordFunctions$Dates" 167 y39) ∈ TG := tg_in (tt6 (List.mem_of_getElem? (i := 104) rfl)) rfl
theorem wd1305 : (Cond.methodLink "WordFunctions$Dates" 176 y54) ∈ TG := tg_in (tt6 (List.mem_of_getElem? (i := 105) rfl)) rfl
theorem wd1306 : (Cond.methodLink "WordFunctions$Dates" 180 y63) ∈ TG := tg_in (tt6 (List.mem_of_getElem? (i := 106) rfl)) rfl
theorem wd1307 : (Cond.privateMethod y63) ∈ lw_tbl := tt6 (List.mem_of_getElem? (i := 107) rfl)
theorem wd1308 : (Cond.instanceMethod y63) ∈ TG := tg_in (tt6 (List.mem_of_getElem? (i := 108) rfl)) rfl
theorem wd1309 : (Cond.code y63 prog_5_method_17_code 5 (Option.none : Option FieldType)) ∈ TG := tg_in (tt6 (List.mem_of_getElem? (i := 109) rfl)) rfl
theorem wd1310 : (Cond.methodLink "WordFunctions$Dates" 184 y57) ∈ TG := tg_in (tt6 (List.mem_of_getElem? (i := 110) rfl)) rfl
theorem wd1311 : (Cond.static y57) ∈ TG := tg_in (tt6 (List.mem_of_getElem? (i := 111) rfl)) rfl
theorem wd1312 : (Cond.code y57 prog_4_method_9_code 1 (Option.some FieldType.boolean)) ∈ TG := tg_in (tt6 (List.mem_of_getElem? (i := 112) rfl)) rfl
theorem wd1313 : (Cond.methodLink "WordFunctions$Dates" 190 y278) ∈ TG := tg_in (tt6 (List.mem_of_getElem? (i := 113) rfl)) rfl
theorem wd1314 : (Cond.methodLink "WordFunctions$Dates" 193 y61) ∈ TG := tg_in (tt6 (List.mem_of_getElem? (i := 114) rfl)) rfl
theorem wd1315 : (Cond.static y61) ∈ TG := tg_in (tt6 (List.mem_of_getElem? (i := 115) rfl)) rfl
theorem wd1316 : (Cond.code y61 prog_4_method_10_code 2 (Option.some FieldType.int)) ∈ TG := tg_in (tt6 (List.mem_of_getElem? (i := 116) rfl)) rfl
theorem wd1317 : (Cond.methodLink "WordFunctions$Calendar" 41 y279) ∈ TG := tg_in (tt6 (List.mem_of_getElem? (i := 117) rfl)) rfl
theorem wd1318 : (Cond.methodLink "WordFunctions$Dates" 69 y79) ∈ TG := tg_in (tt6 (List.mem_of_getElem? (i := 118) rfl)) rfl
theorem wd1319 : (Cond.privateMethod y79) ∈ lw_tbl := tt6 (List.mem_of_getElem? (i := 119) rfl)
theorem wd1320 : (Cond.instanceMethod y79) ∈ TG := tg_in (tt6 (List.mem_of_getElem? (i := 120) rfl)) rfl
theorem wd1321 : (Cond.code y79 prog_5_method_19_code 3 (Option.some (FieldType.object "WordFunctions$Value"))) ∈ TG := tg_in (tt6 (List.mem_of_getElem? (i := 121) rfl)) rfl
theorem wd1322 : (Cond.methodLink "WordFunctions$Dates" 196 y81) ∈ TG := tg_in (tt6 (List.mem_of_getElem? (i := 122) rfl)) rfl
theorem wd1323 : (Cond.privateMethod y81) ∈ lw_tbl := tt6 (List.mem_of_getElem? (i := 123) rfl)
theorem wd1324 : (Cond.instanceMethod y81) ∈ TG := tg_in (tt6 (List.mem_of_getElem? (i := 124) rfl)) rfl
theorem wd1325 : (Cond.code y81 prog_5_method_20_code 5 (Option.some FieldType.int)) ∈ TG := tg_in (tt6 (List.mem_of_getElem? (i := 125) rfl)) rfl
theorem wd1326 : (Cond.methodLink "WordFunctions$Dates" 202 y60) ∈ TG := tg_in (tt6 (List.mem_of_getElem? (i := 126) rfl)) rfl
theorem wd1327 : (Cond.static y60) ∈ TG := tg_in (tt6 (List.mem_of_getElem? (i := 127) rfl)) rfl
theorem wd1328 : (Cond.code y60 prog_4_method_11_code 1 (Option.some FieldType.int)) ∈ TG := tg_in (tt6 (List.mem_of_getElem? (i := 128) rfl)) rfl
theorem wd1329 : (Cond.methodLink "WordFunctions$Dates" 199 y80) ∈ TG := tg_in (tt6 (List.mem_of_getElem? (i := 129) rfl)) rfl
theorem wd1330 : (Cond.privateMethod y80) ∈ lw_tbl := tt6 (List.mem_of_getElem? (i := 130) rfl)
theorem wd1331 : (Cond.instanceMethod y80) ∈ TG := tg_in (tt6 (List.mem_of_getElem? (i := 131) rfl)) rfl
theorem wd1332 : (Cond.code y80 prog_5_method_21_code 5 (Option.some FieldType.int)) ∈ TG := tg_in (tt6 (List.mem_of_getElem? (i := 132) rfl)) rfl
theorem wd1333 : (Cond.methodLink "WordFunctions" 170 y85) ∈ TG := tg_in (tt6 (List.mem_of_getElem? (i := 133) rfl)) rfl
theorem wd1334 : (Cond.instanceMethod y85) ∈ TG := tg_in (tt6 (List.mem_of_getElem? (i := 134) rfl)) rfl
theorem wd1335 : (Cond.selects "WordFunctions$Kinds" y85 y85) ∈ TG := tg_in (tt6 (List.mem_of_getElem? (i := 135) rfl)) rfl
theorem wd1336 : (Cond.code y85 prog_7_method_2_code 4 (Option.some (FieldType.object "WordFunctions$Value"))) ∈ TG := tg_in (tt6 (List.mem_of_getElem? (i := 136) rfl)) rfl
theorem wd1337 : (Cond.methodLink "WordFunctions$Kinds" 15 y39) ∈ TG := tg_in (tt6 (List.mem_of_getElem? (i := 137) rfl)) rfl
theorem wd1338 : (Cond.constantDouble "WordFunctions$Kinds" 31 (4619567317775286272 : UInt64)) ∈ TG := tg_in (tt6 (List.mem_of_getElem? (i := 138) rfl)) rfl
theorem wd1339 : (Cond.methodLink "WordFunctions$Kinds" 33 y134) ∈ TG := tg_in (tt6 (List.mem_of_getElem? (i := 139) rfl)) rfl
theorem wd1340 : (Cond.methodLink "WordFunctions$Kinds" 37 y49) ∈ TG := tg_in (tt6 (List.mem_of_getElem? (i := 140) rfl)) rfl
theorem wd1341 : (Cond.methodLink "WordFunctions$Kinds" 41 y131) ∈ TG := tg_in (tt6 (List.mem_of_getElem? (i := 141) rfl)) rfl
theorem wd1342 : (Cond.methodLink "WordFunctions$Kinds" 45 y86) ∈ TG := tg_in (tt6 (List.mem_of_getElem? (i := 142) rfl)) rfl
theorem wd1343 : (Cond.privateMethod y86) ∈ lw_tbl := tt6 (List.mem_of_getElem? (i := 143) rfl)
theorem wd1344 : (Cond.instanceMethod y86) ∈ TG := tg_in (tt6 (List.mem_of_getElem? (i := 144) rfl)) rfl
theorem wd1345 : (Cond.code y86 prog_7_method_3_code 2 (Option.some FieldType.int)) ∈ TG := tg_in (tt6 (List.mem_of_getElem? (i := 145) rfl)) rfl
theorem wd1346 : (Cond.methodLink "WordFunctions$Kinds" 55 y38) ∈ TG := tg_in (tt6 (List.mem_of_getElem? (i := 146) rfl)) rfl
theorem wd1347 : (Cond.methodLink "WordFunctions$Kinds" 49 y132) ∈ TG := tg_in (tt6 (List.mem_of_getElem? (i := 147) rfl)) rfl
theorem wd1348 : (Cond.constantDouble "WordFunctions$Kinds" 53 (4614256656552045848 : UInt64)) ∈ TG := tg_in (tt6 (List.mem_of_getElem? (i := 148) rfl)) rfl
theorem wd1349 : (Cond.methodLink "WordFunctions" 171 y22) ∈ TG := tg_in (tt6 (List.mem_of_getElem? (i := 149) rfl)) rfl
theorem wd1350 : (Cond.methodLink "WordFunctions" 175 y31) ∈ TG := tg_in (tt6 (List.mem_of_getElem? (i := 150) rfl)) rfl
theorem wd1351 : (Cond.instanceMethod y31) ∈ TG := tg_in (tt6 (List.mem_of_getElem? (i := 151) rfl)) rfl
theorem wd1352 : (Cond.selects "WordFunctions$Arguments" y31 y31) ∈ TG := tg_in (tt6 (List.mem_of_getElem? (i := 152) rfl)) rfl
theorem wd1353 : (Cond.code y31 prog_3_method_3_code 1 (Option.none : Option FieldType)) ∈ TG := tg_in (tt6 (List.mem_of_getElem? (i := 153) rfl)) rfl
theorem wd1354 : (Cond.methodLink "WordFunctions" 178 y24) ∈ TG := tg_in (tt6 (List.mem_of_getElem? (i := 154) rfl)) rfl
theorem wd1355 : (Cond.instanceMethod y24) ∈ TG := tg_in (tt6 (List.mem_of_getElem? (i := 155) rfl)) rfl
theorem wd1356 : (Cond.selects "WordFunctions$Answer" y24 y24) ∈ TG := tg_in (tt6 (List.mem_of_getElem? (i := 156) rfl)) rfl
theorem wd1357 : (Cond.code y24 prog_2_method_2_code 1 (Option.some FieldType.boolean)) ∈ TG := tg_in (tt6 (List.mem_of_getElem? (i := 157) rfl)) rfl
theorem wd1358 : (Cond.classLink "WordFunctionsLaw" 22 "WordFunctionsModel") ∈ TG := tg_in (tt6 (List.mem_of_getElem? (i := 158) rfl)) rfl
theorem wd1359 : (Cond.instantiable "WordFunctionsModel" 55) ∈ TG := tg_in (tt6 (List.mem_of_getElem? (i := 159) rfl)) rfl
theorem wd1360 : (Cond.methodLink "WordFunctionsLaw" 24 y138) ∈ TG := tg_in (tt6 (List.mem_of_getElem? (i := 160) rfl)) rfl
theorem wd1361 : (Cond.instanceMethod y138) ∈ TG := tg_in (tt6 (List.mem_of_getElem? (i := 161) rfl)) rfl
theorem wd1362 : (Cond.code y138 prog_13_method_1_code 1 (Option.none : Option FieldType)) ∈ TG := tg_in (tt6 (List.mem_of_getElem? (i := 162) rfl)) rfl
theorem wd1363 : (Cond.methodLink "WordFunctionsModel" 1 y280) ∈ TG := tg_in (tt6 (List.mem_of_getElem? (i := 163) rfl)) rfl
theorem wd1364 : (Cond.constant "WordFunctionsModel" 16 (140000 : Int32)) ∈ TG := tg_in (tt6 (List.mem_of_getElem? (i := 164) rfl)) rfl
theorem wd1365 : (Cond.constant "WordFunctionsModel" 79 (66000 : Int32)) ∈ TG := tg_in (tt6 (List.mem_of_getElem? (i := 165) rfl)) rfl
theorem wd1366 : (Cond.fieldLink "WordFunctionsModel" 102 "WordFunctionsModel" "code" "I") ∈ TG := tg_in (tt6 (List.mem_of_getElem? (i := 166) rfl)) rfl
theorem wd1367 : (Cond.fieldLink "WordFunctionsModel" 105 "WordFunctionsModel" "fed" "I") ∈ TG := tg_in (tt6 (List.mem_of_getElem? (i := 167) rfl)) rfl
theorem wd1368 : (Cond.fieldLink "WordFunctionsModel" 112 "WordFunctionsModel" "size" "I") ∈ TG := tg_in (tt6 (List.mem_of_getElem? (i := 168) rfl)) rfl
theorem wd1369 : (Cond.fieldLink "WordFunctionsModel" 140 "WordFunctionsModel" "heap" "I") ∈ TG := tg_in (tt6 (List.mem_of_getElem? (i := 169) rfl)) rfl
theorem wd1370 : (Cond.fieldLink "WordFunctionsModel" 7 "WordFunctionsModel" "tape" "[I") ∈ TG := tg_in (tt6 (List.mem_of_getElem? (i := 170) rfl)) rfl
theorem wd1371 : (Cond.fieldLink "WordFunctionsModel" 13 "WordFunctionsModel" "text" "[I") ∈ TG := tg_in (tt6 (List.mem_of_getElem? (i := 171) rfl)) rfl
theorem wd1372 : (Cond.fieldLink "WordFunctionsModel" 17 "WordFunctionsModel" "letters" "[I") ∈ TG := tg_in (tt6 (List.mem_of_getElem? (i := 172) rfl)) rfl
theorem wd1373 : (Cond.fieldLink "WordFunctionsModel" 123 "WordFunctionsModel" "count" "I") ∈ TG := tg_in (tt6 (List.mem_of_getElem? (i := 173) rfl)) rfl
theorem wd1374 : (Cond.fieldLink "WordFunctionsModel" 120 "WordFunctionsModel" "used" "I") ∈ TG := tg_in (tt6 (List.mem_of_getElem? (i := 174) rfl)) rfl
theorem wd1375 : (Cond.fieldLink "WordFunctionsModel" 20 "WordFunctionsModel" "rows" "[I") ∈ TG := tg_in (tt6 (List.mem_of_getElem? (i := 175) rfl)) rfl
theorem wd1376 : (Cond.fieldLink "WordFunctionsModel" 23 "WordFunctionsModel" "columns" "[I") ∈ TG := tg_in (tt6 (List.mem_of_getElem? (i := 176) rfl)) rfl
theorem wd1377 : (Cond.fieldLink "WordFunctionsModel" 26 "WordFunctionsModel" "firsts" "[I") ∈ TG := tg_in (tt6 (List.mem_of_getElem? (i := 177) rfl)) rfl
theorem wd1378 : (Cond.fieldLink "WordFunctionsModel" 29 "WordFunctionsModel" "tops" "[I") ∈ TG := tg_in (tt6 (List.mem_of_getElem? (i := 178) rfl)) rfl
theorem wd1379 : (Cond.fieldLink "WordFunctionsModel" 32 "WordFunctionsModel" "lefts" "[I") ∈ TG := tg_in (tt6 (List.mem_of_getElem? (i := 179) rfl)) rfl
theorem wd1380 : (Cond.fieldLink "WordFunctionsModel" 35 "WordFunctionsModel" "kinds" "[I") ∈ TG := tg_in (tt6 (List.mem_of_getElem? (i := 180) rfl)) rfl
theorem wd1381 : (Cond.fieldLink "WordFunctionsModel" 38 "WordFunctionsModel" "froms" "[I") ∈ TG := tg_in (tt6 (List.mem_of_getElem? (i := 181) rfl)) rfl
theorem wd1382 : (Cond.fieldLink "WordFunctionsModel" 41 "WordFunctionsModel" "sizes" "[I") ∈ TG := tg_in (tt6 (List.mem_of_getElem? (i := 182) rfl)) rfl
theorem wd1383 : (Cond.fieldLink "WordFunctionsModel" 44 "WordFunctionsModel" "numbers" "[D") ∈ TG := tg_in (tt6 (List.mem_of_getElem? (i := 183) rfl)) rfl
theorem wd1384 : (Cond.fieldLink "WordFunctionsModel" 48 "WordFunctionsModel" "homeRow" "I") ∈ TG := tg_in (tt6 (List.mem_of_getElem? (i := 184) rfl)) rfl
theorem wd1385 : (Cond.fieldLink "WordFunctionsModel" 52 "WordFunctionsModel" "homeColumn" "I") ∈ TG := tg_in (tt6 (List.mem_of_getElem? (i := 185) rfl)) rfl
theorem wd1386 : (Cond.fieldLink "WordFunctionsModel" 150 "WordFunctionsModel" "kind" "I") ∈ TG := tg_in (tt6 (List.mem_of_getElem? (i := 186) rfl)) rfl
theorem wd1387 : (Cond.fieldLink "WordFunctionsModel" 153 "WordFunctionsModel" "number" "D") ∈ TG := tg_in (tt6 (List.mem_of_getElem? (i := 187) rfl)) rfl
theorem wd1388 : (Cond.fieldLink "WordFunctionsModel" 143 "WordFunctionsModel" "error" "I") ∈ TG := tg_in (tt6 (List.mem_of_getElem? (i := 188) rfl)) rfl
theorem wd1389 : (Cond.fieldLink "WordFunctionsModel" 55 "WordFunctionsModel" "a" "[I") ∈ TG := tg_in (tt6 (List.mem_of_getElem? (i := 189) rfl)) rfl
theorem wd1390 : (Cond.fieldLink "WordFunctionsModel" 58 "WordFunctionsModel" "b" "[I") ∈ TG := tg_in (tt6 (List.mem_of_getElem? (i := 190) rfl)) rfl
theorem wd1391 : (Cond.fieldLink "WordFunctionsModel" 61 "WordFunctionsModel" "c" "[I") ∈ TG := tg_in (tt6 (List.mem_of_getElem? (i := 191) rfl)) rfl
theorem wd1392 : (Cond.fieldLink "WordFunctionsModel" 64 "WordFunctionsModel" "made" "[I") ∈ TG := tg_in (tt6 (List.mem_of_getElem? (i := 192) rfl)) rfl
theorem wd1393 : (Cond.fieldLink "WordFunctionsModel" 157 "WordFunctionsModel" "aSize" "I") ∈ TG := tg_in (tt6 (List.mem_of_getElem? (i := 193) rfl)) rfl
theorem wd1394 : (Cond.fieldLink "WordFunctionsModel" 243 "WordFunctionsModel" "bSize" "I") ∈ TG := tg_in (tt6 (List.mem_of_getElem? (i := 194) rfl)) rfl
theorem wd1395 : (Cond.fieldLink "WordFunctionsModel" 246 "WordFunctionsModel" "cSize" "I") ∈ TG := tg_in (tt6 (List.mem_of_getElem? (i := 195) rfl)) rfl
theorem wd1396 : (Cond.fieldLink "WordFunctionsModel" 253 "WordFunctionsModel" "madeSize" "I") ∈ TG := tg_in (tt6 (List.mem_of_getElem? (i := 196) rfl)) rfl
theorem wd1397 : (Cond.fieldLink "WordFunctionsModel" 249 "WordFunctionsModel" "over" "Z") ∈ TG := tg_in (tt6 (List.mem_of_getElem? (i := 197) rfl)) rfl
theorem wd1398 : (Cond.fieldLink "WordFunctionsModel" 259 "WordFunctionsModel" "tellKind" "I") ∈ TG := tg_in (tt6 (List.mem_of_getElem? (i := 198) rfl)) rfl
theorem wd1399 : (Cond.fieldLink "WordFunctionsModel" 262 "WordFunctionsModel" "tellSize" "I") ∈ TG := tg_in (tt6 (List.mem_of_getElem? (i := 199) rfl)) rfl
theorem wd1400 : (Cond.fieldLink "WordFunctionsModel" 265 "WordFunctionsModel" "tellNumber" "D") ∈ TG := tg_in (tt6 (List.mem_of_getElem? (i := 200) rfl)) rfl
theorem wd1401 : (Cond.fieldLink "WordFunctionsModel" 67 "WordFunctionsModel" "tell" "[I") ∈ TG := tg_in (tt6 (List.mem_of_getElem? (i := 201) rfl)) rfl
theorem wd1402 : (Cond.fieldLink "WordFunctionsModel" 70 "WordFunctionsModel" "part" "I") ∈ TG := tg_in (tt6 (List.mem_of_getElem? (i := 202) rfl)) rfl
theorem wd1403 : (Cond.fieldLink "WordFunctionsModel" 354 "WordFunctionsModel" "partRow" "I") ∈ TG := tg_in (tt6 (List.mem_of_getElem? (i := 203) rfl)) rfl
theorem wd1404 : (Cond.fieldLink "WordFunctionsModel" 357 "WordFunctionsModel" "partColumn" "I") ∈ TG := tg_in (tt6 (List.mem_of_getElem? (i := 204) rfl)) rfl
theorem wd1405 : (Cond.fieldLink "WordFunctionsModel" 73 "WordFunctionsModel" "partRows" "I") ∈ TG := tg_in (tt6 (List.mem_of_getElem? (i := 205) rfl)) rfl
theorem wd1406 : (Cond.fieldLink "WordFunctionsModel" 76 "WordFunctionsModel" "partColumns" "I") ∈ TG := tg_in (tt6 (List.mem_of_getElem? (i := 206) rfl)) rfl
theorem wd1407 : (Cond.fieldLink "WordFunctionsModel" 360 "WordFunctionsModel" "turned" "Z") ∈ TG := tg_in (tt6 (List.mem_of_getElem? (i := 207) rfl)) rfl
theorem wd1408 : (Cond.fieldLink "WordFunctionsModel" 393 "WordFunctionsModel" "year" "I") ∈ TG := tg_in (tt6 (List.mem_of_getElem? (i := 208) rfl)) rfl
theorem wd1409 : (Cond.fieldLink "WordFunctionsModel" 396 "WordFunctionsModel" "month" "I") ∈ TG := tg_in (tt6 (List.mem_of_getElem? (i := 209) rfl)) rfl
theorem wd1410 : (Cond.fieldLink "WordFunctionsModel" 399 "WordFunctionsModel" "day" "I") ∈ TG := tg_in (tt6 (List.mem_of_getElem? (i := 210) rfl)) rfl
theorem wd1411 : (Cond.fieldLink "WordFunctionsModel" 80 "WordFunctionsModel" "fits" "[Z") ∈ TG := tg_in (tt6 (List.mem_of_getElem? (i := 211) rfl)) rfl
theorem wd1412 : (Cond.fieldLink "WordFunctionsModel" 328 "WordFunctionsModel" "wantKind" "I") ∈ TG := tg_in (tt6 (List.mem_of_getElem? (i := 212) rfl)) rfl
theorem wd1413 : (Cond.fieldLink "WordFunctionsModel" 331 "WordFunctionsModel" "wantNumber" "D") ∈ TG := tg_in (tt6 (List.mem_of_getElem? (i := 213) rfl)) rfl
theorem wd1414 : (Cond.fieldLink "WordFunctionsModel" 334 "WordFunctionsModel" "wantPattern" "Z") ∈ TG := tg_in (tt6 (List.mem_of_getElem? (i := 214) rfl)) rfl
theorem wd1415 : (Cond.fieldLink "WordFunctionsModel" 84 "WordFunctionsModel" "keptRows" "I") ∈ TG := tg_in (tt6 (List.mem_of_getElem? (i := 215) rfl)) rfl
theorem wd1416 : (Cond.fieldLink "WordFunctionsModel" 87 "WordFunctionsModel" "keptColumns" "I") ∈ TG := tg_in (tt6 (List.mem_of_getElem? (i := 216) rfl)) rfl
theorem wd1417 : (Cond.fieldLink "WordFunctionsModel" 90 "WordFunctionsModel" "keptKinds" "[I") ∈ TG := tg_in (tt6 (List.mem_of_getElem? (i := 217) rfl)) rfl
theorem wd1418 : (Cond.fieldLink "WordFunctionsModel" 93 "WordFunctionsModel" "keptFroms" "[I") ∈ TG := tg_in (tt6 (List.mem_of_getElem? (i := 218) rfl)) rfl
theorem wd1419 : (Cond.fieldLink "WordFunctionsModel" 96 "WordFunctionsModel" "keptSizes" "[I") ∈ TG := tg_in (tt6 (List.mem_of_getElem? (i := 219) rfl)) rfl
theorem wd1420 : (Cond.fieldLink "WordFunctionsModel" 99 "WordFunctionsModel" "keptNumbers" "[D") ∈ TG := tg_in (tt6 (List.mem_of_getElem? (i := 220) rfl)) rfl
theorem wd1421 : (Cond.lays "WordFunctionsModel" "WordFunctionsModel" "code" "I") ∈ TG := tg_in (tt6 (List.mem_of_getElem? (i := 221) rfl)) rfl
theorem wd1422 : (Cond.soleField "WordFunctionsModel" "code") ∈ TG := tg_in (tt6 (List.mem_of_getElem? (i := 222) rfl)) rfl
theorem wd1423 : (Cond.lays "WordFunctionsModel" "WordFunctionsModel" "fed" "I") ∈ TG := tg_in (tt6 (List.mem_of_getElem? (i := 223) rfl)) rfl
theorem wd1424 : (Cond.soleField "WordFunctionsModel" "fed") ∈ TG := tg_in (tt6 (List.mem_of_getElem? (i := 224) rfl)) rfl
theorem wd1425 : (Cond.lays "WordFunctionsModel" "WordFunctionsModel" "size" "I") ∈ TG := tg_in (tt6 (List.mem_of_getElem? (i := 225) rfl)) rfl
theorem wd1426 : (Cond.soleField "WordFunctionsModel" "size") ∈ TG := tg_in (tt6 (List.mem_of_getElem? (i := 226) rfl)) rfl
theorem wd1427 : (Cond.lays "WordFunctionsModel" "WordFunctionsModel" "heap" "I") ∈ TG := tg_in (tt6 (List.mem_of_getElem? (i := 227) rfl)) rfl
theorem wd1428 : (Cond.soleField "WordFunctionsModel" "heap") ∈ TG := tg_in (tt6 (List.mem_of_getElem? (i := 228) rfl)) rfl
theorem wd1429 : (Cond.laysFinal "WordFunctionsModel" "WordFunctionsModel" "tape" "[I") ∈ TG := tg_in (tt6 (List.mem_of_getElem? (i := 229) rfl)) rfl
theorem wd1430 : (Cond.soleField "WordFunctionsModel" "tape") ∈ TG := tg_in (tt6 (List.mem_of_getElem? (i := 230) rfl)) rfl
theorem wd1431 : (Cond.laysFinal "WordFunctionsModel" "WordFunctionsModel" "text" "[I") ∈ TG := tg_in (tt6 (List.mem_of_getElem? (i := 231) rfl)) rfl
theorem wd1432 : (Cond.soleField "WordFunctionsModel" "text") ∈ TG := tg_in (tt6 (List.mem_of_getElem? (i := 232) rfl)) rfl
theorem wd1433 : (Cond.laysFinal "WordFunctionsModel" "WordFunctionsModel" "letters" "[I") ∈ TG := tg_in (tt6 (List.mem_of_getElem? (i := 233) rfl)) rfl
theorem wd1434 : (Cond.soleField "WordFunctionsModel" "letters") ∈ TG := tg_in (tt6 (List.mem_of_getElem? (i := 234) rfl)) rfl
theorem wd1435 : (Cond.lays "WordFunctionsModel" "WordFunctionsModel" "count" "I") ∈ TG := tg_in (tt6 (List.mem_of_getElem? (i := 235) rfl)) rfl
theorem wd1436 : (Cond.soleField "WordFunctionsModel" "count") ∈ TG := tg_in (tt6 (List.mem_of_getElem? (i := 236) rfl)) rfl
theorem wd1437 : (Cond.lays "WordFunctionsModel" "WordFunctionsModel" "used" "I") ∈ TG := tg_in (tt6 (List.mem_of_getElem? (i := 237) rfl)) rfl
theorem wd1438 : (Cond.soleField "WordFunctionsModel" "used") ∈ TG := tg_in (tt6 (List.mem_of_getElem? (i := 238) rfl)) rfl
theorem wd1439 : (Cond.laysFinal "WordFunctionsModel" "WordFunctionsModel" "rows" "[I") ∈ TG := tg_in (tt6 (List.mem_of_getElem? (i := 239) rfl)) rfl
theorem wd1440 : (Cond.soleField "WordFunctionsModel" "rows") ∈ TG := tg_in (tt7 (List.mem_of_getElem? (i := 0) rfl)) rfl
theorem wd1441 : (Cond.laysFinal "WordFunctionsModel" "WordFunctionsModel" "columns" "[I") ∈ TG := tg_in (tt7 (List.mem_of_getElem? (i := 1) rfl)) rfl
theorem wd1442 : (Cond.soleField "WordFunctionsModel" "columns") ∈ TG := tg_in (tt7 (List.mem_of_getElem? (i := 2) rfl)) rfl
theorem wd1443 : (Cond.laysFinal "WordFunctionsModel" "WordFunctionsModel" "firsts" "[I") ∈ TG := tg_in (tt7 (List.mem_of_getElem? (i := 3) rfl)) rfl
theorem wd1444 : (Cond.soleField "WordFunctionsModel" "firsts") ∈ TG := tg_in (tt7 (List.mem_of_getElem? (i := 4) rfl)) rfl
theorem wd1445 : (Cond.laysFinal "WordFunctionsModel" "WordFunctionsModel" "tops" "[I") ∈ TG := tg_in (tt7 (List.mem_of_getElem? (i := 5) rfl)) rfl
theorem wd1446 : (Cond.soleField "WordFunctionsModel" "tops") ∈ TG := tg_in (tt7 (List.mem_of_getElem? (i := 6) rfl)) rfl
theorem wd1447 : (Cond.laysFinal "WordFunctionsModel" "WordFunctionsModel" "lefts" "[I") ∈ TG := tg_in (tt7 (List.mem_of_getElem? (i := 7) rfl)) rfl
theorem wd1448 : (Cond.soleField "WordFunctionsModel" "lefts") ∈ TG := tg_in (tt7 (List.mem_of_getElem? (i := 8) rfl)) rfl
theorem wd1449 : (Cond.laysFinal "WordFunctionsModel" "WordFunctionsModel" "kinds" "[I") ∈ TG := tg_in (tt7 (List.mem_of_getElem? (i := 9) rfl)) rfl
theorem wd1450 : (Cond.soleField "WordFunctionsModel" "kinds") ∈ TG := tg_in (tt7 (List.mem_of_getElem? (i := 10) rfl)) rfl
theorem wd1451 : (Cond.laysFinal "WordFunctionsModel" "WordFunctionsModel" "froms" "[I") ∈ TG := tg_in (tt7 (List.mem_of_getElem? (i := 11) rfl)) rfl
theorem wd1452 : (Cond.soleField "WordFunctionsModel" "froms") ∈ TG := tg_in (tt7 (List.mem_of_getElem? (i := 12) rfl)) rfl
theorem wd1453 : (Cond.laysFinal "WordFunctionsModel" "WordFunctionsModel" "sizes" "[I") ∈ TG := tg_in (tt7 (List.mem_of_getElem? (i := 13) rfl)) rfl
theorem wd1454 : (Cond.soleField "WordFunctionsModel" "sizes") ∈ TG := tg_in (tt7 (List.mem_of_getElem? (i := 14) rfl)) rfl
theorem wd1455 : (Cond.laysFinal "WordFunctionsModel" "WordFunctionsModel" "numbers" "[D") ∈ TG := tg_in (tt7 (List.mem_of_getElem? (i := 15) rfl)) rfl
theorem wd1456 : (Cond.soleField "WordFunctionsModel" "numbers") ∈ TG := tg_in (tt7 (List.mem_of_getElem? (i := 16) rfl)) rfl
theorem wd1457 : (Cond.lays "WordFunctionsModel" "WordFunctionsModel" "homeRow" "I") ∈ TG := tg_in (tt7 (List.mem_of_getElem? (i := 17) rfl)) rfl
theorem wd1458 : (Cond.soleField "WordFunctionsModel" "homeRow") ∈ TG := tg_in (tt7 (List.mem_of_getElem? (i := 18) rfl)) rfl
theorem wd1459 : (Cond.lays "WordFunctionsModel" "WordFunctionsModel" "homeColumn" "I") ∈ TG := tg_in (tt7 (List.mem_of_getElem? (i := 19) rfl)) rfl
theorem wd1460 : (Cond.soleField "WordFunctionsModel" "homeColumn") ∈ TG := tg_in (tt7 (List.mem_of_getElem? (i := 20) rfl)) rfl
theorem wd1461 : (Cond.lays "WordFunctionsModel" "WordFunctionsModel" "kind" "I") ∈ TG := tg_in (tt7 (List.mem_of_getElem? (i := 21) rfl)) rfl
theorem wd1462 : (Cond.soleField "WordFunctionsModel" "kind") ∈ TG := tg_in (tt7 (List.mem_of_getElem? (i := 22) rfl)) rfl
theorem wd1463 : (Cond.lays "WordFunctionsModel" "WordFunctionsModel" "number" "D") ∈ TG := tg_in (tt7 (List.mem_of_getElem? (i := 23) rfl)) rfl
theorem wd1464 : (Cond.soleField "WordFunctionsModel" "number") ∈ TG := tg_in (tt7 (List.mem_of_getElem? (i := 24) rfl)) rfl
theorem wd1465 : (Cond.lays "WordFunctionsModel" "WordFunctionsModel" "error" "I") ∈ TG := tg_in (tt7 (List.mem_of_getElem? (i := 25) rfl)) rfl
theorem wd1466 : (Cond.soleField "WordFunctionsModel" "error") ∈ TG := tg_in (tt7 (List.mem_of_getElem? (i := 26) rfl)) rfl
theorem wd1467 : (Cond.laysFinal "WordFunctionsModel" "WordFunctionsModel" "a" "[I") ∈ TG := tg_in (tt7 (List.mem_of_getElem? (i := 27) rfl)) rfl
theorem wd1468 : (Cond.soleField "WordFunctionsModel" "a") ∈ TG := tg_in (tt7 (List.mem_of_getElem? (i := 28) rfl)) rfl
theorem wd1469 : (Cond.laysFinal "WordFunctionsModel" "WordFunctionsModel" "b" "[I") ∈ TG := tg_in (tt7 (List.mem_of_getElem? (i := 29) rfl)) rfl
theorem wd1470 : (Cond.soleField "WordFunctionsModel" "b") ∈ TG := tg_in (tt7 (List.mem_of_getElem? (i := 30) rfl)) rfl
theorem wd1471 : (Cond.laysFinal "WordFunctionsModel" "WordFunctionsModel" "c" "[I") ∈ TG := tg_in (tt7 (List.mem_of_getElem? (i := 31) rfl)) rfl
theorem wd1472 : (Cond.soleField "WordFunctionsModel" "c") ∈ TG := tg_in (tt7 (List.mem_of_getElem? (i := 32) rfl)) rfl
theorem wd1473 : (Cond.laysFinal "WordFunctionsModel" "WordFunctionsModel" "made" "[I") ∈ TG := tg_in (tt7 (List.mem_of_getElem? (i := 33) rfl)) rfl
theorem wd1474 : (Cond.soleField "WordFunctionsModel" "made") ∈ TG := tg_in (tt7 (List.mem_of_getElem? (i := 34) rfl)) rfl
theorem wd1475 : (Cond.lays "WordFunctionsModel" "WordFunctionsModel" "aSize" "I") ∈ TG := tg_in (tt7 (List.mem_of_getElem? (i := 35) rfl)) rfl
theorem wd1476 : (Cond.soleField "WordFunctionsModel" "aSize") ∈ TG := tg_in (tt7 (List.mem_of_getElem? (i := 36) rfl)) rfl
theorem wd1477 : (Cond.lays "WordFunctionsModel" "WordFunctionsModel" "bSize" "I") ∈ TG := tg_in (tt7 (List.mem_of_getElem? (i := 37) rfl)) rfl
theorem wd1478 : (Cond.soleField "WordFunctionsModel" "bSize") ∈ TG := tg_in (tt7 (List.mem_of_getElem? (i := 38) rfl)) rfl
theorem wd1479 : (Cond.lays "WordFunctionsModel" "WordFunctionsModel" "cSize" "I") ∈ TG := tg_in (tt7 (List.mem_of_getElem? (i := 39) rfl)) rfl
theorem wd1480 : (Cond.soleField "WordFunctionsModel" "cSize") ∈ TG := tg_in (tt7 (List.mem_of_getElem? (i := 40) rfl)) rfl
theorem wd1481 : (Cond.lays "WordFunctionsModel" "WordFunctionsModel" "madeSize" "I") ∈ TG := tg_in (tt7 (List.mem_of_getElem? (i := 41) rfl)) rfl
theorem wd1482 : (Cond.soleField "WordFunctionsModel" "madeSize") ∈ TG := tg_in (tt7 (List.mem_of_getElem? (i := 42) rfl)) rfl
theorem wd1483 : (Cond.lays "WordFunctionsModel" "WordFunctionsModel" "over" "Z") ∈ TG := tg_in (tt7 (List.mem_of_getElem? (i := 43) rfl)) rfl
theorem wd1484 : (Cond.soleField "WordFunctionsModel" "over") ∈ TG := tg_in (tt7 (List.mem_of_getElem? (i := 44) rfl)) rfl
theorem wd1485 : (Cond.lays "WordFunctionsModel" "WordFunctionsModel" "tellKind" "I") ∈ TG := tg_in (tt7 (List.mem_of_getElem? (i := 45) rfl)) rfl
theorem wd1486 : (Cond.soleField "WordFunctionsModel" "tellKind") ∈ TG := tg_in (tt7 (List.mem_of_getElem? (i := 46) rfl)) rfl
theorem wd1487 : (Cond.lays "WordFunctionsModel" "WordFunctionsModel" "tellSize" "I") ∈ TG := tg_in (tt7 (List.mem_of_getElem? (i := 47) rfl)) rfl
theorem wd1488 : (Cond.soleField "WordFunctionsModel" "tellSize") ∈ TG := tg_in (tt7 (List.mem_of_getElem? (i := 48) rfl)) rfl
theorem wd1489 : (Cond.lays "WordFunctionsModel" "WordFunctionsModel" "tellNumber" "D") ∈ TG := tg_in (tt7 (List.mem_of_getElem? (i := 49) rfl)) rfl
theorem wd1490 : (Cond.soleField "WordFunctionsModel" "tellNumber") ∈ TG := tg_in (tt7 (List.mem_of_getElem? (i := 50) rfl)) rfl
theorem wd1491 : (Cond.laysFinal "WordFunctionsModel" "WordFunctionsModel" "tell" "[I") ∈ TG := tg_in (tt7 (List.mem_of_getElem? (i := 51) rfl)) rfl
theorem wd1492 : (Cond.soleField "WordFunctionsModel" "tell") ∈ TG := tg_in (tt7 (List.mem_of_getElem? (i := 52) rfl)) rfl
theorem wd1493 : (Cond.lays "WordFunctionsModel" "WordFunctionsModel" "part" "I") ∈ TG := tg_in (tt7 (List.mem_of_getElem? (i := 53) rfl)) rfl
theorem wd1494 : (Cond.soleField "WordFunctionsModel" "part") ∈ TG := tg_in (tt7 (List.mem_of_getElem? (i := 54) rfl)) rfl
theorem wd1495 : (Cond.lays "WordFunctionsModel" "WordFunctionsModel" "partRow" "I") ∈ TG := tg_in (tt7 (List.mem_of_getElem? (i := 55) rfl)) rfl
theorem wd1496 : (Cond.soleField "WordFunctionsModel" "partRow") ∈ TG := tg_in (tt7 (List.mem_of_getElem? (i := 56) rfl)) rfl
theorem wd1497 : (Cond.lays "WordFunctionsModel" "WordFunctionsModel" "partColumn" "I") ∈ TG := tg_in (tt7 (List.mem_of_getElem? (i := 57) rfl)) rfl
theorem wd1498 : (Cond.soleField "WordFunctionsModel" "partColumn") ∈ TG := tg_in (tt7 (List.mem_of_getElem? (i := 58) rfl)) rfl
theorem wd1499 : (Cond.lays "WordFunctionsModel" "WordFunctionsModel" "partRows" "I") ∈ TG := tg_in (tt7 (List.mem_of_getElem? (i := 59) rfl)) rfl
theorem wd1500 : (Cond.soleField "WordFunctionsModel" "partRows") ∈ TG := tg_in (tt7 (List.mem_of_getElem? (i := 60) rfl)) rfl
theorem wd1501 : (Cond.lays "WordFunctionsModel" "WordFunctionsModel" "partColumns" "I") ∈ TG := tg_in (tt7 (List.mem_of_getElem? (i := 61) rfl)) rfl
theorem wd1502 : (Cond.soleField "WordFunctionsModel" "partColumns") ∈ TG := tg_in (tt7 (List.mem_of_getElem? (i := 62) rfl)) rfl
theorem wd1503 : (Cond.lays "WordFunctionsModel" "WordFunctionsModel" "turned" "Z") ∈ TG := tg_in (tt7 (List.mem_of_getElem? (i := 63) rfl)) rfl
theorem wd1504 : (Cond.soleField "WordFunctionsModel" "turned") ∈ TG := tg_in (tt7 (List.mem_of_getElem? (i := 64) rfl)) rfl
theorem wd1505 : (Cond.lays "WordFunctionsModel" "WordFunctionsModel" "year" "I") ∈ TG := tg_in (tt7 (List.mem_of_getElem? (i := 65) rfl)) rfl
theorem wd1506 : (Cond.soleField "WordFunctionsModel" "year") ∈ TG := tg_in (tt7 (List.mem_of_getElem? (i := 66) rfl)) rfl
theorem wd1507 : (Cond.lays "WordFunctionsModel" "WordFunctionsModel" "month" "I") ∈ TG := tg_in (tt7 (List.mem_of_getElem? (i := 67) rfl)) rfl
theorem wd1508 : (Cond.soleField "WordFunctionsModel" "month") ∈ TG := tg_in (tt7 (List.mem_of_getElem? (i := 68) rfl)) rfl
theorem wd1509 : (Cond.lays "WordFunctionsModel" "WordFunctionsModel" "day" "I") ∈ TG := tg_in (tt7 (List.mem_of_getElem? (i := 69) rfl)) rfl
theorem wd1510 : (Cond.soleField "WordFunctionsModel" "day") ∈ TG := tg_in (tt7 (List.mem_of_getElem? (i := 70) rfl)) rfl
theorem wd1511 : (Cond.laysFinal "WordFunctionsModel" "WordFunctionsModel" "fits" "[Z") ∈ TG := tg_in (tt7 (List.mem_of_getElem? (i := 71) rfl)) rfl
theorem wd1512 : (Cond.soleField "WordFunctionsModel" "fits") ∈ TG := tg_in (tt7 (List.mem_of_getElem? (i := 72) rfl)) rfl
theorem wd1513 : (Cond.lays "WordFunctionsModel" "WordFunctionsModel" "wantKind" "I") ∈ TG := tg_in (tt7 (List.mem_of_getElem? (i := 73) rfl)) rfl
theorem wd1514 : (Cond.soleField "WordFunctionsModel" "wantKind") ∈ TG := tg_in (tt7 (List.mem_of_getElem? (i := 74) rfl)) rfl
theorem wd1515 : (Cond.lays "WordFunctionsModel" "WordFunctionsModel" "wantNumber" "D") ∈ TG := tg_in (tt7 (List.mem_of_getElem? (i := 75) rfl)) rfl
theorem wd1516 : (Cond.soleField "WordFunctionsModel" "wantNumber") ∈ TG := tg_in (tt7 (List.mem_of_getElem? (i := 76) rfl)) rfl
theorem wd1517 : (Cond.lays "WordFunctionsModel" "WordFunctionsModel" "wantPattern" "Z") ∈ TG := tg_in (tt7 (List.mem_of_getElem? (i := 77) rfl)) rfl
theorem wd1518 : (Cond.soleField "WordFunctionsModel" "wantPattern") ∈ TG := tg_in (tt7 (List.mem_of_getElem? (i := 78) rfl)) rfl
theorem wd1519 : (Cond.lays "WordFunctionsModel" "WordFunctionsModel" "keptRows" "I") ∈ TG := tg_in (tt7 (List.mem_of_getElem? (i := 79) rfl)) rfl
theorem wd1520 : (Cond.soleField "WordFunctionsModel" "keptRows") ∈ TG := tg_in (tt7 (List.mem_of_getElem? (i := 80) rfl)) rfl
theorem wd1521 : (Cond.lays "WordFunctionsModel" "WordFunctionsModel" "keptColumns" "I") ∈ TG := tg_in (tt7 (List.mem_of_getElem? (i := 81) rfl)) rfl
theorem wd1522 : (Cond.soleField "WordFunctionsModel" "keptColumns") ∈ TG := tg_in (tt7 (List.mem_of_getElem? (i := 82) rfl)) rfl
theorem wd1523 : (Cond.laysFinal "WordFunctionsModel" "WordFunctionsModel" "keptKinds" "[I") ∈ TG := tg_in (tt7 (List.mem_of_getElem? (i := 83) rfl)) rfl
theorem wd1524 : (Cond.soleField "WordFunctionsModel" "keptKinds") ∈ TG := tg_in (tt7 (List.mem_of_getElem? (i := 84) rfl)) rfl
theorem wd1525 : (Cond.laysFinal "WordFunctionsModel" "WordFunctionsModel" "keptFroms" "[I") ∈ TG := tg_in (tt7 (List.mem_of_getElem? (i := 85) rfl)) rfl
theorem wd1526 : (Cond.soleField "WordFunctionsModel" "keptFroms") ∈ TG := tg_in (tt7 (List.mem_of_getElem? (i := 86) rfl)) rfl
theorem wd1527 : (Cond.laysFinal "WordFunctionsModel" "WordFunctionsModel" "keptSizes" "[I") ∈ TG := tg_in (tt7 (List.mem_of_getElem? (i := 87) rfl)) rfl
theorem wd1528 : (Cond.soleField "WordFunctionsModel" "keptSizes") ∈ TG := tg_in (tt7 (List.mem_of_getElem? (i := 88) rfl)) rfl
theorem wd1529 : (Cond.laysFinal "WordFunctionsModel" "WordFunctionsModel" "keptNumbers" "[D") ∈ TG := tg_in (tt7 (List.mem_of_getElem? (i := 89) rfl)) rfl
theorem wd1530 : (Cond.soleField "WordFunctionsModel" "keptNumbers") ∈ TG := tg_in (tt7 (List.mem_of_getElem? (i := 90) rfl)) rfl
theorem wd1531 : (Cond.superclass "WordFunctionsModel" "java/lang/Object") ∈ TG := tg_in (tt7 (List.mem_of_getElem? (i := 91) rfl)) rfl
theorem wd1532 : (Cond.arrayClass FieldType.double) ∈ TG := tg_in (tt7 (List.mem_of_getElem? (i := 92) rfl)) rfl
theorem wd1533 : (Cond.methodLink "WordFunctionsLaw" 46 y228) ∈ TG := tg_in (tt7 (List.mem_of_getElem? (i := 93) rfl)) rfl
theorem wd1534 : (Cond.instanceMethod y228) ∈ TG := tg_in (tt7 (List.mem_of_getElem? (i := 94) rfl)) rfl
theorem wd1535 : (Cond.selects "WordFunctionsModel" y228 y228) ∈ TG := tg_in (tt7 (List.mem_of_getElem? (i := 95) rfl)) rfl
theorem wd1536 : (Cond.code y228 prog_13_method_2_code 1 (Option.some FieldType.int)) ∈ TG := tg_in (tt7 (List.mem_of_getElem? (i := 96) rfl)) rfl
theorem wd1537 : (Cond.methodLink "WordFunctionsLaw" 29 y171) ∈ TG := tg_in (tt7 (List.mem_of_getElem? (i := 97) rfl)) rfl
theorem wd1538 : (Cond.instanceMethod y171) ∈ TG := tg_in (tt7 (List.mem_of_getElem? (i := 98) rfl)) rfl
theorem wd1539 : (Cond.selects "WordFunctionsModel" y171 y171) ∈ TG := tg_in (tt7 (List.mem_of_getElem? (i := 99) rfl)) rfl
theorem wd1540 : (Cond.code y171 prog_13_method_4_code 6 (Option.some FieldType.boolean)) ∈ TG := tg_in (tt7 (List.mem_of_getElem? (i := 100) rfl)) rfl
theorem wd1541 : (Cond.methodLink "WordFunctionsModel" 108 y208) ∈ TG := tg_in (tt7 (List.mem_of_getElem? (i := 101) rfl)) rfl
theorem wd1542 : (Cond.privateMethod y208) ∈ lw_tbl := tt7 (List.mem_of_getElem? (i := 102) rfl)
theorem wd1543 : (Cond.instanceMethod y208) ∈ TG := tg_in (tt7 (List.mem_of_getElem? (i := 103) rfl)) rfl
theorem wd1544 : (Cond.code y208 prog_13_method_3_code 3 (Option.none : Option FieldType)) ∈ TG := tg_in (tt7 (List.mem_of_getElem? (i := 104) rfl)) rfl
theorem wd1545 : (Cond.methodLink "WordFunctionsLaw" 34 y166) ∈ TG := tg_in (tt7 (List.mem_of_getElem? (i := 105) rfl)) rfl
theorem wd1546 : (Cond.instanceMethod y166) ∈ TG := tg_in (tt7 (List.mem_of_getElem? (i := 106) rfl)) rfl
theorem wd1547 : (Cond.selects "WordFunctionsModel" y166 y166) ∈ TG := tg_in (tt7 (List.mem_of_getElem? (i := 107) rfl)) rfl
theorem wd1548 : (Cond.code y166 prog_13_method_5_code 3 (Option.some FieldType.boolean)) ∈ TG := tg_in (tt7 (List.mem_of_getElem? (i := 108) rfl)) rfl
theorem wd1549 : (Cond.methodLink "WordFunctionsLaw" 39 y176) ∈ TG := tg_in (tt7 (List.mem_of_getElem? (i := 109) rfl)) rfl
theorem wd1550 : (Cond.instanceMethod y176) ∈ TG := tg_in (tt7 (List.mem_of_getElem? (i := 110) rfl)) rfl
theorem wd1551 : (Cond.selects "WordFunctionsModel" y176 y176) ∈ TG := tg_in (tt7 (List.mem_of_getElem? (i := 111) rfl)) rfl
theorem wd1552 : (Cond.code y176 prog_13_method_7_code 3 (Option.some FieldType.boolean)) ∈ TG := tg_in (tt7 (List.mem_of_getElem? (i := 112) rfl)) rfl
theorem wd1553 : (Cond.methodLink "WordFunctionsModel" 116 y178) ∈ TG := tg_in (tt7 (List.mem_of_getElem? (i := 113) rfl)) rfl
theorem wd1554 : (Cond.static y178) ∈ TG := tg_in (tt7 (List.mem_of_getElem? (i := 114) rfl)) rfl
theorem wd1555 : (Cond.code y178 prog_13_method_6_code 2 (Option.some FieldType.boolean)) ∈ TG := tg_in (tt7 (List.mem_of_getElem? (i := 115) rfl)) rfl
theorem wd1556 : (Cond.constant "WordFunctionsModel" 115 (1048576 : Int32)) ∈ TG := tg_in (tt7 (List.mem_of_getElem? (i := 116) rfl)) rfl
theorem wd1557 : (Cond.methodLink "WordFunctionsLaw" 45 y147) ∈ TG := tg_in (tt7 (List.mem_of_getElem? (i := 117) rfl)) rfl
theorem wd1558 : (Cond.instanceMethod y147) ∈ TG := tg_in (tt7 (List.mem_of_getElem? (i := 118) rfl)) rfl
theorem wd1559 : (Cond.selects "WordFunctionsModel" y147 y147) ∈ TG := tg_in (tt7 (List.mem_of_getElem? (i := 119) rfl)) rfl
theorem wd1560 : (Cond.code y147 prog_13_method_8_code 6 (Option.none : Option FieldType)) ∈ TG := tg_in (tt7 (List.mem_of_getElem? (i := 120) rfl)) rfl
theorem wd1561 : (Cond.methodLink "WordFunctionsLaw" 53 y210) ∈ TG := tg_in (tt7 (List.mem_of_getElem? (i := 121) rfl)) rfl
theorem wd1562 : (Cond.instanceMethod y210) ∈ TG := tg_in (tt7 (List.mem_of_getElem? (i := 122) rfl)) rfl
theorem wd1563 : (Cond.selects "WordFunctionsModel" y210 y210) ∈ TG := tg_in (tt7 (List.mem_of_getElem? (i := 123) rfl)) rfl
theorem wd1564 : (Cond.code y210 prog_13_method_9_code 4 (Option.some FieldType.boolean)) ∈ TG := tg_in (tt7 (List.mem_of_getElem? (i := 124) rfl)) rfl
theorem wd1565 : (Cond.methodLink "WordFunctionsLaw" 60 y207) ∈ TG := tg_in (tt7 (List.mem_of_getElem? (i := 125) rfl)) rfl
theorem wd1566 : (Cond.instanceMethod y207) ∈ TG := tg_in (tt7 (List.mem_of_getElem? (i := 126) rfl)) rfl
theorem wd1567 : (Cond.selects "WordFunctionsModel" y207 y207) ∈ TG := tg_in (tt7 (List.mem_of_getElem? (i := 127) rfl)) rfl
theorem wd1568 : (Cond.code y207 prog_13_method_11_code 7 (Option.some FieldType.boolean)) ∈ TG := tg_in (tt7 (List.mem_of_getElem? (i := 128) rfl)) rfl
theorem wd1569 : (Cond.methodLink "WordFunctionsModel" 126 y206) ∈ TG := tg_in (tt7 (List.mem_of_getElem? (i := 129) rfl)) rfl
theorem wd1570 : (Cond.privateMethod y206) ∈ lw_tbl := tt7 (List.mem_of_getElem? (i := 130) rfl)
theorem wd1571 : (Cond.instanceMethod y206) ∈ TG := tg_in (tt7 (List.mem_of_getElem? (i := 131) rfl)) rfl
theorem wd1572 : (Cond.code y206 prog_13_method_10_code 2 (Option.some FieldType.int)) ∈ TG := tg_in (tt7 (List.mem_of_getElem? (i := 132) rfl)) rfl
theorem wd1573 : (Cond.constantDouble "WordFunctionsModel" 130 (9094988921128908188 : UInt64)) ∈ TG := tg_in (tt7 (List.mem_of_getElem? (i := 133) rfl)) rfl
theorem wd1574 : (Cond.constantDouble "WordFunctionsModel" 132 (18318360957983683996 : UInt64)) ∈ TG := tg_in (tt7 (List.mem_of_getElem? (i := 134) rfl)) rfl
theorem wd1575 : (Cond.methodLink "WordFunctionsModel" 134 y168) ∈ TG := tg_in (tt7 (List.mem_of_getElem? (i := 135) rfl)) rfl
theorem wd1576 : (Cond.static y168) ∈ TG := tg_in (tt7 (List.mem_of_getElem? (i := 136) rfl)) rfl
theorem wd1577 : (Cond.code y168 prog_13_method_12_code 5 (Option.some FieldType.double)) ∈ TG := tg_in (tt7 (List.mem_of_getElem? (i := 137) rfl)) rfl
theorem wd1578 : (Cond.constantDouble "WordFunctionsModel" 138 (4613937818241073152 : UInt64)) ∈ TG := tg_in (tt7 (List.mem_of_getElem? (i := 138) rfl)) rfl
theorem wd1579 : (Cond.methodLink "WordFunctionsLaw" 64 y209) ∈ TG := tg_in (tt7 (List.mem_of_getElem? (i := 139) rfl)) rfl
theorem wd1580 : (Cond.instanceMethod y209) ∈ TG := tg_in (tt7 (List.mem_of_getElem? (i := 140) rfl)) rfl
theorem wd1581 : (Cond.selects "WordFunctionsModel" y209 y209) ∈ TG := tg_in (tt7 (List.mem_of_getElem? (i := 141) rfl)) rfl
theorem wd1582 : (Cond.code y209 prog_13_method_13_code 4 (Option.some FieldType.boolean)) ∈ TG := tg_in (tt7 (List.mem_of_getElem? (i := 142) rfl)) rfl
theorem wd1583 : (Cond.methodLink "WordFunctionsLaw" 68 y151) ∈ TG := tg_in (tt7 (List.mem_of_getElem? (i := 143) rfl)) rfl
theorem wd1584 : (Cond.instanceMethod y151) ∈ TG := tg_in (tt7 (List.mem_of_getElem? (i := 144) rfl)) rfl
theorem wd1585 : (Cond.selects "WordFunctionsModel" y151 y151) ∈ TG := tg_in (tt7 (List.mem_of_getElem? (i := 145) rfl)) rfl
theorem wd1586 : (Cond.code y151 prog_13_method_105_code 3 (Option.some FieldType.int)) ∈ TG := tg_in (tt7 (List.mem_of_getElem? (i := 146) rfl)) rfl
theorem wd1587 : (Cond.methodLink "WordFunctionsModel" 549 y148) ∈ TG := tg_in (tt7 (List.mem_of_getElem? (i := 147) rfl)) rfl
theorem wd1588 : (Cond.static y148) ∈ TG := tg_in (tt7 (List.mem_of_getElem? (i := 148) rfl)) rfl
theorem wd1589 : (Cond.code y148 prog_13_method_104_code 1 (Option.some FieldType.int)) ∈ TG := tg_in (tt7 (List.mem_of_getElem? (i := 149) rfl)) rfl
theorem wd1590 : (Cond.methodLink "WordFunctionsModel" 552 y243) ∈ TG := tg_in (tt7 (List.mem_of_getElem? (i := 150) rfl)) rfl
theorem wd1591 : (Cond.privateMethod y243) ∈ lw_tbl := tt7 (List.mem_of_getElem? (i := 151) rfl)
theorem wd1592 : (Cond.instanceMethod y243) ∈ TG := tg_in (tt7 (List.mem_of_getElem? (i := 152) rfl)) rfl
theorem wd1593 : (Cond.code y243 prog_13_method_102_code 2 (Option.none : Option FieldType)) ∈ TG := tg_in (tt7 (List.mem_of_getElem? (i := 153) rfl)) rfl
theorem wd1594 : (Cond.methodLink "WordFunctionsModel" 268 y226) ∈ TG := tg_in (tt7 (List.mem_of_getElem? (i := 154) rfl)) rfl
theorem wd1595 : (Cond.privateMethod y226) ∈ lw_tbl := tt7 (List.mem_of_getElem? (i := 155) rfl)
theorem wd1596 : (Cond.instanceMethod y226) ∈ TG := tg_in (tt7 (List.mem_of_getElem? (i := 156) rfl)) rfl
theorem wd1597 : (Cond.code y226 prog_13_method_38_code 2 (Option.none : Option FieldType)) ∈ TG := tg_in (tt7 (List.mem_of_getElem? (i := 157) rfl)) rfl
theorem wd1598 : (Cond.methodLink "WordFunctionsModel" 183 y224) ∈ TG := tg_in (tt7 (List.mem_of_getElem? (i := 158) rfl)) rfl
theorem wd1599 : (Cond.privateMethod y224) ∈ lw_tbl := tt7 (List.mem_of_getElem? (i := 159) rfl)
theorem wd1600 : (Cond.instanceMethod y224) ∈ TG := tg_in (tt7 (List.mem_of_getElem? (i := 160) rfl)) rfl
theorem wd1601 : (Cond.code y224 prog_13_method_21_code 2 (Option.none : Option FieldType)) ∈ TG := tg_in (tt7 (List.mem_of_getElem? (i := 161) rfl)) rfl
theorem wd1602 : (Cond.methodLink "WordFunctionsModel" 160 y237) ∈ TG := tg_in (tt7 (List.mem_of_getElem? (i := 162) rfl)) rfl
theorem wd1603 : (Cond.privateMethod y237) ∈ lw_tbl := tt7 (List.mem_of_getElem? (i := 163) rfl)
theorem wd1604 : (Cond.instanceMethod y237) ∈ TG := tg_in (tt7 (List.mem_of_getElem? (i := 164) rfl)) rfl
theorem wd1605 : (Cond.code y237 prog_13_method_20_code 4 (Option.some FieldType.int)) ∈ TG := tg_in (tt7 (List.mem_of_getElem? (i := 165) rfl)) rfl
theorem wd1606 : (Cond.methodLink "WordFunctionsModel" 146 y183) ∈ TG := tg_in (tt7 (List.mem_of_getElem? (i := 166) rfl)) rfl
theorem wd1607 : (Cond.privateMethod y183) ∈ lw_tbl := tt7 (List.mem_of_getElem? (i := 167) rfl)
theorem wd1608 : (Cond.instanceMethod y183) ∈ TG := tg_in (tt7 (List.mem_of_getElem? (i := 168) rfl)) rfl
theorem wd1609 : (Cond.code y183 prog_13_method_15_code 2 (Option.some FieldType.boolean)) ∈ TG := tg_in (tt7 (List.mem_of_getElem? (i := 169) rfl)) rfl
theorem wd1610 : (Cond.methodLink "WordFunctionsModel" 164 y223) ∈ TG := tg_in (tt7 (List.mem_of_getElem? (i := 170) rfl)) rfl
theorem wd1611 : (Cond.privateMethod y223) ∈ lw_tbl := tt7 (List.mem_of_getElem? (i := 171) rfl)
theorem wd1612 : (Cond.instanceMethod y223) ∈ TG := tg_in (tt7 (List.mem_of_getElem? (i := 172) rfl)) rfl
theorem wd1613 : (Cond.code y223 prog_13_method_19_code 3 (Option.none : Option FieldType)) ∈ TG := tg_in (tt7 (List.mem_of_getElem? (i := 173) rfl)) rfl
theorem wd1614 : (Cond.methodLink "WordFunctionsModel" 240 y227) ∈ TG := tg_in (tt7 (List.mem_of_getElem? (i := 174) rfl)) rfl
theorem wd1615 : (Cond.privateMethod y227) ∈ lw_tbl := tt7 (List.mem_of_getElem? (i := 175) rfl)
theorem wd1616 : (Cond.instanceMethod y227) ∈ TG := tg_in (tt7 (List.mem_of_getElem? (i := 176) rfl)) rfl
theorem wd1617 : (Cond.code y227 prog_13_method_37_code 7 (Option.none : Option FieldType)) ∈ TG := tg_in (tt7 (List.mem_of_getElem? (i := 177) rfl)) rfl
theorem wd1618 : (Cond.methodLink "WordFunctionsModel" 176 y170) ∈ TG := tg_in (tt7 (List.mem_of_getElem? (i := 178) rfl)) rfl
theorem wd1619 : (Cond.privateMethod y170) ∈ lw_tbl := tt7 (List.mem_of_getElem? (i := 179) rfl)
theorem wd1620 : (Cond.instanceMethod y170) ∈ TG := tg_in (tt7 (List.mem_of_getElem? (i := 180) rfl)) rfl
theorem wd1621 : (Cond.code y170 prog_13_method_16_code 2 (Option.none : Option FieldType)) ∈ TG := tg_in (tt7 (List.mem_of_getElem? (i := 181) rfl)) rfl
theorem wd1622 : (Cond.constantLong "WordFunctionsModel" 219 (301743231813 : Int64)) ∈ TG := tg_in (tt7 (List.mem_of_getElem? (i := 182) rfl)) rfl
theorem wd1623 : (Cond.constantLong "WordFunctionsModel" 221 (1414681925 : Int64)) ∈ TG := tg_in (tt7 (List.mem_of_getElem? (i := 183) rfl)) rfl
theorem wd1624 : (Cond.methodLink "WordFunctionsModel" 223 y248) ∈ TG := tg_in (tt7 (List.mem_of_getElem? (i := 184) rfl)) rfl
theorem wd1625 : (Cond.privateMethod y248) ∈ lw_tbl := tt7 (List.mem_of_getElem? (i := 185) rfl)
theorem wd1626 : (Cond.instanceMethod y248) ∈ TG := tg_in (tt7 (List.mem_of_getElem? (i := 186) rfl)) rfl
theorem wd1627 : (Cond.code y248 prog_13_method_36_code 4 (Option.none : Option FieldType)) ∈ TG := tg_in (tt7 (List.mem_of_getElem? (i := 187) rfl)) rfl
theorem wd1628 : (Cond.constantLong "WordFunctionsModel" 217 (255 : Int64)) ∈ TG := tg_in (tt7 (List.mem_of_getElem? (i := 188) rfl)) rfl
theorem wd1629 : (Cond.methodLink "WordFunctionsModel" 214 y246) ∈ TG := tg_in (tt7 (List.mem_of_getElem? (i := 189) rfl)) rfl
theorem wd1630 : (Cond.privateMethod y246) ∈ lw_tbl := tt7 (List.mem_of_getElem? (i := 190) rfl)
theorem wd1631 : (Cond.instanceMethod y246) ∈ TG := tg_in (tt7 (List.mem_of_getElem? (i := 191) rfl)) rfl
theorem wd1632 : (Cond.code y246 prog_13_method_34_code 2 (Option.none : Option FieldType)) ∈ TG := tg_in (tt7 (List.mem_of_getElem? (i := 192) rfl)) rfl
theorem wd1633 : (Cond.methodLink "WordFunctionsModel" 190 y139) ∈ TG := tg_in (tt7 (List.mem_of_getElem? (i := 193) rfl)) rfl
theorem wd1634 : (Cond.static y139) ∈ TG := tg_in (tt7 (List.mem_of_getElem? (i := 194) rfl)) rfl
theorem wd1635 : (Cond.code y139 prog_13_method_26_code 2 (Option.some FieldType.double)) ∈ TG := tg_in (tt7 (List.mem_of_getElem? (i := 195) rfl)) rfl
theorem wd1636 : (Cond.constantDouble "WordFunctionsModel" 227 (4786511204640096256 : UInt64)) ∈ TG := tg_in (tt7 (List.mem_of_getElem? (i := 196) rfl)) rfl
theorem wd1637 : (Cond.constantDouble "WordFunctionsModel" 229 (4652007308841189376 : UInt64)) ∈ TG := tg_in (tt7 (List.mem_of_getElem? (i := 197) rfl)) rfl
theorem wd1638 : (Cond.constantDouble "WordFunctionsModel" 231 (4602678819172646912 : UInt64)) ∈ TG := tg_in (tt7 (List.mem_of_getElem? (i := 198) rfl)) rfl
theorem wd1639 : (Cond.constantLong "WordFunctionsModel" 233 (1000 : Int64)) ∈ TG := tg_in (tt7 (List.mem_of_getElem? (i := 199) rfl)) rfl
theorem wd1640 : (Cond.methodLink "WordFunctionsModel" 235 y247) ∈ TG := tg_in (tt7 (List.mem_of_getElem? (i := 200) rfl)) rfl
theorem wd1641 : (Cond.privateMethod y247) ∈ lw_tbl := tt7 (List.mem_of_getElem? (i := 201) rfl)
theorem wd1642 : (Cond.instanceMethod y247) ∈ TG := tg_in (tt7 (List.mem_of_getElem? (i := 202) rfl)) rfl
theorem wd1643 : (Cond.code y247 prog_13_method_35_code 5 (Option.none : Option FieldType)) ∈ TG := tg_in (tt7 (List.mem_of_getElem? (i := 203) rfl)) rfl
theorem wd1644 : (Cond.constantLong "WordFunctionsModel" 212 (9 : Int64)) ∈ TG := tg_in (tt7 (List.mem_of_getElem? (i := 204) rfl)) rfl
theorem wd1645 : (Cond.constantLong "WordFunctionsModel" 170 (10 : Int64)) ∈ TG := tg_in (tt7 (List.mem_of_getElem? (i := 205) rfl)) rfl
theorem wd1646 : (Cond.constantLong "WordFunctionsModel" 172 (48 : Int64)) ∈ TG := tg_in (tt7 (List.mem_of_getElem? (i := 206) rfl)) rfl
theorem wd1647 : (Cond.constantLong "WordFunctionsModel" 238 (100 : Int64)) ∈ TG := tg_in (tt7 (List.mem_of_getElem? (i := 207) rfl)) rfl
theorem wd1648 : (Cond.methodLink "WordFunctionsModel" 305 y142) ∈ TG := tg_in (tt7 (List.mem_of_getElem? (i := 208) rfl)) rfl
theorem wd1649 : (Cond.privateMethod y142) ∈ lw_tbl := tt7 (List.mem_of_getElem? (i := 209) rfl)
theorem wd1650 : (Cond.instanceMethod y142) ∈ TG := tg_in (tt7 (List.mem_of_getElem? (i := 210) rfl)) rfl
theorem wd1651 : (Cond.code y142 prog_13_method_44_code 3 (Option.none : Option FieldType)) ∈ TG := tg_in (tt7 (List.mem_of_getElem? (i := 211) rfl)) rfl
theorem wd1652 : (Cond.methodLink "WordFunctionsModel" 488 y167) ∈ TG := tg_in (tt7 (List.mem_of_getElem? (i := 212) rfl)) rfl
theorem wd1653 : (Cond.privateMethod y167) ∈ lw_tbl := tt7 (List.mem_of_getElem? (i := 213) rfl)
theorem wd1654 : (Cond.instanceMethod y167) ∈ TG := tg_in (tt7 (List.mem_of_getElem? (i := 214) rfl)) rfl
theorem wd1655 : (Cond.code y167 prog_13_method_47_code 4 (Option.none : Option FieldType)) ∈ TG := tg_in (tt7 (List.mem_of_getElem? (i := 215) rfl)) rfl
theorem wd1656 : (Cond.methodLink "WordFunctionsModel" 271 y231) ∈ TG := tg_in (tt7 (List.mem_of_getElem? (i := 216) rfl)) rfl
theorem wd1657 : (Cond.privateMethod y231) ∈ lw_tbl := tt7 (List.mem_of_getElem? (i := 217) rfl)
theorem wd1658 : (Cond.instanceMethod y231) ∈ TG := tg_in (tt7 (List.mem_of_getElem? (i := 218) rfl)) rfl
theorem wd1659 : (Cond.code y231 prog_13_method_39_code 2 (Option.none : Option FieldType)) ∈ TG := tg_in (tt7 (List.mem_of_getElem? (i := 219) rfl)) rfl
theorem wd1660 : (Cond.methodLink "WordFunctionsModel" 274 y242) ∈ TG := tg_in (tt7 (List.mem_of_getElem? (i := 220) rfl)) rfl
theorem wd1661 : (Cond.privateMethod y242) ∈ lw_tbl := tt7 (List.mem_of_getElem? (i := 221) rfl)
theorem wd1662 : (Cond.instanceMethod y242) ∈ TG := tg_in (tt7 (List.mem_of_getElem? (i := 222) rfl)) rfl
theorem wd1663 : (Cond.code y242 prog_13_method_29_code 3 (Option.some FieldType.int)) ∈ TG := tg_in (tt7 (List.mem_of_getElem? (i := 223) rfl)) rfl
theorem wd1664 : (Cond.methodLink "WordFunctionsModel" 203 y181) ∈ TG := tg_in (tt7 (List.mem_of_getElem? (i := 224) rfl)) rfl
theorem wd1665 : (Cond.privateMethod y181) ∈ lw_tbl := tt7 (List.mem_of_getElem? (i := 225) rfl)
theorem wd1666 : (Cond.instanceMethod y181) ∈ TG := tg_in (tt7 (List.mem_of_getElem? (i := 226) rfl)) rfl
theorem wd1667 : (Cond.code y181 prog_13_method_14_code 2 (Option.some FieldType.boolean)) ∈ TG := tg_in (tt7 (List.mem_of_getElem? (i := 227) rfl)) rfl
theorem wd1668 : (Cond.methodLink "WordFunctionsModel" 206 y241) ∈ TG := tg_in (tt7 (List.mem_of_getElem? (i := 228) rfl)) rfl
theorem wd1669 : (Cond.privateMethod y241) ∈ lw_tbl := tt7 (List.mem_of_getElem? (i := 229) rfl)
theorem wd1670 : (Cond.instanceMethod y241) ∈ TG := tg_in (tt7 (List.mem_of_getElem? (i := 230) rfl)) rfl
theorem wd1671 : (Cond.code y241 prog_13_method_28_code 4 (Option.some FieldType.int)) ∈ TG := tg_in (tt7 (List.mem_of_getElem? (i := 231) rfl)) rfl
theorem wd1672 : (Cond.methodLink "WordFunctionsModel" 195 y204) ∈ TG := tg_in (tt7 (List.mem_of_getElem? (i := 232) rfl)) rfl
theorem wd1673 : (Cond.privateMethod y204) ∈ lw_tbl := tt7 (List.mem_of_getElem? (i := 233) rfl)
theorem wd1674 : (Cond.instanceMethod y204) ∈ TG := tg_in (tt7 (List.mem_of_getElem? (i := 234) rfl)) rfl
theorem wd1675 : (Cond.code y204 prog_13_method_25_code 2 (Option.some FieldType.double)) ∈ TG := tg_in (tt7 (List.mem_of_getElem? (i := 235) rfl)) rfl
theorem wd1676 : (Cond.methodLink "WordFunctionsModel" 186 y205) ∈ TG := tg_in (tt7 (List.mem_of_getElem? (i := 236) rfl)) rfl
theorem wd1677 : (Cond.privateMethod y205) ∈ lw_tbl := tt7 (List.mem_of_getElem? (i := 237) rfl)
theorem wd1678 : (Cond.instanceMethod y205) ∈ TG := tg_in (tt7 (List.mem_of_getElem? (i := 238) rfl)) rfl
theorem wd1679 : (Cond.code y205 prog_13_method_24_code 1 (Option.some FieldType.double)) ∈ TG := tg_in (tt7 (List.mem_of_getElem? (i := 239) rfl)) rfl
theorem wd1680 : (Cond.methodLink "WordFunctionsModel" 179 y216) ∈ TG := tg_in (tt8 (List.mem_of_getElem? (i := 0) rfl)) rfl
theorem wd1681 : (Cond.privateMethod y216) ∈ lw_tbl := tt8 (List.mem_of_getElem? (i := 1) rfl)
theorem wd1682 : (Cond.instanceMethod y216) ∈ TG := tg_in (tt8 (List.mem_of_getElem? (i := 2) rfl)) rfl
theorem wd1683 : (Cond.code y216 prog_13_method_23_code 7 (Option.some FieldType.boolean)) ∈ TG := tg_in (tt8 (List.mem_of_getElem? (i := 3) rfl)) rfl
theorem wd1684 : (Cond.methodLink "WordFunctionsModel" 167 y179) ∈ TG := tg_in (tt8 (List.mem_of_getElem? (i := 4) rfl)) rfl
theorem wd1685 : (Cond.static y179) ∈ TG := tg_in (tt8 (List.mem_of_getElem? (i := 5) rfl)) rfl
theorem wd1686 : (Cond.code y179 prog_13_method_22_code 1 (Option.some FieldType.boolean)) ∈ TG := tg_in (tt8 (List.mem_of_getElem? (i := 6) rfl)) rfl
theorem wd1687 : (Cond.constantLong "WordFunctionsModel" 174 (10000 : Int64)) ∈ TG := tg_in (tt8 (List.mem_of_getElem? (i := 7) rfl)) rfl
theorem wd1688 : (Cond.methodLink "WordFunctionsModel" 198 y156) ∈ TG := tg_in (tt8 (List.mem_of_getElem? (i := 8) rfl)) rfl
theorem wd1689 : (Cond.static y156) ∈ TG := tg_in (tt8 (List.mem_of_getElem? (i := 9) rfl)) rfl
theorem wd1690 : (Cond.code y156 prog_13_method_27_code 2 (Option.some FieldType.double)) ∈ TG := tg_in (tt8 (List.mem_of_getElem? (i := 10) rfl)) rfl
theorem wd1691 : (Cond.constantDouble "WordFunctionsModel" 193 (4845873199050653696 : UInt64)) ∈ TG := tg_in (tt8 (List.mem_of_getElem? (i := 11) rfl)) rfl
theorem wd1692 : (Cond.constantDouble "WordFunctionsModel" 201 (4746794007244308480 : UInt64)) ∈ TG := tg_in (tt8 (List.mem_of_getElem? (i := 12) rfl)) rfl
theorem wd1693 : (Cond.methodLink "WordFunctionsModel" 277 y188) ∈ TG := tg_in (tt8 (List.mem_of_getElem? (i := 13) rfl)) rfl
theorem wd1694 : (Cond.static y188) ∈ TG := tg_in (tt8 (List.mem_of_getElem? (i := 14) rfl)) rfl
theorem wd1695 : (Cond.code y188 prog_13_method_46_code 2 (Option.some FieldType.int)) ∈ TG := tg_in (tt8 (List.mem_of_getElem? (i := 15) rfl)) rfl
theorem wd1696 : (Cond.methodLink "WordFunctionsModel" 280 y197) ∈ TG := tg_in (tt8 (List.mem_of_getElem? (i := 16) rfl)) rfl
theorem wd1697 : (Cond.privateMethod y197) ∈ lw_tbl := tt8 (List.mem_of_getElem? (i := 17) rfl)
theorem wd1698 : (Cond.instanceMethod y197) ∈ TG := tg_in (tt8 (List.mem_of_getElem? (i := 18) rfl)) rfl
theorem wd1699 : (Cond.code y197 prog_13_method_42_code 5 (Option.none : Option FieldType)) ∈ TG := tg_in (tt8 (List.mem_of_getElem? (i := 19) rfl)) rfl
theorem wd1700 : (Cond.methodLink "WordFunctionsModel" 256 y195) ∈ TG := tg_in (tt8 (List.mem_of_getElem? (i := 20) rfl)) rfl
theorem wd1701 : (Cond.privateMethod y195) ∈ lw_tbl := tt8 (List.mem_of_getElem? (i := 21) rfl)
theorem wd1702 : (Cond.instanceMethod y195) ∈ TG := tg_in (tt8 (List.mem_of_getElem? (i := 22) rfl)) rfl
theorem wd1703 : (Cond.code y195 prog_13_method_41_code 2 (Option.none : Option FieldType)) ∈ TG := tg_in (tt8 (List.mem_of_getElem? (i := 23) rfl)) rfl
theorem wd1704 : (Cond.methodLink "WordFunctionsModel" 284 y144) ∈ TG := tg_in (tt8 (List.mem_of_getElem? (i := 24) rfl)) rfl
theorem wd1705 : (Cond.privateMethod y144) ∈ lw_tbl := tt8 (List.mem_of_getElem? (i := 25) rfl)
theorem wd1706 : (Cond.instanceMethod y144) ∈ TG := tg_in (tt8 (List.mem_of_getElem? (i := 26) rfl)) rfl
theorem wd1707 : (Cond.code y144 prog_13_method_43_code 2 (Option.none : Option FieldType)) ∈ TG := tg_in (tt8 (List.mem_of_getElem? (i := 27) rfl)) rfl
theorem wd1708 : (Cond.methodLink "WordFunctionsModel" 491 y200) ∈ TG := tg_in (tt8 (List.mem_of_getElem? (i := 28) rfl)) rfl
theorem wd1709 : (Cond.privateMethod y200) ∈ lw_tbl := tt8 (List.mem_of_getElem? (i := 29) rfl)
theorem wd1710 : (Cond.instanceMethod y200) ∈ TG := tg_in (tt8 (List.mem_of_getElem? (i := 30) rfl)) rfl
theorem wd1711 : (Cond.code y200 prog_13_method_48_code 4 (Option.none : Option FieldType)) ∈ TG := tg_in (tt8 (List.mem_of_getElem? (i := 31) rfl)) rfl
theorem wd1712 : (Cond.methodLink "WordFunctionsModel" 494 y173) ∈ TG := tg_in (tt8 (List.mem_of_getElem? (i := 32) rfl)) rfl
theorem wd1713 : (Cond.privateMethod y173) ∈ lw_tbl := tt8 (List.mem_of_getElem? (i := 33) rfl)
theorem wd1714 : (Cond.instanceMethod y173) ∈ TG := tg_in (tt8 (List.mem_of_getElem? (i := 34) rfl)) rfl
theorem wd1715 : (Cond.code y173 prog_13_method_52_code 4 (Option.none : Option FieldType)) ∈ TG := tg_in (tt8 (List.mem_of_getElem? (i := 35) rfl)) rfl
theorem wd1716 : (Cond.methodLink "WordFunctionsModel" 294 y232) ∈ TG := tg_in (tt8 (List.mem_of_getElem? (i := 36) rfl)) rfl
theorem wd1717 : (Cond.privateMethod y232) ∈ lw_tbl := tt8 (List.mem_of_getElem? (i := 37) rfl)
theorem wd1718 : (Cond.instanceMethod y232) ∈ TG := tg_in (tt8 (List.mem_of_getElem? (i := 38) rfl)) rfl
theorem wd1719 : (Cond.code y232 prog_13_method_40_code 2 (Option.none : Option FieldType)) ∈ TG := tg_in (tt8 (List.mem_of_getElem? (i := 39) rfl)) rfl
theorem wd1720 : (Cond.methodLink "WordFunctionsModel" 297 y199) ∈ TG := tg_in (tt8 (List.mem_of_getElem? (i := 40) rfl)) rfl
theorem wd1721 : (Cond.privateMethod y199) ∈ lw_tbl := tt8 (List.mem_of_getElem? (i := 41) rfl)
theorem wd1722 : (Cond.instanceMethod y199) ∈ TG := tg_in (tt8 (List.mem_of_getElem? (i := 42) rfl)) rfl
theorem wd1723 : (Cond.code y199 prog_13_method_51_code 14 (Option.some FieldType.boolean)) ∈ TG := tg_in (tt8 (List.mem_of_getElem? (i := 43) rfl)) rfl
theorem wd1724 : (Cond.methodLink "WordFunctionsModel" 287 y180) ∈ TG := tg_in (tt8 (List.mem_of_getElem? (i := 44) rfl)) rfl
theorem wd1725 : (Cond.static y180) ∈ TG := tg_in (tt8 (List.mem_of_getElem? (i := 45) rfl)) rfl
theorem wd1726 : (Cond.code y180 prog_13_method_50_code 3 (Option.some FieldType.boolean)) ∈ TG := tg_in (tt8 (List.mem_of_getElem? (i := 46) rfl)) rfl
theorem wd1727 : (Cond.methodLink "WordFunctionsModel" 291 y175) ∈ TG := tg_in (tt8 (List.mem_of_getElem? (i := 47) rfl)) rfl
theorem wd1728 : (Cond.static y175) ∈ TG := tg_in (tt8 (List.mem_of_getElem? (i := 48) rfl)) rfl
theorem wd1729 : (Cond.code y175 prog_13_method_32_code 1 (Option.some FieldType.int)) ∈ TG := tg_in (tt8 (List.mem_of_getElem? (i := 49) rfl)) rfl
theorem wd1730 : (Cond.methodLink "WordFunctionsModel" 301 y221) ∈ TG := tg_in (tt8 (List.mem_of_getElem? (i := 50) rfl)) rfl
theorem wd1731 : (Cond.privateMethod y221) ∈ lw_tbl := tt8 (List.mem_of_getElem? (i := 51) rfl)
theorem wd1732 : (Cond.instanceMethod y221) ∈ TG := tg_in (tt8 (List.mem_of_getElem? (i := 52) rfl)) rfl
theorem wd1733 : (Cond.code y221 prog_13_method_49_code 8 (Option.some FieldType.boolean)) ∈ TG := tg_in (tt8 (List.mem_of_getElem? (i := 53) rfl)) rfl
theorem wd1734 : (Cond.methodLink "WordFunctionsModel" 497 y212) ∈ TG := tg_in (tt8 (List.mem_of_getElem? (i := 54) rfl)) rfl
theorem wd1735 : (Cond.privateMethod y212) ∈ lw_tbl := tt8 (List.mem_of_getElem? (i := 55) rfl)
theorem wd1736 : (Cond.instanceMethod y212) ∈ TG := tg_in (tt8 (List.mem_of_getElem? (i := 56) rfl)) rfl
theorem wd1737 : (Cond.code y212 prog_13_method_53_code 4 (Option.none : Option FieldType)) ∈ TG := tg_in (tt8 (List.mem_of_getElem? (i := 57) rfl)) rfl
theorem wd1738 : (Cond.methodLink "WordFunctionsModel" 500 y222) ∈ TG := tg_in (tt8 (List.mem_of_getElem? (i := 58) rfl)) rfl
theorem wd1739 : (Cond.privateMethod y222) ∈ lw_tbl := tt8 (List.mem_of_getElem? (i := 59) rfl)
theorem wd1740 : (Cond.instanceMethod y222) ∈ TG := tg_in (tt8 (List.mem_of_getElem? (i := 60) rfl)) rfl
theorem wd1741 : (Cond.code y222 prog_13_method_54_code 6 (Option.none : Option FieldType)) ∈ TG := tg_in (tt8 (List.mem_of_getElem? (i := 61) rfl)) rfl
theorem wd1742 : (Cond.methodLink "WordFunctionsModel" 503 y211) ∈ TG := tg_in (tt8 (List.mem_of_getElem? (i := 62) rfl)) rfl
theorem wd1743 : (Cond.privateMethod y211) ∈ lw_tbl := tt8 (List.mem_of_getElem? (i := 63) rfl)
theorem wd1744 : (Cond.instanceMethod y211) ∈ TG := tg_in (tt8 (List.mem_of_getElem? (i := 64) rfl)) rfl
theorem wd1745 : (Cond.code y211 prog_13_method_55_code 3 (Option.none : Option FieldType)) ∈ TG := tg_in (tt8 (List.mem_of_getElem? (i := 65) rfl)) rfl
theorem wd1746 : (Cond.methodLink "WordFunctionsModel" 506 y218) ∈ TG := tg_in (tt8 (List.mem_of_getElem? (i := 66) rfl)) rfl
theorem wd1747 : (Cond.privateMethod y218) ∈ lw_tbl := tt8 (List.mem_of_getElem? (i := 67) rfl)
theorem wd1748 : (Cond.instanceMethod y218) ∈ TG := tg_in (tt8 (List.mem_of_getElem? (i := 68) rfl)) rfl
theorem wd1749 : (Cond.code y218 prog_13_method_56_code 5 (Option.none : Option FieldType)) ∈ TG := tg_in (tt8 (List.mem_of_getElem? (i := 69) rfl)) rfl
theorem wd1750 : (Cond.methodLink "WordFunctionsModel" 309 y219) ∈ TG := tg_in (tt8 (List.mem_of_getElem? (i := 70) rfl)) rfl
theorem wd1751 : (Cond.static y219) ∈ TG := tg_in (tt8 (List.mem_of_getElem? (i := 71) rfl)) rfl
theorem wd1752 : (Cond.code y219 prog_13_method_33_code 1 (Option.some FieldType.int)) ∈ TG := tg_in (tt8 (List.mem_of_getElem? (i := 72) rfl)) rfl
theorem wd1753 : (Cond.methodLink "WordFunctionsModel" 508 y233) ∈ TG := tg_in (tt8 (List.mem_of_getElem? (i := 73) rfl)) rfl
theorem wd1754 : (Cond.privateMethod y233) ∈ lw_tbl := tt8 (List.mem_of_getElem? (i := 74) rfl)
theorem wd1755 : (Cond.instanceMethod y233) ∈ TG := tg_in (tt8 (List.mem_of_getElem? (i := 75) rfl)) rfl
theorem wd1756 : (Cond.code y233 prog_13_method_57_code 3 (Option.none : Option FieldType)) ∈ TG := tg_in (tt8 (List.mem_of_getElem? (i := 76) rfl)) rfl
theorem wd1757 : (Cond.methodLink "WordFunctionsModel" 511 y155) ∈ TG := tg_in (tt8 (List.mem_of_getElem? (i := 77) rfl)) rfl
theorem wd1758 : (Cond.privateMethod y155) ∈ lw_tbl := tt8 (List.mem_of_getElem? (i := 78) rfl)
theorem wd1759 : (Cond.instanceMethod y155) ∈ TG := tg_in (tt8 (List.mem_of_getElem? (i := 79) rfl)) rfl
theorem wd1760 : (Cond.code y155 prog_13_method_58_code 2 (Option.none : Option FieldType)) ∈ TG := tg_in (tt8 (List.mem_of_getElem? (i := 80) rfl)) rfl
theorem wd1761 : (Cond.methodLink "WordFunctionsModel" 514 y185) ∈ TG := tg_in (tt8 (List.mem_of_getElem? (i := 81) rfl)) rfl
theorem wd1762 : (Cond.privateMethod y185) ∈ lw_tbl := tt8 (List.mem_of_getElem? (i := 82) rfl)
theorem wd1763 : (Cond.instanceMethod y185) ∈ TG := tg_in (tt8 (List.mem_of_getElem? (i := 83) rfl)) rfl
theorem wd1764 : (Cond.code y185 prog_13_method_59_code 5 (Option.none : Option FieldType)) ∈ TG := tg_in (tt8 (List.mem_of_getElem? (i := 84) rfl)) rfl
theorem wd1765 : (Cond.methodLink "WordFunctionsModel" 209 y234) ∈ TG := tg_in (tt8 (List.mem_of_getElem? (i := 85) rfl)) rfl
theorem wd1766 : (Cond.privateMethod y234) ∈ lw_tbl := tt8 (List.mem_of_getElem? (i := 86) rfl)
theorem wd1767 : (Cond.instanceMethod y234) ∈ TG := tg_in (tt8 (List.mem_of_getElem? (i := 87) rfl)) rfl
theorem wd1768 : (Cond.code y234 prog_13_method_30_code 2 (Option.some FieldType.boolean)) ∈ TG := tg_in (tt8 (List.mem_of_getElem? (i := 88) rfl)) rfl
theorem wd1769 : (Cond.methodLink "WordFunctionsModel" 312 y215) ∈ TG := tg_in (tt8 (List.mem_of_getElem? (i := 89) rfl)) rfl
theorem wd1770 : (Cond.privateMethod y215) ∈ lw_tbl := tt8 (List.mem_of_getElem? (i := 90) rfl)
theorem wd1771 : (Cond.instanceMethod y215) ∈ TG := tg_in (tt8 (List.mem_of_getElem? (i := 91) rfl)) rfl
theorem wd1772 : (Cond.code y215 prog_13_method_17_code 2 (Option.some FieldType.int)) ∈ TG := tg_in (tt8 (List.mem_of_getElem? (i := 92) rfl)) rfl
theorem wd1773 : (Cond.methodLink "WordFunctionsModel" 315 y154) ∈ TG := tg_in (tt8 (List.mem_of_getElem? (i := 93) rfl)) rfl
theorem wd1774 : (Cond.privateMethod y154) ∈ lw_tbl := tt8 (List.mem_of_getElem? (i := 94) rfl)
theorem wd1775 : (Cond.instanceMethod y154) ∈ TG := tg_in (tt8 (List.mem_of_getElem? (i := 95) rfl)) rfl
theorem wd1776 : (Cond.code y154 prog_13_method_18_code 2 (Option.some FieldType.int)) ∈ TG := tg_in (tt8 (List.mem_of_getElem? (i := 96) rfl)) rfl
theorem wd1777 : (Cond.methodLink "WordFunctionsModel" 517 y169) ∈ TG := tg_in (tt8 (List.mem_of_getElem? (i := 97) rfl)) rfl
theorem wd1778 : (Cond.privateMethod y169) ∈ lw_tbl := tt8 (List.mem_of_getElem? (i := 98) rfl)
theorem wd1779 : (Cond.instanceMethod y169) ∈ TG := tg_in (tt8 (List.mem_of_getElem? (i := 99) rfl)) rfl
theorem wd1780 : (Cond.code y169 prog_13_method_60_code 1 (Option.none : Option FieldType)) ∈ TG := tg_in (tt8 (List.mem_of_getElem? (i := 100) rfl)) rfl
theorem wd1781 : (Cond.methodLink "WordFunctionsModel" 318 y145) ∈ TG := tg_in (tt8 (List.mem_of_getElem? (i := 101) rfl)) rfl
theorem wd1782 : (Cond.privateMethod y145) ∈ lw_tbl := tt8 (List.mem_of_getElem? (i := 102) rfl)
theorem wd1783 : (Cond.instanceMethod y145) ∈ TG := tg_in (tt8 (List.mem_of_getElem? (i := 103) rfl)) rfl
theorem wd1784 : (Cond.code y145 prog_13_method_45_code 2 (Option.none : Option FieldType)) ∈ TG := tg_in (tt8 (List.mem_of_getElem? (i := 104) rfl)) rfl
theorem wd1785 : (Cond.methodLink "WordFunctionsModel" 520 y152) ∈ TG := tg_in (tt8 (List.mem_of_getElem? (i := 105) rfl)) rfl
theorem wd1786 : (Cond.privateMethod y152) ∈ lw_tbl := tt8 (List.mem_of_getElem? (i := 106) rfl)
theorem wd1787 : (Cond.instanceMethod y152) ∈ TG := tg_in (tt8 (List.mem_of_getElem? (i := 107) rfl)) rfl
theorem wd1788 : (Cond.code y152 prog_13_method_61_code 3 (Option.none : Option FieldType)) ∈ TG := tg_in (tt8 (List.mem_of_getElem? (i := 108) rfl)) rfl
theorem wd1789 : (Cond.methodLink "WordFunctionsModel" 523 y213) ∈ TG := tg_in (tt8 (List.mem_of_getElem? (i := 109) rfl)) rfl
theorem wd1790 : (Cond.privateMethod y213) ∈ lw_tbl := tt8 (List.mem_of_getElem? (i := 110) rfl)
theorem wd1791 : (Cond.instanceMethod y213) ∈ TG := tg_in (tt8 (List.mem_of_getElem? (i := 111) rfl)) rfl
theorem wd1792 : (Cond.code y213 prog_13_method_62_code 2 (Option.none : Option FieldType)) ∈ TG := tg_in (tt8 (List.mem_of_getElem? (i := 112) rfl)) rfl
theorem wd1793 : (Cond.methodLink "WordFunctionsModel" 322 y214) ∈ TG := tg_in (tt8 (List.mem_of_getElem? (i := 113) rfl)) rfl
theorem wd1794 : (Cond.privateMethod y214) ∈ lw_tbl := tt8 (List.mem_of_getElem? (i := 114) rfl)
theorem wd1795 : (Cond.instanceMethod y214) ∈ TG := tg_in (tt8 (List.mem_of_getElem? (i := 115) rfl)) rfl
theorem wd1796 : (Cond.code y214 prog_13_method_63_code 6 (Option.none : Option FieldType)) ∈ TG := tg_in (tt8 (List.mem_of_getElem? (i := 116) rfl)) rfl
theorem wd1797 : (Cond.methodLink "WordFunctionsModel" 525 y149) ∈ TG := tg_in (tt8 (List.mem_of_getElem? (i := 117) rfl)) rfl
theorem wd1798 : (Cond.privateMethod y149) ∈ lw_tbl := tt8 (List.mem_of_getElem? (i := 118) rfl)
theorem wd1799 : (Cond.instanceMethod y149) ∈ TG := tg_in (tt8 (List.mem_of_getElem? (i := 119) rfl)) rfl
theorem wd1800 : (Cond.code y149 prog_13_method_64_code 12 (Option.none : Option FieldType)) ∈ TG := tg_in (tt8 (List.mem_of_getElem? (i := 120) rfl)) rfl
theorem wd1801 : (Cond.methodLink "WordFunctionsModel" 528 y164) ∈ TG := tg_in (tt8 (List.mem_of_getElem? (i := 121) rfl)) rfl
theorem wd1802 : (Cond.privateMethod y164) ∈ lw_tbl := tt8 (List.mem_of_getElem? (i := 122) rfl)
theorem wd1803 : (Cond.instanceMethod y164) ∈ TG := tg_in (tt8 (List.mem_of_getElem? (i := 123) rfl)) rfl
theorem wd1804 : (Cond.code y164 prog_13_method_65_code 7 (Option.none : Option FieldType)) ∈ TG := tg_in (tt8 (List.mem_of_getElem? (i := 124) rfl)) rfl
theorem wd1805 : (Cond.constantLong "WordFunctionsModel" 326 (9007199254740991 : Int64)) ∈ TG := tg_in (tt8 (List.mem_of_getElem? (i := 125) rfl)) rfl
theorem wd1806 : (Cond.methodLink "WordFunctionsModel" 555 y194) ∈ TG := tg_in (tt8 (List.mem_of_getElem? (i := 126) rfl)) rfl
theorem wd1807 : (Cond.privateMethod y194) ∈ lw_tbl := tt8 (List.mem_of_getElem? (i := 127) rfl)
theorem wd1808 : (Cond.instanceMethod y194) ∈ TG := tg_in (tt8 (List.mem_of_getElem? (i := 128) rfl)) rfl
theorem wd1809 : (Cond.code y194 prog_13_method_103_code 2 (Option.none : Option FieldType)) ∈ TG := tg_in (tt8 (List.mem_of_getElem? (i := 129) rfl)) rfl
theorem wd1810 : (Cond.methodLink "WordFunctionsModel" 531 y192) ∈ TG := tg_in (tt8 (List.mem_of_getElem? (i := 130) rfl)) rfl
theorem wd1811 : (Cond.privateMethod y192) ∈ lw_tbl := tt8 (List.mem_of_getElem? (i := 131) rfl)
theorem wd1812 : (Cond.instanceMethod y192) ∈ TG := tg_in (tt8 (List.mem_of_getElem? (i := 132) rfl)) rfl
theorem wd1813 : (Cond.code y192 prog_13_method_70_code 5 (Option.none : Option FieldType)) ∈ TG := tg_in (tt8 (List.mem_of_getElem? (i := 133) rfl)) rfl
theorem wd1814 : (Cond.methodLink "WordFunctionsModel" 341 y238) ∈ TG := tg_in (tt8 (List.mem_of_getElem? (i := 134) rfl)) rfl
theorem wd1815 : (Cond.privateMethod y238) ∈ lw_tbl := tt8 (List.mem_of_getElem? (i := 135) rfl)
theorem wd1816 : (Cond.instanceMethod y238) ∈ TG := tg_in (tt8 (List.mem_of_getElem? (i := 136) rfl)) rfl
theorem wd1817 : (Cond.code y238 prog_13_method_66_code 3 (Option.none : Option FieldType)) ∈ TG := tg_in (tt8 (List.mem_of_getElem? (i := 137) rfl)) rfl
theorem wd1818 : (Cond.methodLink "WordFunctionsModel" 344 y235) ∈ TG := tg_in (tt8 (List.mem_of_getElem? (i := 138) rfl)) rfl
theorem wd1819 : (Cond.privateMethod y235) ∈ lw_tbl := tt8 (List.mem_of_getElem? (i := 139) rfl)
theorem wd1820 : (Cond.instanceMethod y235) ∈ TG := tg_in (tt8 (List.mem_of_getElem? (i := 140) rfl)) rfl
theorem wd1821 : (Cond.code y235 prog_13_method_31_code 3 (Option.some FieldType.boolean)) ∈ TG := tg_in (tt8 (List.mem_of_getElem? (i := 141) rfl)) rfl
theorem wd1822 : (Cond.methodLink "WordFunctionsModel" 347 y172) ∈ TG := tg_in (tt8 (List.mem_of_getElem? (i := 142) rfl)) rfl
theorem wd1823 : (Cond.privateMethod y172) ∈ lw_tbl := tt8 (List.mem_of_getElem? (i := 143) rfl)
theorem wd1824 : (Cond.instanceMethod y172) ∈ TG := tg_in (tt8 (List.mem_of_getElem? (i := 144) rfl)) rfl
theorem wd1825 : (Cond.code y172 prog_13_method_68_code 9 (Option.some FieldType.int)) ∈ TG := tg_in (tt8 (List.mem_of_getElem? (i := 145) rfl)) rfl
theorem wd1826 : (Cond.methodLink "WordFunctionsModel" 337 y190) ∈ TG := tg_in (tt8 (List.mem_of_getElem? (i := 146) rfl)) rfl
theorem wd1827 : (Cond.privateMethod y190) ∈ lw_tbl := tt8 (List.mem_of_getElem? (i := 147) rfl)
theorem wd1828 : (Cond.instanceMethod y190) ∈ TG := tg_in (tt8 (List.mem_of_getElem? (i := 148) rfl)) rfl
theorem wd1829 : (Cond.code y190 prog_13_method_67_code 2 (Option.some FieldType.int)) ∈ TG := tg_in (tt8 (List.mem_of_getElem? (i := 149) rfl)) rfl
theorem wd1830 : (Cond.methodLink "WordFunctionsModel" 351 y146) ∈ TG := tg_in (tt8 (List.mem_of_getElem? (i := 150) rfl)) rfl
theorem wd1831 : (Cond.privateMethod y146) ∈ lw_tbl := tt8 (List.mem_of_getElem? (i := 151) rfl)
theorem wd1832 : (Cond.instanceMethod y146) ∈ TG := tg_in (tt8 (List.mem_of_getElem? (i := 152) rfl)) rfl
theorem wd1833 : (Cond.code y146 prog_13_method_69_code 3 (Option.none : Option FieldType)) ∈ TG := tg_in (tt8 (List.mem_of_getElem? (i := 153) rfl)) rfl
theorem wd1834 : (Cond.methodLink "WordFunctionsModel" 534 y193) ∈ TG := tg_in (tt8 (List.mem_of_getElem? (i := 154) rfl)) rfl
theorem wd1835 : (Cond.privateMethod y193) ∈ lw_tbl := tt8 (List.mem_of_getElem? (i := 155) rfl)
theorem wd1836 : (Cond.instanceMethod y193) ∈ TG := tg_in (tt8 (List.mem_of_getElem? (i := 156) rfl)) rfl
theorem wd1837 : (Cond.code y193 prog_13_method_71_code 4 (Option.none : Option FieldType)) ∈ TG := tg_in (tt8 (List.mem_of_getElem? (i := 157) rfl)) rfl
theorem wd1838 : (Cond.methodLink "WordFunctionsModel" 537 y198) ∈ TG := tg_in (tt8 (List.mem_of_getElem? (i := 158) rfl)) rfl
theorem wd1839 : (Cond.privateMethod y198) ∈ lw_tbl := tt8 (List.mem_of_getElem? (i := 159) rfl)
theorem wd1840 : (Cond.instanceMethod y198) ∈ TG := tg_in (tt8 (List.mem_of_getElem? (i := 160) rfl)) rfl
theorem wd1841 : (Cond.code y198 prog_13_method_72_code 3 (Option.none : Option FieldType)) ∈ TG := tg_in (tt8 (List.mem_of_getElem? (i := 161) rfl)) rfl
theorem wd1842 : (Cond.methodLink "WordFunctionsModel" 540 y177) ∈ TG := tg_in (tt8 (List.mem_of_getElem? (i := 162) rfl)) rfl
theorem wd1843 : (Cond.privateMethod y177) ∈ lw_tbl := tt8 (List.mem_of_getElem? (i := 163) rfl)
theorem wd1844 : (Cond.instanceMethod y177) ∈ TG := tg_in (tt8 (List.mem_of_getElem? (i := 164) rfl)) rfl
theorem wd1845 : (Cond.code y177 prog_13_method_74_code 3 (Option.none : Option FieldType)) ∈ TG := tg_in (tt8 (List.mem_of_getElem? (i := 165) rfl)) rfl
theorem wd1846 : (Cond.methodLink "WordFunctionsModel" 363 y143) ∈ TG := tg_in (tt8 (List.mem_of_getElem? (i := 166) rfl)) rfl
theorem wd1847 : (Cond.privateMethod y143) ∈ lw_tbl := tt8 (List.mem_of_getElem? (i := 167) rfl)
theorem wd1848 : (Cond.instanceMethod y143) ∈ TG := tg_in (tt8 (List.mem_of_getElem? (i := 168) rfl)) rfl
theorem wd1849 : (Cond.code y143 prog_13_method_73_code 7 (Option.none : Option FieldType)) ∈ TG := tg_in (tt8 (List.mem_of_getElem? (i := 169) rfl)) rfl
theorem wd1850 : (Cond.methodLink "WordFunctionsModel" 543 y220) ∈ TG := tg_in (tt8 (List.mem_of_getElem? (i := 170) rfl)) rfl
theorem wd1851 : (Cond.privateMethod y220) ∈ lw_tbl := tt8 (List.mem_of_getElem? (i := 171) rfl)
theorem wd1852 : (Cond.instanceMethod y220) ∈ TG := tg_in (tt8 (List.mem_of_getElem? (i := 172) rfl)) rfl
theorem wd1853 : (Cond.code y220 prog_13_method_75_code 3 (Option.none : Option FieldType)) ∈ TG := tg_in (tt8 (List.mem_of_getElem? (i := 173) rfl)) rfl
theorem wd1854 : (Cond.methodLink "WordFunctionsModel" 546 y140) ∈ TG := tg_in (tt8 (List.mem_of_getElem? (i := 174) rfl)) rfl
theorem wd1855 : (Cond.privateMethod y140) ∈ lw_tbl := tt8 (List.mem_of_getElem? (i := 175) rfl)
theorem wd1856 : (Cond.instanceMethod y140) ∈ TG := tg_in (tt8 (List.mem_of_getElem? (i := 176) rfl)) rfl
theorem wd1857 : (Cond.code y140 prog_13_method_78_code 8 (Option.none : Option FieldType)) ∈ TG := tg_in (tt8 (List.mem_of_getElem? (i := 177) rfl)) rfl
theorem wd1858 : (Cond.methodLink "WordFunctionsModel" 367 y153) ∈ TG := tg_in (tt8 (List.mem_of_getElem? (i := 178) rfl)) rfl
theorem wd1859 : (Cond.privateMethod y153) ∈ lw_tbl := tt8 (List.mem_of_getElem? (i := 179) rfl)
theorem wd1860 : (Cond.instanceMethod y153) ∈ TG := tg_in (tt8 (List.mem_of_getElem? (i := 180) rfl)) rfl
theorem wd1861 : (Cond.code y153 prog_13_method_76_code 2 (Option.none : Option FieldType)) ∈ TG := tg_in (tt8 (List.mem_of_getElem? (i := 181) rfl)) rfl
theorem wd1862 : (Cond.methodLink "WordFunctionsModel" 370 y196) ∈ TG := tg_in (tt8 (List.mem_of_getElem? (i := 182) rfl)) rfl
theorem wd1863 : (Cond.privateMethod y196) ∈ lw_tbl := tt8 (List.mem_of_getElem? (i := 183) rfl)
theorem wd1864 : (Cond.instanceMethod y196) ∈ TG := tg_in (tt8 (List.mem_of_getElem? (i := 184) rfl)) rfl
theorem wd1865 : (Cond.code y196 prog_13_method_77_code 3 (Option.none : Option FieldType)) ∈ TG := tg_in (tt8 (List.mem_of_getElem? (i := 185) rfl)) rfl
theorem wd1866 : (Cond.methodLink "WordFunctionsModel" 373 y150) ∈ TG := tg_in (tt8 (List.mem_of_getElem? (i := 186) rfl)) rfl
theorem wd1867 : (Cond.privateMethod y150) ∈ lw_tbl := tt8 (List.mem_of_getElem? (i := 187) rfl)
theorem wd1868 : (Cond.instanceMethod y150) ∈ TG := tg_in (tt8 (List.mem_of_getElem? (i := 188) rfl)) rfl
theorem wd1869 : (Cond.code y150 prog_13_method_79_code 4 (Option.none : Option FieldType)) ∈ TG := tg_in (tt8 (List.mem_of_getElem? (i := 189) rfl)) rfl
theorem wd1870 : (Cond.methodLink "WordFunctionsModel" 558 y160) ∈ TG := tg_in (tt8 (List.mem_of_getElem? (i := 190) rfl)) rfl
theorem wd1871 : (Cond.privateMethod y160) ∈ lw_tbl := tt8 (List.mem_of_getElem? (i := 191) rfl)
theorem wd1872 : (Cond.instanceMethod y160) ∈ TG := tg_in (tt8 (List.mem_of_getElem? (i := 192) rfl)) rfl
theorem wd1873 : (Cond.code y160 prog_13_method_100_code 3 (Option.none : Option FieldType)) ∈ TG := tg_in (tt8 (List.mem_of_getElem? (i := 193) rfl)) rfl
theorem wd1874 : (Cond.methodLink "WordFunctionsModel" 446 y157) ∈ TG := tg_in (tt8 (List.mem_of_getElem? (i := 194) rfl)) rfl
theorem wd1875 : (Cond.privateMethod y157) ∈ lw_tbl := tt8 (List.mem_of_getElem? (i := 195) rfl)
theorem wd1876 : (Cond.instanceMethod y157) ∈ TG := tg_in (tt8 (List.mem_of_getElem? (i := 196) rfl)) rfl
theorem wd1877 : (Cond.code y157 prog_13_method_88_code 4 (Option.none : Option FieldType)) ∈ TG := tg_in (tt8 (List.mem_of_getElem? (i := 197) rfl)) rfl
theorem wd1878 : (Cond.constant "WordFunctionsModel" 412 (100000 : Int32)) ∈ TG := tg_in (tt8 (List.mem_of_getElem? (i := 198) rfl)) rfl
theorem wd1879 : (Cond.constant "WordFunctionsModel" 413 (-100000 : Int32)) ∈ TG := tg_in (tt8 (List.mem_of_getElem? (i := 199) rfl)) rfl
theorem wd1880 : (Cond.constantLong "WordFunctionsModel" 414 (12 : Int64)) ∈ TG := tg_in (tt8 (List.mem_of_getElem? (i := 200) rfl)) rfl
theorem wd1881 : (Cond.methodLink "WordFunctionsModel" 416 y201) ∈ TG := tg_in (tt8 (List.mem_of_getElem? (i := 201) rfl)) rfl
theorem wd1882 : (Cond.static y201) ∈ TG := tg_in (tt8 (List.mem_of_getElem? (i := 202) rfl)) rfl
theorem wd1883 : (Cond.code y201 prog_13_method_82_code 8 (Option.some FieldType.long)) ∈ TG := tg_in (tt8 (List.mem_of_getElem? (i := 203) rfl)) rfl
theorem wd1884 : (Cond.constantLong "WordFunctionsModel" 380 (4800 : Int64)) ∈ TG := tg_in (tt8 (List.mem_of_getElem? (i := 204) rfl)) rfl
theorem wd1885 : (Cond.constantLong "WordFunctionsModel" 382 (146097 : Int64)) ∈ TG := tg_in (tt8 (List.mem_of_getElem? (i := 205) rfl)) rfl
theorem wd1886 : (Cond.methodLink "WordFunctionsModel" 377 y182) ∈ TG := tg_in (tt8 (List.mem_of_getElem? (i := 206) rfl)) rfl
theorem wd1887 : (Cond.static y182) ∈ TG := tg_in (tt8 (List.mem_of_getElem? (i := 207) rfl)) rfl
theorem wd1888 : (Cond.code y182 prog_13_method_80_code 1 (Option.some FieldType.boolean)) ∈ TG := tg_in (tt8 (List.mem_of_getElem? (i := 208) rfl)) rfl
theorem wd1889 : (Cond.constantLong "WordFunctionsModel" 384 (366 : Int64)) ∈ TG := tg_in (tt8 (List.mem_of_getElem? (i := 209) rfl)) rfl
theorem wd1890 : (Cond.constantLong "WordFunctionsModel" 386 (365 : Int64)) ∈ TG := tg_in (tt8 (List.mem_of_getElem? (i := 210) rfl)) rfl
theorem wd1891 : (Cond.methodLink "WordFunctionsModel" 388 y163) ∈ TG := tg_in (tt8 (List.mem_of_getElem? (i := 211) rfl)) rfl
theorem wd1892 : (Cond.static y163) ∈ TG := tg_in (tt8 (List.mem_of_getElem? (i := 212) rfl)) rfl
theorem wd1893 : (Cond.code y163 prog_13_method_81_code 2 (Option.some FieldType.int)) ∈ TG := tg_in (tt8 (List.mem_of_getElem? (i := 213) rfl)) rfl
theorem wd1894 : (Cond.constantLong "WordFunctionsModel" 391 (693959 : Int64)) ∈ TG := tg_in (tt8 (List.mem_of_getElem? (i := 214) rfl)) rfl
theorem wd1895 : (Cond.methodLink "WordFunctionsModel" 420 y141) ∈ TG := tg_in (tt8 (List.mem_of_getElem? (i := 215) rfl)) rfl
theorem wd1896 : (Cond.privateMethod y141) ∈ lw_tbl := tt8 (List.mem_of_getElem? (i := 216) rfl)
theorem wd1897 : (Cond.instanceMethod y141) ∈ TG := tg_in (tt8 (List.mem_of_getElem? (i := 217) rfl)) rfl
theorem wd1898 : (Cond.code y141 prog_13_method_87_code 3 (Option.none : Option FieldType)) ∈ TG := tg_in (tt8 (List.mem_of_getElem? (i := 218) rfl)) rfl
theorem wd1899 : (Cond.constantLong "WordFunctionsModel" 410 (2958465 : Int64)) ∈ TG := tg_in (tt8 (List.mem_of_getElem? (i := 219) rfl)) rfl
theorem wd1900 : (Cond.methodLink "WordFunctionsModel" 449 y229) ∈ TG := tg_in (tt8 (List.mem_of_getElem? (i := 220) rfl)) rfl
theorem wd1901 : (Cond.privateMethod y229) ∈ lw_tbl := tt8 (List.mem_of_getElem? (i := 221) rfl)
theorem wd1902 : (Cond.instanceMethod y229) ∈ TG := tg_in (tt8 (List.mem_of_getElem? (i := 222) rfl)) rfl
theorem wd1903 : (Cond.code y229 prog_13_method_89_code 4 (Option.none : Option FieldType)) ∈ TG := tg_in (tt8 (List.mem_of_getElem? (i := 223) rfl)) rfl
theorem wd1904 : (Cond.constantLong "WordFunctionsModel" 423 (3600 : Int64)) ∈ TG := tg_in (tt8 (List.mem_of_getElem? (i := 224) rfl)) rfl
theorem wd1905 : (Cond.constantLong "WordFunctionsModel" 425 (60 : Int64)) ∈ TG := tg_in (tt8 (List.mem_of_getElem? (i := 225) rfl)) rfl
theorem wd1906 : (Cond.constantLong "WordFunctionsModel" 427 (86400 : Int64)) ∈ TG := tg_in (tt8 (List.mem_of_getElem? (i := 226) rfl)) rfl
theorem wd1907 : (Cond.constantDouble "WordFunctionsModel" 429 (4680673776000565248 : UInt64)) ∈ TG := tg_in (tt8 (List.mem_of_getElem? (i := 227) rfl)) rfl
theorem wd1908 : (Cond.methodLink "WordFunctionsModel" 452 y159) ∈ TG := tg_in (tt8 (List.mem_of_getElem? (i := 228) rfl)) rfl
theorem wd1909 : (Cond.privateMethod y159) ∈ lw_tbl := tt8 (List.mem_of_getElem? (i := 229) rfl)
theorem wd1910 : (Cond.instanceMethod y159) ∈ TG := tg_in (tt8 (List.mem_of_getElem? (i := 230) rfl)) rfl
theorem wd1911 : (Cond.code y159 prog_13_method_90_code 3 (Option.none : Option FieldType)) ∈ TG := tg_in (tt8 (List.mem_of_getElem? (i := 231) rfl)) rfl
theorem wd1912 : (Cond.methodLink "WordFunctionsModel" 431 y161) ∈ TG := tg_in (tt8 (List.mem_of_getElem? (i := 232) rfl)) rfl
theorem wd1913 : (Cond.privateMethod y161) ∈ lw_tbl := tt8 (List.mem_of_getElem? (i := 233) rfl)
theorem wd1914 : (Cond.instanceMethod y161) ∈ TG := tg_in (tt8 (List.mem_of_getElem? (i := 234) rfl)) rfl
theorem wd1915 : (Cond.code y161 prog_13_method_86_code 2 (Option.some FieldType.int)) ∈ TG := tg_in (tt8 (List.mem_of_getElem? (i := 235) rfl)) rfl
theorem wd1916 : (Cond.methodLink "WordFunctionsModel" 407 y162) ∈ TG := tg_in (tt8 (List.mem_of_getElem? (i := 236) rfl)) rfl
theorem wd1917 : (Cond.privateMethod y162) ∈ lw_tbl := tt8 (List.mem_of_getElem? (i := 237) rfl)
theorem wd1918 : (Cond.instanceMethod y162) ∈ TG := tg_in (tt8 (List.mem_of_getElem? (i := 238) rfl)) rfl
theorem wd1919 : (Cond.code y162 prog_13_method_85_code 3 (Option.some FieldType.int)) ∈ TG := tg_in (tt8 (List.mem_of_getElem? (i := 239) rfl)) rfl
theorem wd1920 : (Cond.methodLink "WordFunctionsModel" 402 y174) ∈ TG := tg_in (tt9 (List.mem_of_getElem? (i := 0) rfl)) rfl
theorem wd1921 : (Cond.static y174) ∈ TG := tg_in (tt9 (List.mem_of_getElem? (i := 1) rfl)) rfl
theorem wd1922 : (Cond.code y174 prog_13_method_84_code 4 (Option.some FieldType.double)) ∈ TG := tg_in (tt9 (List.mem_of_getElem? (i := 2) rfl)) rfl
theorem wd1923 : (Cond.constantDouble "WordFunctionsModel" 405 (4703607666558107648 : UInt64)) ∈ TG := tg_in (tt9 (List.mem_of_getElem? (i := 3) rfl)) rfl
theorem wd1924 : (Cond.methodLink "WordFunctionsModel" 434 y158) ∈ TG := tg_in (tt9 (List.mem_of_getElem? (i := 4) rfl)) rfl
theorem wd1925 : (Cond.privateMethod y158) ∈ lw_tbl := tt9 (List.mem_of_getElem? (i := 5) rfl)
theorem wd1926 : (Cond.instanceMethod y158) ∈ TG := tg_in (tt9 (List.mem_of_getElem? (i := 6) rfl)) rfl
theorem wd1927 : (Cond.code y158 prog_13_method_83_code 3 (Option.none : Option FieldType)) ∈ TG := tg_in (tt9 (List.mem_of_getElem? (i := 7) rfl)) rfl
theorem wd1928 : (Cond.methodLink "WordFunctionsModel" 455 y230) ∈ TG := tg_in (tt9 (List.mem_of_getElem? (i := 8) rfl)) rfl
theorem wd1929 : (Cond.privateMethod y230) ∈ lw_tbl := tt9 (List.mem_of_getElem? (i := 9) rfl)
theorem wd1930 : (Cond.instanceMethod y230) ∈ TG := tg_in (tt9 (List.mem_of_getElem? (i := 10) rfl)) rfl
theorem wd1931 : (Cond.code y230 prog_13_method_91_code 6 (Option.none : Option FieldType)) ∈ TG := tg_in (tt9 (List.mem_of_getElem? (i := 11) rfl)) rfl
theorem wd1932 : (Cond.constant "WordFunctionsModel" 437 (86400 : Int32)) ∈ TG := tg_in (tt9 (List.mem_of_getElem? (i := 12) rfl)) rfl
theorem wd1933 : (Cond.methodLink "WordFunctionsModel" 458 y240) ∈ TG := tg_in (tt9 (List.mem_of_getElem? (i := 13) rfl)) rfl
theorem wd1934 : (Cond.privateMethod y240) ∈ lw_tbl := tt9 (List.mem_of_getElem? (i := 14) rfl)
theorem wd1935 : (Cond.instanceMethod y240) ∈ TG := tg_in (tt9 (List.mem_of_getElem? (i := 15) rfl)) rfl
theorem wd1936 : (Cond.code y240 prog_13_method_92_code 5 (Option.none : Option FieldType)) ∈ TG := tg_in (tt9 (List.mem_of_getElem? (i := 16) rfl)) rfl
theorem wd1937 : (Cond.methodLink "WordFunctionsModel" 461 y239) ∈ TG := tg_in (tt9 (List.mem_of_getElem? (i := 17) rfl)) rfl
theorem wd1938 : (Cond.privateMethod y239) ∈ lw_tbl := tt9 (List.mem_of_getElem? (i := 18) rfl)
theorem wd1939 : (Cond.instanceMethod y239) ∈ TG := tg_in (tt9 (List.mem_of_getElem? (i := 19) rfl)) rfl
theorem wd1940 : (Cond.code y239 prog_13_method_93_code 6 (Option.none : Option FieldType)) ∈ TG := tg_in (tt9 (List.mem_of_getElem? (i := 20) rfl)) rfl
theorem wd1941 : (Cond.methodLink "WordFunctionsModel" 464 y202) ∈ TG := tg_in (tt9 (List.mem_of_getElem? (i := 21) rfl)) rfl
theorem wd1942 : (Cond.privateMethod y202) ∈ lw_tbl := tt9 (List.mem_of_getElem? (i := 22) rfl)
theorem wd1943 : (Cond.instanceMethod y202) ∈ TG := tg_in (tt9 (List.mem_of_getElem? (i := 23) rfl)) rfl
theorem wd1944 : (Cond.code y202 prog_13_method_94_code 10 (Option.none : Option FieldType)) ∈ TG := tg_in (tt9 (List.mem_of_getElem? (i := 24) rfl)) rfl
theorem wd1945 : (Cond.methodLink "WordFunctionsModel" 467 y165) ∈ TG := tg_in (tt9 (List.mem_of_getElem? (i := 25) rfl)) rfl
theorem wd1946 : (Cond.privateMethod y165) ∈ lw_tbl := tt9 (List.mem_of_getElem? (i := 26) rfl)
theorem wd1947 : (Cond.instanceMethod y165) ∈ TG := tg_in (tt9 (List.mem_of_getElem? (i := 27) rfl)) rfl
theorem wd1948 : (Cond.code y165 prog_13_method_96_code 9 (Option.none : Option FieldType)) ∈ TG := tg_in (tt9 (List.mem_of_getElem? (i := 28) rfl)) rfl
theorem wd1949 : (Cond.methodLink "WordFunctionsModel" 438 y203) ∈ TG := tg_in (tt9 (List.mem_of_getElem? (i := 29) rfl)) rfl
theorem wd1950 : (Cond.privateMethod y203) ∈ lw_tbl := tt9 (List.mem_of_getElem? (i := 30) rfl)
theorem wd1951 : (Cond.instanceMethod y203) ∈ TG := tg_in (tt9 (List.mem_of_getElem? (i := 31) rfl)) rfl
theorem wd1952 : (Cond.code y203 prog_13_method_95_code 9 (Option.some FieldType.long)) ∈ TG := tg_in (tt9 (List.mem_of_getElem? (i := 32) rfl)) rfl
theorem wd1953 : (Cond.methodLink "WordFunctionsModel" 470 y245) ∈ TG := tg_in (tt9 (List.mem_of_getElem? (i := 33) rfl)) rfl
theorem wd1954 : (Cond.privateMethod y245) ∈ lw_tbl := tt9 (List.mem_of_getElem? (i := 34) rfl)
theorem wd1955 : (Cond.instanceMethod y245) ∈ TG := tg_in (tt9 (List.mem_of_getElem? (i := 35) rfl)) rfl
theorem wd1956 : (Cond.code y245 prog_13_method_98_code 5 (Option.none : Option FieldType)) ∈ TG := tg_in (tt9 (List.mem_of_getElem? (i := 36) rfl)) rfl
theorem wd1957 : (Cond.methodLink "WordFunctionsModel" 442 y184) ∈ TG := tg_in (tt9 (List.mem_of_getElem? (i := 37) rfl)) rfl
theorem wd1958 : (Cond.privateMethod y184) ∈ lw_tbl := tt9 (List.mem_of_getElem? (i := 38) rfl)
theorem wd1959 : (Cond.instanceMethod y184) ∈ TG := tg_in (tt9 (List.mem_of_getElem? (i := 39) rfl)) rfl
theorem wd1960 : (Cond.code y184 prog_13_method_97_code 6 (Option.some FieldType.boolean)) ∈ TG := tg_in (tt9 (List.mem_of_getElem? (i := 40) rfl)) rfl
theorem wd1961 : (Cond.methodLink "WordFunctionsModel" 473 y244) ∈ TG := tg_in (tt9 (List.mem_of_getElem? (i := 41) rfl)) rfl
theorem wd1962 : (Cond.privateMethod y244) ∈ lw_tbl := tt9 (List.mem_of_getElem? (i := 42) rfl)
theorem wd1963 : (Cond.instanceMethod y244) ∈ TG := tg_in (tt9 (List.mem_of_getElem? (i := 43) rfl)) rfl
theorem wd1964 : (Cond.code y244 prog_13_method_99_code 4 (Option.none : Option FieldType)) ∈ TG := tg_in (tt9 (List.mem_of_getElem? (i := 44) rfl)) rfl
theorem wd1965 : (Cond.constant "WordFunctionsModel" 445 (2958465 : Int32)) ∈ TG := tg_in (tt9 (List.mem_of_getElem? (i := 45) rfl)) rfl
theorem wd1966 : (Cond.methodLink "WordFunctionsModel" 561 y187) ∈ TG := tg_in (tt9 (List.mem_of_getElem? (i := 46) rfl)) rfl
theorem wd1967 : (Cond.privateMethod y187) ∈ lw_tbl := tt9 (List.mem_of_getElem? (i := 47) rfl)
theorem wd1968 : (Cond.instanceMethod y187) ∈ TG := tg_in (tt9 (List.mem_of_getElem? (i := 48) rfl)) rfl
theorem wd1969 : (Cond.code y187 prog_13_method_101_code 3 (Option.none : Option FieldType)) ∈ TG := tg_in (tt9 (List.mem_of_getElem? (i := 49) rfl)) rfl
theorem wd1970 : (Cond.constantDouble "WordFunctionsModel" 476 (4619567317775286272 : UInt64)) ∈ TG := tg_in (tt9 (List.mem_of_getElem? (i := 50) rfl)) rfl
theorem wd1971 : (Cond.constantDouble "WordFunctionsModel" 478 (4634204016564240384 : UInt64)) ∈ TG := tg_in (tt9 (List.mem_of_getElem? (i := 51) rfl)) rfl
theorem wd1972 : (Cond.constantDouble "WordFunctionsModel" 480 (4611686018427387904 : UInt64)) ∈ TG := tg_in (tt9 (List.mem_of_getElem? (i := 52) rfl)) rfl
theorem wd1973 : (Cond.constantDouble "WordFunctionsModel" 482 (4616189618054758400 : UInt64)) ∈ TG := tg_in (tt9 (List.mem_of_getElem? (i := 53) rfl)) rfl
theorem wd1974 : (Cond.constantDouble "WordFunctionsModel" 484 (4625196817309499392 : UInt64)) ∈ TG := tg_in (tt9 (List.mem_of_getElem? (i := 54) rfl)) rfl
theorem wd1975 : (Cond.constantDouble "WordFunctionsModel" 486 (4614256656552045848 : UInt64)) ∈ TG := tg_in (tt9 (List.mem_of_getElem? (i := 55) rfl)) rfl
theorem wd1976 : (Cond.methodLink "WordFunctionsModel" 564 y186) ∈ TG := tg_in (tt9 (List.mem_of_getElem? (i := 56) rfl)) rfl
theorem wd1977 : (Cond.privateMethod y186) ∈ lw_tbl := tt9 (List.mem_of_getElem? (i := 57) rfl)
theorem wd1978 : (Cond.instanceMethod y186) ∈ TG := tg_in (tt9 (List.mem_of_getElem? (i := 58) rfl)) rfl
theorem wd1979 : (Cond.code y186 prog_13_method_106_code 5 (Option.none : Option FieldType)) ∈ TG := tg_in (tt9 (List.mem_of_getElem? (i := 59) rfl)) rfl
theorem wd1980 : (Cond.methodLink "WordFunctionsModel" 567 y225) ∈ TG := tg_in (tt9 (List.mem_of_getElem? (i := 60) rfl)) rfl
theorem wd1981 : (Cond.privateMethod y225) ∈ lw_tbl := tt9 (List.mem_of_getElem? (i := 61) rfl)
theorem wd1982 : (Cond.instanceMethod y225) ∈ TG := tg_in (tt9 (List.mem_of_getElem? (i := 62) rfl)) rfl
theorem wd1983 : (Cond.code y225 prog_13_method_107_code 3 (Option.none : Option FieldType)) ∈ TG := tg_in (tt9 (List.mem_of_getElem? (i := 63) rfl)) rfl
theorem wd1984 : (Cond.methodLink "WordFunctionsLaw" 73 y217) ∈ TG := tg_in (tt9 (List.mem_of_getElem? (i := 64) rfl)) rfl
theorem wd1985 : (Cond.instanceMethod y217) ∈ TG := tg_in (tt9 (List.mem_of_getElem? (i := 65) rfl)) rfl
theorem wd1986 : (Cond.selects "WordFunctionsModel" y217 y217) ∈ TG := tg_in (tt9 (List.mem_of_getElem? (i := 66) rfl)) rfl
theorem wd1987 : (Cond.code y217 prog_13_method_108_code 2 (Option.some FieldType.int)) ∈ TG := tg_in (tt9 (List.mem_of_getElem? (i := 67) rfl)) rfl
theorem wd1988 : (Cond.methodLink "WordFunctionsLaw" 78 y191) ∈ TG := tg_in (tt9 (List.mem_of_getElem? (i := 68) rfl)) rfl
theorem wd1989 : (Cond.instanceMethod y191) ∈ TG := tg_in (tt9 (List.mem_of_getElem? (i := 69) rfl)) rfl
theorem wd1990 : (Cond.selects "WordFunctionsModel" y191 y191) ∈ TG := tg_in (tt9 (List.mem_of_getElem? (i := 70) rfl)) rfl
theorem wd1991 : (Cond.code y191 prog_13_method_109_code 3 (Option.some FieldType.int)) ∈ TG := tg_in (tt9 (List.mem_of_getElem? (i := 71) rfl)) rfl
theorem wd1992 : (Cond.methodLink "WordFunctionsLaw" 83 y236) ∈ TG := tg_in (tt9 (List.mem_of_getElem? (i := 72) rfl)) rfl
theorem wd1993 : (Cond.instanceMethod y236) ∈ TG := tg_in (tt9 (List.mem_of_getElem? (i := 73) rfl)) rfl
theorem wd1994 : (Cond.selects "WordFunctionsModel" y236 y236) ∈ TG := tg_in (tt9 (List.mem_of_getElem? (i := 74) rfl)) rfl
theorem wd1995 : (Cond.code y236 prog_13_method_110_code 1 (Option.some FieldType.double)) ∈ TG := tg_in (tt9 (List.mem_of_getElem? (i := 75) rfl)) rfl
theorem wd1996 : (Cond.methodLink "WordFunctionsLaw" 87 y189) ∈ TG := tg_in (tt9 (List.mem_of_getElem? (i := 76) rfl)) rfl
theorem wd1997 : (Cond.instanceMethod y189) ∈ TG := tg_in (tt9 (List.mem_of_getElem? (i := 77) rfl)) rfl
theorem wd1998 : (Cond.selects "WordFunctionsModel" y189 y189) ∈ TG := tg_in (tt9 (List.mem_of_getElem? (i := 78) rfl)) rfl
theorem wd1999 : (Cond.code y189 prog_13_method_111_code 2 (Option.some FieldType.int)) ∈ TG := tg_in (tt9 (List.mem_of_getElem? (i := 79) rfl)) rfl
theorem wd2000 : (Cond.constantDouble "WordFunctionsLaw" 54 (4593671619917905920 : UInt64)) ∈ TG := tg_in (tt9 (List.mem_of_getElem? (i := 80) rfl)) rfl
theorem wd2001 : (Cond.arrayClass FieldType.long) ∈ TG := tg_in (tt9 (List.mem_of_getElem? (i := 81) rfl)) rfl
theorem wd2002 : (Cond.sameMethod "java/lang/AbstractStringBuilder" "java/lang/AbstractStringBuilder" "append" "(C)Ljava/lang/AbstractStringBuilder;") ∈ TG := tg_in (tt9 (List.mem_of_getElem? (i := 82) rfl)) rfl
theorem wd2003 : (Cond.sameMethod "java/lang/AbstractStringBuilder" "java/lang/AbstractStringBuilder" "ensureCapacityInternal" "(I)V") ∈ TG := tg_in (tt9 (List.mem_of_getElem? (i := 83) rfl)) rfl
theorem wd2004 : (Cond.sameMethod "java/lang/AbstractStringBuilder" "java/lang/AbstractStringBuilder" "newCapacity" "(I)I") ∈ TG := tg_in (tt9 (List.mem_of_getElem? (i := 84) rfl)) rfl
theorem wd2005 : (Cond.sameMethod "java/lang/AbstractStringBuilder" "java/lang/AbstractStringBuilder" "inflate" "()V") ∈ TG := tg_in (tt9 (List.mem_of_getElem? (i := 85) rfl)) rfl
theorem wd2006 : (Cond.sameMethod "java/lang/Throwable" "java/lang/Throwable" "fillInStackTrace" "(I)Ljava/lang/Throwable;") ∈ TG := tg_in (tt9 (List.mem_of_getElem? (i := 86) rfl)) rfl
theorem wd2007 : (Cond.sameMethod "java/lang/AbstractStringBuilder" "java/lang/AbstractStringBuilder" "append" "(I)Ljava/lang/AbstractStringBuilder;") ∈ TG := tg_in (tt9 (List.mem_of_getElem? (i := 87) rfl)) rfl
theorem wd2008 : (Cond.sameMethod "java/lang/AbstractStringBuilder" "java/lang/AbstractStringBuilder" "append" "(Ljava/lang/String;)Ljava/lang/AbstractStringBuilder;") ∈ TG := tg_in (tt9 (List.mem_of_getElem? (i := 88) rfl)) rfl
theorem wd2009 : (Cond.sameMethod "java/lang/AbstractStringBuilder" "java/lang/AbstractStringBuilder" "appendNull" "()Ljava/lang/AbstractStringBuilder;") ∈ TG := tg_in (tt9 (List.mem_of_getElem? (i := 89) rfl)) rfl
theorem wd2010 : (Cond.sameMethod "java/lang/AbstractStringBuilder" "java/lang/AbstractStringBuilder" "putStringAt" "(ILjava/lang/String;)V") ∈ TG := tg_in (tt9 (List.mem_of_getElem? (i := 90) rfl)) rfl
theorem wd2011 : (Cond.sameMethod "java/lang/AbstractStringBuilder" "java/lang/AbstractStringBuilder" "inflateIfNeededFor" "(Ljava/lang/String;)V") ∈ TG := tg_in (tt9 (List.mem_of_getElem? (i := 91) rfl)) rfl
theorem wd2012 : (Cond.sameMethod "java/lang/AbstractStringBuilder" "java/lang/AbstractStringBuilder" "reverse" "()Ljava/lang/AbstractStringBuilder;") ∈ TG := tg_in (tt9 (List.mem_of_getElem? (i := 92) rfl)) rfl
theorem wd2013 : (Cond.selects "java/lang/StringBuilder" y305 y305) ∈ TG := tg_in (tt9 (List.mem_of_getElem? (i := 93) rfl)) rfl
theorem sl11 : Cond.selects "WordFunctions" y11 y11 ∈ TG := tg_in (List.mem_append_left _ (List.mem_of_getElem? (i := 0) rfl)) rfl
theorem sl345 : Cond.selects "java/lang/Throwable" y345 y345 ∈ TG := tg_in (List.mem_append_left _ (List.mem_of_getElem? (i := 1) rfl)) rfl
theorem sl42 : Cond.selects "WordFunctions$Arguments" y42 y42 ∈ TG := tg_in (List.mem_append_left _ (List.mem_of_getElem? (i := 2) rfl)) rfl
theorem sl25 : Cond.selects "WordFunctions$Answer" y25 y25 ∈ TG := tg_in (List.mem_append_left _ (List.mem_of_getElem? (i := 3) rfl)) rfl
theorem sl51 : Cond.selects "WordFunctions$Arguments" y51 y51 ∈ TG := tg_in (List.mem_append_left _ (List.mem_of_getElem? (i := 4) rfl)) rfl
theorem sl125 : Cond.selects "WordFunctions$Texts" y125 y125 ∈ TG := tg_in (List.mem_append_left _ (List.mem_of_getElem? (i := 5) rfl)) rfl
theorem sl118 : Cond.selects "WordFunctions$Texts" y118 y118 ∈ TG := tg_in (List.mem_append_left _ (List.mem_of_getElem? (i := 6) rfl)) rfl
theorem sl115 : Cond.selects "WordFunctions$Texts" y115 y115 ∈ TG := tg_in (List.mem_append_left _ (List.mem_of_getElem? (i := 7) rfl)) rfl
theorem sl124 : Cond.selects "WordFunctions$Texts" y124 y124 ∈ TG := tg_in (List.mem_append_left _ (List.mem_of_getElem? (i := 8) rfl)) rfl
theorem sl122 : Cond.selects "WordFunctions$Texts" y122 y122 ∈ TG := tg_in (List.mem_append_left _ (List.mem_of_getElem? (i := 9) rfl)) rfl
theorem sl127 : Cond.selects "WordFunctions$Texts" y127 y127 ∈ TG := tg_in (List.mem_append_left _ (List.mem_of_getElem? (i := 10) rfl)) rfl
theorem sl121 : Cond.selects "WordFunctions$Texts" y121 y121 ∈ TG := tg_in (List.mem_append_left _ (List.mem_of_getElem? (i := 11) rfl)) rfl
theorem sl126 : Cond.selects "WordFunctions$Texts" y126 y126 ∈ TG := tg_in (List.mem_append_left _ (List.mem_of_getElem? (i := 12) rfl)) rfl
theorem sl120 : Cond.selects "WordFunctions$Texts" y120 y120 ∈ TG := tg_in (List.mem_append_left _ (List.mem_of_getElem? (i := 13) rfl)) rfl
theorem sl128 : Cond.selects "WordFunctions$Texts" y128 y128 ∈ TG := tg_in (List.mem_append_left _ (List.mem_of_getElem? (i := 14) rfl)) rfl
theorem sl111 : Cond.selects "WordFunctions$Texts" y111 y111 ∈ TG := tg_in (List.mem_append_left _ (List.mem_of_getElem? (i := 15) rfl)) rfl
theorem sl117 : Cond.selects "WordFunctions$Texts" y117 y117 ∈ TG := tg_in (List.mem_append_left _ (List.mem_of_getElem? (i := 16) rfl)) rfl
theorem sl114 : Cond.selects "WordFunctions$Texts" y114 y114 ∈ TG := tg_in (List.mem_append_left _ (List.mem_of_getElem? (i := 17) rfl)) rfl
theorem sl109 : Cond.selects "WordFunctions$Texts" y109 y109 ∈ TG := tg_in (List.mem_append_left _ (List.mem_of_getElem? (i := 18) rfl)) rfl
theorem sl110 : Cond.selects "WordFunctions$Texts" y110 y110 ∈ TG := tg_in (List.mem_append_left _ (List.mem_of_getElem? (i := 19) rfl)) rfl
theorem sl123 : Cond.selects "WordFunctions$Texts" y123 y123 ∈ TG := tg_in (List.mem_append_left _ (List.mem_of_getElem? (i := 20) rfl)) rfl
theorem sl108 : Cond.selects "WordFunctions$Texts" y108 y108 ∈ TG := tg_in (List.mem_append_left _ (List.mem_of_getElem? (i := 21) rfl)) rfl
theorem sl112 : Cond.selects "WordFunctions$Texts" y112 y112 ∈ TG := tg_in (List.mem_append_left _ (List.mem_of_getElem? (i := 22) rfl)) rfl
theorem sl94 : Cond.selects "WordFunctions$LookUps" y94 y94 ∈ TG := tg_in (List.mem_append_left _ (List.mem_of_getElem? (i := 23) rfl)) rfl
theorem sl100 : Cond.selects "WordFunctions$LookUps" y100 y100 ∈ TG := tg_in (List.mem_append_left _ (List.mem_of_getElem? (i := 24) rfl)) rfl
theorem sl92 : Cond.selects "WordFunctions$LookUps" y92 y92 ∈ TG := tg_in (List.mem_append_left _ (List.mem_of_getElem? (i := 25) rfl)) rfl
theorem sl96 : Cond.selects "WordFunctions$LookUps" y96 y96 ∈ TG := tg_in (List.mem_append_left _ (List.mem_of_getElem? (i := 26) rfl)) rfl
theorem sl97 : Cond.selects "WordFunctions$LookUps" y97 y97 ∈ TG := tg_in (List.mem_append_left _ (List.mem_of_getElem? (i := 27) rfl)) rfl
theorem sl91 : Cond.selects "WordFunctions$LookUps" y91 y91 ∈ TG := tg_in (List.mem_append_left _ (List.mem_of_getElem? (i := 28) rfl)) rfl
theorem sl88 : Cond.selects "WordFunctions$LookUps" y88 y88 ∈ TG := tg_in (List.mem_append_left _ (List.mem_of_getElem? (i := 29) rfl)) rfl
theorem sl64 : Cond.selects "WordFunctions$Dates" y64 y64 ∈ TG := tg_in (List.mem_append_left _ (List.mem_of_getElem? (i := 30) rfl)) rfl
theorem sl76 : Cond.selects "WordFunctions$Dates" y76 y76 ∈ TG := tg_in (List.mem_append_left _ (List.mem_of_getElem? (i := 31) rfl)) rfl
theorem sl75 : Cond.selects "WordFunctions$Dates" y75 y75 ∈ TG := tg_in (List.mem_append_left _ (List.mem_of_getElem? (i := 32) rfl)) rfl
theorem sl78 : Cond.selects "WordFunctions$Dates" y78 y78 ∈ TG := tg_in (List.mem_append_left _ (List.mem_of_getElem? (i := 33) rfl)) rfl
theorem sl77 : Cond.selects "WordFunctions$Dates" y77 y77 ∈ TG := tg_in (List.mem_append_left _ (List.mem_of_getElem? (i := 34) rfl)) rfl
theorem sl71 : Cond.selects "WordFunctions$Dates" y71 y71 ∈ TG := tg_in (List.mem_append_left _ (List.mem_of_getElem? (i := 35) rfl)) rfl
theorem sl66 : Cond.selects "WordFunctions$Dates" y66 y66 ∈ TG := tg_in (List.mem_append_left _ (List.mem_of_getElem? (i := 36) rfl)) rfl
theorem sl67 : Cond.selects "WordFunctions$Dates" y67 y67 ∈ TG := tg_in (List.mem_append_left _ (List.mem_of_getElem? (i := 37) rfl)) rfl
theorem sl82 : Cond.selects "WordFunctions$Dates" y82 y82 ∈ TG := tg_in (List.mem_append_left _ (List.mem_of_getElem? (i := 38) rfl)) rfl
theorem sl74 : Cond.selects "WordFunctions$Dates" y74 y74 ∈ TG := tg_in (List.mem_append_left _ (List.mem_of_getElem? (i := 39) rfl)) rfl
theorem sl63 : Cond.selects "WordFunctions$Dates" y63 y63 ∈ TG := tg_in (List.mem_append_left _ (List.mem_of_getElem? (i := 40) rfl)) rfl
theorem sl79 : Cond.selects "WordFunctions$Dates" y79 y79 ∈ TG := tg_in (List.mem_append_left _ (List.mem_of_getElem? (i := 41) rfl)) rfl
theorem sl81 : Cond.selects "WordFunctions$Dates" y81 y81 ∈ TG := tg_in (List.mem_append_left _ (List.mem_of_getElem? (i := 42) rfl)) rfl
theorem sl80 : Cond.selects "WordFunctions$Dates" y80 y80 ∈ TG := tg_in (List.mem_append_left _ (List.mem_of_getElem? (i := 43) rfl)) rfl
theorem sl86 : Cond.selects "WordFunctions$Kinds" y86 y86 ∈ TG := tg_in (List.mem_append_left _ (List.mem_of_getElem? (i := 44) rfl)) rfl
theorem sl208 : Cond.selects "WordFunctionsModel" y208 y208 ∈ TG := tg_in (List.mem_append_left _ (List.mem_of_getElem? (i := 45) rfl)) rfl
theorem sl206 : Cond.selects "WordFunctionsModel" y206 y206 ∈ TG := tg_in (List.mem_append_left _ (List.mem_of_getElem? (i := 46) rfl)) rfl
theorem sl243 : Cond.selects "WordFunctionsModel" y243 y243 ∈ TG := tg_in (List.mem_append_left _ (List.mem_of_getElem? (i := 47) rfl)) rfl
theorem sl226 : Cond.selects "WordFunctionsModel" y226 y226 ∈ TG := tg_in (List.mem_append_left _ (List.mem_of_getElem? (i := 48) rfl)) rfl
theorem sl224 : Cond.selects "WordFunctionsModel" y224 y224 ∈ TG := tg_in (List.mem_append_left _ (List.mem_of_getElem? (i := 49) rfl)) rfl
theorem sl237 : Cond.selects "WordFunctionsModel" y237 y237 ∈ TG := tg_in (List.mem_append_left _ (List.mem_of_getElem? (i := 50) rfl)) rfl
theorem sl183 : Cond.selects "WordFunctionsModel" y183 y183 ∈ TG := tg_in (List.mem_append_left _ (List.mem_of_getElem? (i := 51) rfl)) rfl
theorem sl223 : Cond.selects "WordFunctionsModel" y223 y223 ∈ TG := tg_in (List.mem_append_left _ (List.mem_of_getElem? (i := 52) rfl)) rfl
theorem sl227 : Cond.selects "WordFunctionsModel" y227 y227 ∈ TG := tg_in (List.mem_append_left _ (List.mem_of_getElem? (i := 53) rfl)) rfl
theorem sl170 : Cond.selects "WordFunctionsModel" y170 y170 ∈ TG := tg_in (List.mem_append_left _ (List.mem_of_getElem? (i := 54) rfl)) rfl
theorem sl248 : Cond.selects "WordFunctionsModel" y248 y248 ∈ TG := tg_in (List.mem_append_left _ (List.mem_of_getElem? (i := 55) rfl)) rfl
theorem sl246 : Cond.selects "WordFunctionsModel" y246 y246 ∈ TG := tg_in (List.mem_append_left _ (List.mem_of_getElem? (i := 56) rfl)) rfl
theorem sl247 : Cond.selects "WordFunctionsModel" y247 y247 ∈ TG := tg_in (List.mem_append_left _ (List.mem_of_getElem? (i := 57) rfl)) rfl
theorem sl142 : Cond.selects "WordFunctionsModel" y142 y142 ∈ TG := tg_in (List.mem_append_left _ (List.mem_of_getElem? (i := 58) rfl)) rfl
theorem sl167 : Cond.selects "WordFunctionsModel" y167 y167 ∈ TG := tg_in (List.mem_append_left _ (List.mem_of_getElem? (i := 59) rfl)) rfl
theorem sl231 : Cond.selects "WordFunctionsModel" y231 y231 ∈ TG := tg_in (List.mem_append_left _ (List.mem_of_getElem? (i := 60) rfl)) rfl
theorem sl242 : Cond.selects "WordFunctionsModel" y242 y242 ∈ TG := tg_in (List.mem_append_left _ (List.mem_of_getElem? (i := 61) rfl)) rfl
theorem sl181 : Cond.selects "WordFunctionsModel" y181 y181 ∈ TG := tg_in (List.mem_append_left _ (List.mem_of_getElem? (i := 62) rfl)) rfl
theorem sl241 : Cond.selects "WordFunctionsModel" y241 y241 ∈ TG := tg_in (List.mem_append_left _ (List.mem_of_getElem? (i := 63) rfl)) rfl
theorem sl204 : Cond.selects "WordFunctionsModel" y204 y204 ∈ TG := tg_in (List.mem_append_left _ (List.mem_of_getElem? (i := 64) rfl)) rfl
theorem sl205 : Cond.selects "WordFunctionsModel" y205 y205 ∈ TG := tg_in (List.mem_append_left _ (List.mem_of_getElem? (i := 65) rfl)) rfl
theorem sl216 : Cond.selects "WordFunctionsModel" y216 y216 ∈ TG := tg_in (List.mem_append_left _ (List.mem_of_getElem? (i := 66) rfl)) rfl
theorem sl197 : Cond.selects "WordFunctionsModel" y197 y197 ∈ TG := tg_in (List.mem_append_left _ (List.mem_of_getElem? (i := 67) rfl)) rfl
theorem sl195 : Cond.selects "WordFunctionsModel" y195 y195 ∈ TG := tg_in (List.mem_append_left _ (List.mem_of_getElem? (i := 68) rfl)) rfl
theorem sl144 : Cond.selects "WordFunctionsModel" y144 y144 ∈ TG := tg_in (List.mem_append_left _ (List.mem_of_getElem? (i := 69) rfl)) rfl
theorem sl200 : Cond.selects "WordFunctionsModel" y200 y200 ∈ TG := tg_in (List.mem_append_left _ (List.mem_of_getElem? (i := 70) rfl)) rfl
theorem sl173 : Cond.selects "WordFunctionsModel" y173 y173 ∈ TG := tg_in (List.mem_append_left _ (List.mem_of_getElem? (i := 71) rfl)) rfl
theorem sl232 : Cond.selects "WordFunctionsModel" y232 y232 ∈ TG := tg_in (List.mem_append_left _ (List.mem_of_getElem? (i := 72) rfl)) rfl
theorem sl199 : Cond.selects "WordFunctionsModel" y199 y199 ∈ TG := tg_in (List.mem_append_left _ (List.mem_of_getElem? (i := 73) rfl)) rfl
theorem sl221 : Cond.selects "WordFunctionsModel" y221 y221 ∈ TG := tg_in (List.mem_append_left _ (List.mem_of_getElem? (i := 74) rfl)) rfl
theorem sl212 : Cond.selects "WordFunctionsModel" y212 y212 ∈ TG := tg_in (List.mem_append_left _ (List.mem_of_getElem? (i := 75) rfl)) rfl
theorem sl222 : Cond.selects "WordFunctionsModel" y222 y222 ∈ TG := tg_in (List.mem_append_left _ (List.mem_of_getElem? (i := 76) rfl)) rfl
theorem sl211 : Cond.selects "WordFunctionsModel" y211 y211 ∈ TG := tg_in (List.mem_append_left _ (List.mem_of_getElem? (i := 77) rfl)) rfl
theorem sl218 : Cond.selects "WordFunctionsModel" y218 y218 ∈ TG := tg_in (List.mem_append_left _ (List.mem_of_getElem? (i := 78) rfl)) rfl
theorem sl233 : Cond.selects "WordFunctionsModel" y233 y233 ∈ TG := tg_in (List.mem_append_left _ (List.mem_of_getElem? (i := 79) rfl)) rfl
theorem sl155 : Cond.selects "WordFunctionsModel" y155 y155 ∈ TG := tg_in (List.mem_append_left _ (List.mem_of_getElem? (i := 80) rfl)) rfl
theorem sl185 : Cond.selects "WordFunctionsModel" y185 y185 ∈ TG := tg_in (List.mem_append_left _ (List.mem_of_getElem? (i := 81) rfl)) rfl
theorem sl234 : Cond.selects "WordFunctionsModel" y234 y234 ∈ TG := tg_in (List.mem_append_left _ (List.mem_of_getElem? (i := 82) rfl)) rfl
theorem sl215 : Cond.selects "WordFunctionsModel" y215 y215 ∈ TG := tg_in (List.mem_append_left _ (List.mem_of_getElem? (i := 83) rfl)) rfl
theorem sl154 : Cond.selects "WordFunctionsModel" y154 y154 ∈ TG := tg_in (List.mem_append_left _ (List.mem_of_getElem? (i := 84) rfl)) rfl
theorem sl169 : Cond.selects "WordFunctionsModel" y169 y169 ∈ TG := tg_in (List.mem_append_left _ (List.mem_of_getElem? (i := 85) rfl)) rfl
theorem sl145 : Cond.selects "WordFunctionsModel" y145 y145 ∈ TG := tg_in (List.mem_append_left _ (List.mem_of_getElem? (i := 86) rfl)) rfl
theorem sl152 : Cond.selects "WordFunctionsModel" y152 y152 ∈ TG := tg_in (List.mem_append_left _ (List.mem_of_getElem? (i := 87) rfl)) rfl
theorem sl213 : Cond.selects "WordFunctionsModel" y213 y213 ∈ TG := tg_in (List.mem_append_left _ (List.mem_of_getElem? (i := 88) rfl)) rfl
theorem sl214 : Cond.selects "WordFunctionsModel" y214 y214 ∈ TG := tg_in (List.mem_append_left _ (List.mem_of_getElem? (i := 89) rfl)) rfl
theorem sl149 : Cond.selects "WordFunctionsModel" y149 y149 ∈ TG := tg_in (List.mem_append_left _ (List.mem_of_getElem? (i := 90) rfl)) rfl
theorem sl164 : Cond.selects "WordFunctionsModel" y164 y164 ∈ TG := tg_in (List.mem_append_left _ (List.mem_of_getElem? (i := 91) rfl)) rfl
theorem sl194 : Cond.selects "WordFunctionsModel" y194 y194 ∈ TG := tg_in (List.mem_append_left _ (List.mem_of_getElem? (i := 92) rfl)) rfl
theorem sl192 : Cond.selects "WordFunctionsModel" y192 y192 ∈ TG := tg_in (List.mem_append_left _ (List.mem_of_getElem? (i := 93) rfl)) rfl
theorem sl238 : Cond.selects "WordFunctionsModel" y238 y238 ∈ TG := tg_in (List.mem_append_left _ (List.mem_of_getElem? (i := 94) rfl)) rfl
theorem sl235 : Cond.selects "WordFunctionsModel" y235 y235 ∈ TG := tg_in (List.mem_append_left _ (List.mem_of_getElem? (i := 95) rfl)) rfl
theorem sl172 : Cond.selects "WordFunctionsModel" y172 y172 ∈ TG := tg_in (List.mem_append_left _ (List.mem_of_getElem? (i := 96) rfl)) rfl
theorem sl190 : Cond.selects "WordFunctionsModel" y190 y190 ∈ TG := tg_in (List.mem_append_left _ (List.mem_of_getElem? (i := 97) rfl)) rfl
theorem sl146 : Cond.selects "WordFunctionsModel" y146 y146 ∈ TG := tg_in (List.mem_append_left _ (List.mem_of_getElem? (i := 98) rfl)) rfl
theorem sl193 : Cond.selects "WordFunctionsModel" y193 y193 ∈ TG := tg_in (List.mem_append_left _ (List.mem_of_getElem? (i := 99) rfl)) rfl
theorem sl198 : Cond.selects "WordFunctionsModel" y198 y198 ∈ TG := tg_in (List.mem_append_left _ (List.mem_of_getElem? (i := 100) rfl)) rfl
theorem sl177 : Cond.selects "WordFunctionsModel" y177 y177 ∈ TG := tg_in (List.mem_append_left _ (List.mem_of_getElem? (i := 101) rfl)) rfl
theorem sl143 : Cond.selects "WordFunctionsModel" y143 y143 ∈ TG := tg_in (List.mem_append_left _ (List.mem_of_getElem? (i := 102) rfl)) rfl
theorem sl220 : Cond.selects "WordFunctionsModel" y220 y220 ∈ TG := tg_in (List.mem_append_left _ (List.mem_of_getElem? (i := 103) rfl)) rfl
theorem sl140 : Cond.selects "WordFunctionsModel" y140 y140 ∈ TG := tg_in (List.mem_append_left _ (List.mem_of_getElem? (i := 104) rfl)) rfl
theorem sl153 : Cond.selects "WordFunctionsModel" y153 y153 ∈ TG := tg_in (List.mem_append_left _ (List.mem_of_getElem? (i := 105) rfl)) rfl
theorem sl196 : Cond.selects "WordFunctionsModel" y196 y196 ∈ TG := tg_in (List.mem_append_left _ (List.mem_of_getElem? (i := 106) rfl)) rfl
theorem sl150 : Cond.selects "WordFunctionsModel" y150 y150 ∈ TG := tg_in (List.mem_append_left _ (List.mem_of_getElem? (i := 107) rfl)) rfl
theorem sl160 : Cond.selects "WordFunctionsModel" y160 y160 ∈ TG := tg_in (List.mem_append_left _ (List.mem_of_getElem? (i := 108) rfl)) rfl
theorem sl157 : Cond.selects "WordFunctionsModel" y157 y157 ∈ TG := tg_in (List.mem_append_left _ (List.mem_of_getElem? (i := 109) rfl)) rfl
theorem sl141 : Cond.selects "WordFunctionsModel" y141 y141 ∈ TG := tg_in (List.mem_append_left _ (List.mem_of_getElem? (i := 110) rfl)) rfl
theorem sl229 : Cond.selects "WordFunctionsModel" y229 y229 ∈ TG := tg_in (List.mem_append_left _ (List.mem_of_getElem? (i := 111) rfl)) rfl
theorem sl159 : Cond.selects "WordFunctionsModel" y159 y159 ∈ TG := tg_in (List.mem_append_left _ (List.mem_of_getElem? (i := 112) rfl)) rfl
theorem sl161 : Cond.selects "WordFunctionsModel" y161 y161 ∈ TG := tg_in (List.mem_append_left _ (List.mem_of_getElem? (i := 113) rfl)) rfl
theorem sl162 : Cond.selects "WordFunctionsModel" y162 y162 ∈ TG := tg_in (List.mem_append_left _ (List.mem_of_getElem? (i := 114) rfl)) rfl
theorem sl158 : Cond.selects "WordFunctionsModel" y158 y158 ∈ TG := tg_in (List.mem_append_left _ (List.mem_of_getElem? (i := 115) rfl)) rfl
theorem sl230 : Cond.selects "WordFunctionsModel" y230 y230 ∈ TG := tg_in (List.mem_append_left _ (List.mem_of_getElem? (i := 116) rfl)) rfl
theorem sl240 : Cond.selects "WordFunctionsModel" y240 y240 ∈ TG := tg_in (List.mem_append_left _ (List.mem_of_getElem? (i := 117) rfl)) rfl
theorem sl239 : Cond.selects "WordFunctionsModel" y239 y239 ∈ TG := tg_in (List.mem_append_left _ (List.mem_of_getElem? (i := 118) rfl)) rfl
theorem sl202 : Cond.selects "WordFunctionsModel" y202 y202 ∈ TG := tg_in (List.mem_append_left _ (List.mem_of_getElem? (i := 119) rfl)) rfl
theorem sl165 : Cond.selects "WordFunctionsModel" y165 y165 ∈ TG := tg_in (List.mem_append_left _ (List.mem_of_getElem? (i := 120) rfl)) rfl
theorem sl203 : Cond.selects "WordFunctionsModel" y203 y203 ∈ TG := tg_in (List.mem_append_left _ (List.mem_of_getElem? (i := 121) rfl)) rfl
theorem sl245 : Cond.selects "WordFunctionsModel" y245 y245 ∈ TG := tg_in (List.mem_append_left _ (List.mem_of_getElem? (i := 122) rfl)) rfl
theorem sl184 : Cond.selects "WordFunctionsModel" y184 y184 ∈ TG := tg_in (List.mem_append_left _ (List.mem_of_getElem? (i := 123) rfl)) rfl
theorem sl244 : Cond.selects "WordFunctionsModel" y244 y244 ∈ TG := tg_in (List.mem_append_left _ (List.mem_of_getElem? (i := 124) rfl)) rfl
theorem sl187 : Cond.selects "WordFunctionsModel" y187 y187 ∈ TG := tg_in (List.mem_append_left _ (List.mem_of_getElem? (i := 125) rfl)) rfl
theorem sl186 : Cond.selects "WordFunctionsModel" y186 y186 ∈ TG := tg_in (List.mem_append_left _ (List.mem_of_getElem? (i := 126) rfl)) rfl
theorem sl225 : Cond.selects "WordFunctionsModel" y225 y225 ∈ TG := tg_in (List.mem_append_left _ (List.mem_of_getElem? (i := 127) rfl)) rfl
