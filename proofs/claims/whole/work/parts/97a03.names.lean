/-! the methods: name, code, locals, what they answer, how much they make; the classes; what the links say, held against the tables -/
def br_md (j : Nat) : MethodName × ByteArray × Nat × Option FieldType × Nat × Nat := (bif Nat.blt j 150 then (bif Nat.blt j 75 then (bif Nat.blt j 37 then (bif Nat.blt j 18 then (bif Nat.blt j 9 then (bif Nat.blt j 4 then (bif Nat.blt j 2 then (bif Nat.blt j 1 then (⟨"BloomRooms", "<init>", "()V"⟩, prog_1_method_1_code, 2, none, 160, 174333) else ((⟨"", "", ""⟩, code, 0, none, 0, 0) : MethodName × ByteArray × Nat × Option FieldType × Nat × Nat)) else (bif Nat.blt j 3 then (⟨"BloomRooms$World", "<init>", "()V"⟩, prog_12_method_1_code, 2, none, 42, 1284) else (⟨"BloomRooms$Law", "<init>", "()V"⟩, prog_4_method_1_code, 1, none, 1, 18))) else (bif Nat.blt j 6 then (bif Nat.blt j 5 then (⟨"BloomRooms$Law", "clear", "()V"⟩, prog_4_method_2_code, 1, none, 0, 0) else (⟨"java/util/Arrays", "fill", "([II)V"⟩, prog_21_method_103_code, 4, none, 0, 0)) else (bif Nat.blt j 7 then (⟨"BloomRooms$Rules", "<init>", "()V"⟩, prog_7_method_1_code, 1, none, 1, 400) else (bif Nat.blt j 8 then (⟨"BloomRooms$Films", "<init>", "()V"⟩, prog_2_method_1_code, 1, none, 3, 72) else (⟨"BloomRooms$Marks", "<init>", "()V"⟩, prog_5_method_1_code, 1, none, 3, 120))))) else (bif Nat.blt j 13 then (bif Nat.blt j 11 then (bif Nat.blt j 10 then (⟨"BloomRooms$Trials", "<init>", "()V"⟩, prog_10_method_1_code, 1, none, 4, 80) else (⟨"BloomRooms$Reader", "<init>", "()V"⟩, prog_6_method_1_code, 1, none, 9, 2034)) else (bif Nat.blt j 12 then (⟨"BloomRooms$Tokens", "<init>", "()V"⟩, prog_9_method_1_code, 1, none, 4, 1600) else (⟨"BloomRooms$Sample", "<init>", "()V"⟩, prog_8_method_1_code, 1, none, 4, 138))) else (bif Nat.blt j 15 then (bif Nat.blt j 14 then (⟨"BloomRooms$Ways", "<init>", "()V"⟩, prog_11_method_1_code, 1, none, 2, 168042) else (⟨"BloomRooms$Fraction", "<init>", "()V"⟩, prog_3_method_1_code, 1, none, 0, 0)) else (bif Nat.blt j 16 then (⟨"BloomRooms", "room", "(IZ)I"⟩, prog_1_method_2_code, 3, (some .int), 0, 0) else (bif Nat.blt j 17 then (⟨"BloomRooms", "outside", "(III)Z"⟩, prog_1_method_49_code, 3, (some .boolean), 0, 0) else (⟨"BloomRooms", "refuse", "(I)I"⟩, prog_1_method_46_code, 2, (some .int), 0, 0)))))) else (bif Nat.blt j 27 then (bif Nat.blt j 22 then (bif Nat.blt j 20 then (bif Nat.blt j 19 then (⟨"BloomRooms$World", "addRoom", "(IZ)I"⟩, prog_12_method_3_code, 3, (some .int), 0, 0) else (⟨"BloomRooms", "child", "(III)I"⟩, prog_1_method_3_code, 4, (some .int), 0, 0)) else (bif Nat.blt j 21 then (⟨"BloomRooms$World", "addChild", "(III)I"⟩, prog_12_method_4_code, 4, (some .int), 0, 0) else (⟨"BloomRooms", "word", "(II)I"⟩, prog_1_method_4_code, 4, (some .int), 0, 0))) else (bif Nat.blt j 24 then (bif Nat.blt j 23 then (⟨"BloomRooms", "noChild", "(I)Z"⟩, prog_1_method_47_code, 2, (some .boolean), 0, 0) else (⟨"BloomRooms", "gone", "(I)I"⟩, prog_1_method_5_code, 2, (some .int), 0, 0)) else (bif Nat.blt j 25 then (⟨"BloomRooms", "of", "(II)I"⟩, prog_1_method_6_code, 3, (some .int), 0, 0) else (bif Nat.blt j 26 then (⟨"BloomRooms$World", "holdOf", "(LBloomRooms$Law;II)I"⟩, prog_12_method_7_code, 4, (some .int), 0, 0) else (⟨"BloomRooms", "at", "([II)I"⟩, prog_1_method_50_code, 2, (some .int), 0, 0))))) else (bif Nat.blt j 32 then (bif Nat.blt j 29 then (bif Nat.blt j 28 then (⟨"BloomRooms$World", "weeksOf", "(I)I"⟩, prog_12_method_5_code, 2, (some .int), 0, 0) else (⟨"BloomRooms$World", "forgetsOf", "(I)Z"⟩, prog_12_method_6_code, 3, (some .boolean), 0, 0)) else (bif Nat.blt j 30 then (⟨"BloomRooms$Law", "hold", "(IIZ)I"⟩, prog_4_method_5_code, 6, (some .int), 0, 0) else (bif Nat.blt j 31 then (⟨"java/lang/Math", "max", "(II)I"⟩, prog_16_method_65_code, 2, (some .int), 0, 0) else (⟨"BloomRooms$World", "growthOf", "(LBloomRooms$Law;II)I"⟩, prog_12_method_8_code, 4, (some .int), 0, 0)))) else (bif Nat.blt j 34 then (bif Nat.blt j 33 then (⟨"BloomRooms$Law", "growth", "(II)I"⟩, prog_4_method_8_code, 5, (some .int), 0, 0) else (⟨"BloomRooms$Law", "gives", "(II)I"⟩, prog_4_method_6_code, 3, (some .int), 0, 0)) else (bif Nat.blt j 35 then (⟨"BloomRooms$Law", "growsBy", "(I)I"⟩, prog_4_method_7_code, 2, (some .int), 0, 0) else (bif Nat.blt j 36 then (⟨"BloomRooms", "given", "(II)I"⟩, prog_1_method_7_code, 3, (some .int), 0, 0) else (⟨"BloomRooms", "feed", "(IIIII)I"⟩, prog_1_method_8_code, 7, (some .int), 0, 0))))))) else (bif Nat.blt j 56 then (bif Nat.blt j 46 then (bif Nat.blt j 41 then (bif Nat.blt j 39 then (bif Nat.blt j 38 then (⟨"BloomRooms$Tokens", "append", "(I)V"⟩, prog_9_method_2_code, 3, none, 0, 0) else (⟨"BloomRooms", "text", "(II)I"⟩, prog_1_method_9_code, 4, (some .int), 0, 0)) else (bif Nat.blt j 40 then (⟨"BloomRooms$Reader", "readLaw", "(I)Z"⟩, prog_6_method_2_code, 3, (some .boolean), 0, 0) else (⟨"BloomRooms$Reader", "begin", "(I)V"⟩, prog_6_method_4_code, 2, none, 0, 0))) else (bif Nat.blt j 43 then (bif Nat.blt j 42 then (⟨"BloomRooms$Tokens", "start", "(I)V"⟩, prog_9_method_3_code, 5, none, 0, 0) else (⟨"java/lang/Math", "min", "(II)I"⟩, prog_16_method_69_code, 2, (some .int), 0, 0)) else (bif Nat.blt j 44 then (⟨"BloomRooms$Tokens", "endOfRun", "(I)I"⟩, prog_9_method_8_code, 3, (some .int), 0, 0) else (bif Nat.blt j 45 then (⟨"BloomRooms$Tokens", "sign", "(I)I"⟩, prog_9_method_5_code, 2, (some .int), 0, 0) else (⟨"BloomRooms$Tokens", "isDigit", "(I)Z"⟩, prog_9_method_6_code, 1, (some .boolean), 0, 0))))) else (bif Nat.blt j 51 then (bif Nat.blt j 48 then (bif Nat.blt j 47 then (⟨"BloomRooms$Tokens", "isLetter", "(I)Z"⟩, prog_9_method_7_code, 1, (some .boolean), 0, 0) else (⟨"BloomRooms$Tokens", "keepToken", "(II)V"⟩, prog_9_method_9_code, 3, none, 0, 0)) else (bif Nat.blt j 49 then (⟨"BloomRooms$Tokens", "wordAt", "(II)I"⟩, prog_9_method_12_code, 8, (some .int), 0, 0) else (bif Nat.blt j 50 then (⟨"java/lang/String", "length", "()I"⟩, prog_17_method_54_code, 1, (some .int), 0, 0) else (⟨"java/lang/String", "coder", "()B"⟩, prog_17_method_152_code, 1, (some .byte), 0, 0)))) else (bif Nat.blt j 53 then (bif Nat.blt j 52 then (⟨"java/lang/String", "charAt", "(I)C"⟩, prog_17_method_56_code, 2, (some .char), 0, 0) else (⟨"java/lang/String", "isLatin1", "()Z"⟩, prog_17_method_154_code, 1, (some .boolean), 0, 0)) else (bif Nat.blt j 54 then (⟨"java/lang/StringLatin1", "charAt", "([BI)C"⟩, prog_18_method_2_code, 2, (some .char), 0, 0) else (bif Nat.blt j 55 then (⟨"java/lang/String", "checkIndex", "(II)V"⟩, prog_17_method_155_code, 2, none, 0, 0) else (⟨"jdk/internal/util/Preconditions", "checkIndex", "(IILjava/util/function/BiFunction;)I"⟩, prog_22_method_11_code, 3, (some .int), 0, 0)))))) else (bif Nat.blt j 65 then (bif Nat.blt j 60 then (bif Nat.blt j 58 then (bif Nat.blt j 57 then ((⟨"", "", ""⟩, code, 0, none, 0, 0) : MethodName × ByteArray × Nat × Option FieldType × Nat × Nat) else ((⟨"", "", ""⟩, code, 0, none, 0, 0) : MethodName × ByteArray × Nat × Option FieldType × Nat × Nat)) else (bif Nat.blt j 59 then ((⟨"", "", ""⟩, code, 0, none, 0, 0) : MethodName × ByteArray × Nat × Option FieldType × Nat × Nat) else (⟨"BloomRooms$Ways", "rowsOf", "(I)I"⟩, prog_11_method_4_code, 1, (some .int), 0, 0))) else (bif Nat.blt j 62 then (bif Nat.blt j 61 then (⟨"BloomRooms$Tokens", "signKind", "(I)I"⟩, prog_9_method_10_code, 1, (some .int), 0, 0) else (⟨"BloomRooms$Tokens", "numberAt", "(II)I"⟩, prog_9_method_11_code, 5, (some .int), 0, 0)) else (bif Nat.blt j 63 then (⟨"BloomRooms$Tokens", "advance", "()V"⟩, prog_9_method_4_code, 2, none, 0, 0) else (bif Nat.blt j 64 then (⟨"BloomRooms$Reader", "fails", "(I)Z"⟩, prog_6_method_5_code, 2, (some .boolean), 0, 0) else (⟨"BloomRooms$Reader", "takesLine", "()Z"⟩, prog_6_method_8_code, 2, (some .boolean), 0, 0))))) else (bif Nat.blt j 70 then (bif Nat.blt j 67 then (bif Nat.blt j 66 then (⟨"BloomRooms$Reader", "takesMoves", "(I)Z"⟩, prog_6_method_9_code, 3, (some .boolean), 0, 0) else (⟨"BloomRooms$Reader", "takes", "(I)Z"⟩, prog_6_method_6_code, 2, (some .boolean), 0, 0)) else (bif Nat.blt j 68 then (⟨"BloomRooms$Reader", "takesNumber", "(II)Z"⟩, prog_6_method_7_code, 3, (some .boolean), 0, 0) else (bif Nat.blt j 69 then (⟨"BloomRooms$Reader", "sets", "(II)Z"⟩, prog_6_method_11_code, 3, (some .boolean), 0, 0) else (⟨"BloomRooms$Reader", "takesWay", "(I)Z"⟩, prog_6_method_10_code, 2, (some .boolean), 0, 0)))) else (bif Nat.blt j 72 then (bif Nat.blt j 71 then (⟨"BloomRooms$Reader", "readRules", "(I)Z"⟩, prog_6_method_3_code, 3, (some .boolean), 0, 0) else (⟨"BloomRooms$Rules", "clear", "()V"⟩, prog_7_method_2_code, 1, none, 0, 0)) else (bif Nat.blt j 73 then (⟨"BloomRooms$Reader", "takesTest", "(I)Z"⟩, prog_6_method_12_code, 4, (some .boolean), 0, 0) else (bif Nat.blt j 74 then (⟨"BloomRooms$Reader", "takesPart", "(I)Z"⟩, prog_6_method_13_code, 4, (some .boolean), 0, 0) else (⟨"BloomRooms$Reader", "takesFact", "(I)Z"⟩, prog_6_method_14_code, 5, (some .boolean), 0, 0)))))))) else (bif Nat.blt j 112 then (bif Nat.blt j 93 then (bif Nat.blt j 84 then (bif Nat.blt j 79 then (bif Nat.blt j 77 then (bif Nat.blt j 76 then (⟨"BloomRooms$Rules", "add", "(II)V"⟩, prog_7_method_4_code, 3, none, 0, 0) else (⟨"BloomRooms$Law", "copy", "(LBloomRooms$Law;)V"⟩, prog_4_method_3_code, 2, none, 0, 0)) else (bif Nat.blt j 78 then (⟨"BloomRooms$Rules", "copy", "(LBloomRooms$Rules;)V"⟩, prog_7_method_3_code, 2, none, 0, 0) else (⟨"BloomRooms", "fault", "(I)I"⟩, prog_1_method_10_code, 2, (some .int), 0, 0))) else (bif Nat.blt j 81 then (bif Nat.blt j 80 then (⟨"BloomRooms", "year", "()I"⟩, prog_1_method_11_code, 1, (some .int), 0, 0) else (⟨"BloomRooms$World", "passYear", "()I"⟩, prog_12_method_9_code, 3, (some .int), 0, 0)) else (bif Nat.blt j 82 then (⟨"BloomRooms", "give", "(IIZ)I"⟩, prog_1_method_12_code, 4, (some .int), 0, 0) else (bif Nat.blt j 83 then (⟨"BloomRooms", "noTest", "(I)Z"⟩, prog_1_method_48_code, 1, (some .boolean), 0, 0) else (⟨"BloomRooms$World", "giveTest", "(IIZ)I"⟩, prog_12_method_11_code, 7, (some .int), 0, 0))))) else (bif Nat.blt j 88 then (bif Nat.blt j 86 then (bif Nat.blt j 85 then (⟨"BloomRooms$World", "draw", "(I)I"⟩, prog_12_method_10_code, 1, (some .int), 0, 0) else (⟨"BloomRooms$Law", "pointsOf", "(IIZ)I"⟩, prog_4_method_9_code, 6, (some .int), 0, 0)) else (bif Nat.blt j 87 then (⟨"BloomRooms$Law", "noise", "()I"⟩, prog_4_method_4_code, 1, (some .int), 0, 0) else (⟨"BloomRooms", "point", "(II)I"⟩, prog_1_method_13_code, 3, (some .int), 0, 0))) else (bif Nat.blt j 90 then (bif Nat.blt j 89 then (⟨"BloomRooms", "tell", "(III)I"⟩, prog_1_method_14_code, 5, (some .int), 0, 0) else (⟨"BloomRooms", "deal", "(ZII)I"⟩, prog_1_method_15_code, 4, (some .int), 0, 0)) else (bif Nat.blt j 91 then (⟨"BloomRooms$World", "dealByRooms", "(II)V"⟩, prog_12_method_15_code, 8, none, 0, 0) else (bif Nat.blt j 92 then (⟨"BloomRooms$World", "isDealt", "(II)Z"⟩, prog_12_method_12_code, 3, (some .boolean), 0, 0) else (⟨"BloomRooms$World", "dealByChildren", "(II)V"⟩, prog_12_method_14_code, 9, none, 0, 0)))))) else (bif Nat.blt j 102 then (bif Nat.blt j 97 then (bif Nat.blt j 95 then (bif Nat.blt j 94 then (⟨"BloomRooms$World", "dealtOnes", "(I)I"⟩, prog_12_method_13_code, 4, (some .int), 0, 0) else (⟨"BloomRooms$World", "namedOnes", "()I"⟩, prog_12_method_16_code, 3, (some .int), 0, 0)) else (bif Nat.blt j 96 then (⟨"BloomRooms", "read", "(III)I"⟩, prog_1_method_16_code, 5, (some .int), 0, 0) else (⟨"BloomRooms$World", "gather", "(LBloomRooms$Sample;IIZ)V"⟩, prog_12_method_20_code, 7, none, 0, 0))) else (bif Nat.blt j 99 then (bif Nat.blt j 98 then (⟨"BloomRooms$Sample", "clear", "()V"⟩, prog_8_method_2_code, 1, none, 0, 0) else (⟨"BloomRooms$Law", "isEnd", "(I)Z"⟩, prog_4_method_10_code, 2, (some .boolean), 0, 0)) else (bif Nat.blt j 100 then (⟨"BloomRooms$World", "isRead", "(III)Z"⟩, prog_12_method_19_code, 5, (some .boolean), 0, 0) else (bif Nat.blt j 101 then (⟨"BloomRooms$Rules", "isAnyTrue", "(ZIIII)Z"⟩, prog_7_method_5_code, 10, (some .boolean), 0, 0) else (⟨"BloomRooms$Rules", "push", "(IZ)I"⟩, prog_7_method_6_code, 2, (some .int), 0, 0))))) else (bif Nat.blt j 107 then (bif Nat.blt j 104 then (bif Nat.blt j 103 then (⟨"BloomRooms$Sample", "add", "(IIZ)V"⟩, prog_8_method_3_code, 4, none, 0, 0) else (⟨"BloomRooms$Sample", "namedOnes", "()I"⟩, prog_8_method_4_code, 3, (some .int), 0, 0)) else (bif Nat.blt j 105 then (⟨"BloomRooms", "grew", "(III)I"⟩, prog_1_method_17_code, 4, (some .int), 0, 0) else (bif Nat.blt j 106 then (⟨"BloomRooms", "effect", "(III)I"⟩, prog_1_method_18_code, 4, (some .int), 0, 0) else (⟨"BloomRooms$Sample", "dealtAnew", "(LBloomRooms$Fraction;LBloomRooms$Ways;)V"⟩, prog_8_method_9_code, 5, none, 0, 0)))) else (bif Nat.blt j 109 then (bif Nat.blt j 108 then (⟨"BloomRooms$Fraction", "clear", "()V"⟩, prog_3_method_3_code, 1, none, 0, 0) else (⟨"BloomRooms$Sample", "isSplit", "()Z"⟩, prog_8_method_5_code, 2, (some .boolean), 0, 0)) else (bif Nat.blt j 110 then (⟨"BloomRooms$Sample", "lookAt", "(I)V"⟩, prog_8_method_7_code, 3, none, 0, 0) else (bif Nat.blt j 111 then (⟨"BloomRooms$Sample", "worthOfChosen", "(I)I"⟩, prog_8_method_12_code, 4, (some .int), 0, 0) else (⟨"BloomRooms$Sample", "choosesNamed", "()Z"⟩, prog_8_method_10_code, 1, (some .boolean), 0, 0))))))) else (bif Nat.blt j 131 then (bif Nat.blt j 121 then (bif Nat.blt j 116 then (bif Nat.blt j 114 then (bif Nat.blt j 113 then (⟨"BloomRooms$Sample", "worth", "(I)I"⟩, prog_8_method_11_code, 2, (some .int), 0, 0) else (⟨"BloomRooms$Ways", "begin", "(I)V"⟩, prog_11_method_2_code, 2, none, 0, 0)) else (bif Nat.blt j 115 then (⟨"BloomRooms$Sample", "offerRoom", "(LBloomRooms$Ways;I)V"⟩, prog_8_method_13_code, 6, none, 0, 0) else (⟨"BloomRooms$Ways", "open", "(I)V"⟩, prog_11_method_3_code, 4, none, 0, 0))) else (bif Nat.blt j 118 then (bif Nat.blt j 117 then (⟨"java/util/Arrays", "fill", "([JIIJ)V"⟩, prog_21_method_102_code, 6, none, 0, 0) else (⟨"java/util/Arrays", "rangeCheck", "(III)V"⟩, prog_21_method_30_code, 3, none, 0, 0)) else (bif Nat.blt j 119 then (⟨"BloomRooms$Ways", "offer", "(III)V"⟩, prog_11_method_5_code, 5, none, 0, 0) else (bif Nat.blt j 120 then (⟨"BloomRooms$Ways", "spread", "(IIII)V"⟩, prog_11_method_6_code, 9, none, 0, 0) else (⟨"BloomRooms$Ways", "close", "(I)V"⟩, prog_11_method_7_code, 3, none, 0, 0))))) else (bif Nat.blt j 126 then (bif Nat.blt j 123 then (bif Nat.blt j 122 then (⟨"BloomRooms$Ways", "reaching", "()J"⟩, prog_11_method_8_code, 1, (some .long), 0, 0) else (⟨"BloomRooms$Ways", "all", "()J"⟩, prog_11_method_9_code, 4, (some .long), 0, 0)) else (bif Nat.blt j 124 then (⟨"BloomRooms$Fraction", "become", "(JJ)V"⟩, prog_3_method_5_code, 7, none, 0, 0) else (bif Nat.blt j 125 then (⟨"java/lang/Math", "abs", "(J)J"⟩, prog_16_method_61_code, 2, (some .long), 0, 0) else (⟨"BloomRooms$Fraction", "commonDivisor", "(JJ)J"⟩, prog_3_method_10_code, 7, (some .long), 0, 0)))) else (bif Nat.blt j 128 then (bif Nat.blt j 127 then (⟨"BloomRooms$Sample", "dealtAnewByRooms", "(LBloomRooms$Fraction;)V"⟩, prog_8_method_14_code, 7, none, 0, 0) else (⟨"BloomRooms$Sample", "meanOfRoom", "()I"⟩, prog_8_method_8_code, 1, (some .int), 0, 0)) else (bif Nat.blt j 129 then (⟨"BloomRooms$Sample", "setsReaching", "([IIIII)I"⟩, prog_8_method_15_code, 5, (some .int), 0, 0) else (bif Nat.blt j 130 then (⟨"BloomRooms$Sample", "choices", "(II)I"⟩, prog_8_method_16_code, 4, (some .int), 0, 0) else (⟨"BloomRooms$Sample", "difference", "(LBloomRooms$Fraction;)V"⟩, prog_8_method_6_code, 10, none, 0, 0)))))) else (bif Nat.blt j 140 then (bif Nat.blt j 135 then (bif Nat.blt j 133 then (bif Nat.blt j 132 then (⟨"BloomRooms$Fraction", "subtract", "(LBloomRooms$Fraction;)V"⟩, prog_3_method_7_code, 2, none, 0, 0) else (⟨"BloomRooms$Fraction", "isNone", "()Z"⟩, prog_3_method_2_code, 1, (some .boolean), 0, 0)) else (bif Nat.blt j 134 then (⟨"BloomRooms", "sure", "()I"⟩, prog_1_method_19_code, 1, (some .int), 0, 0) else (⟨"BloomRooms$Fraction", "thousandths", "()I"⟩, prog_3_method_8_code, 1, (some .int), 0, 0))) else (bif Nat.blt j 137 then (bif Nat.blt j 136 then (⟨"BloomRooms", "upper", "()J"⟩, prog_1_method_20_code, 1, (some .long), 0, 0) else (⟨"BloomRooms", "lower", "()J"⟩, prog_1_method_21_code, 1, (some .long), 0, 0)) else (bif Nat.blt j 138 then (⟨"BloomRooms", "looks", "(I)I"⟩, prog_1_method_22_code, 2, (some .int), 0, 0) else (bif Nat.blt j 139 then (⟨"BloomRooms", "countLooks", "()I"⟩, prog_1_method_52_code, 4, (some .int), 0, 0) else (⟨"BloomRooms", "findBest", "(LBloomRooms$Fraction;)I"⟩, prog_1_method_53_code, 5, (some .int), 0, 0))))) else (bif Nat.blt j 145 then (bif Nat.blt j 142 then (bif Nat.blt j 141 then (⟨"BloomRooms$Fraction", "against", "(LBloomRooms$Fraction;)I"⟩, prog_3_method_9_code, 19, (some .int), 0, 0) else (⟨"java/lang/Math", "floorDiv", "(JJ)J"⟩, prog_16_method_49_code, 6, (some .long), 0, 0)) else (bif Nat.blt j 143 then (⟨"java/lang/Long", "compare", "(JJ)I"⟩, prog_15_method_42_code, 4, (some .int), 0, 0) else (bif Nat.blt j 144 then (⟨"BloomRooms$Fraction", "copy", "(LBloomRooms$Fraction;)V"⟩, prog_3_method_4_code, 2, none, 0, 0) else (⟨"BloomRooms", "paid", "()I"⟩, prog_1_method_23_code, 1, (some .int), 0, 0)))) else (bif Nat.blt j 147 then (bif Nat.blt j 146 then (⟨"BloomRooms", "payForLooks", "(LBloomRooms$Fraction;)V"⟩, prog_1_method_54_code, 2, none, 0, 0) else (⟨"java/lang/Math", "min", "(JJ)J"⟩, prog_16_method_70_code, 4, (some .long), 0, 0)) else (bif Nat.blt j 148 then (⟨"BloomRooms", "mean", "(III)I"⟩, prog_1_method_24_code, 4, (some .int), 0, 0) else (bif Nat.blt j 149 then (⟨"BloomRooms", "film", "(IZI)I"⟩, prog_1_method_25_code, 4, (some .int), 0, 0) else (⟨"BloomRooms$Films", "add", "(IZI)I"⟩, prog_2_method_2_code, 4, (some .int), 0, 0))))))))) else (bif Nat.blt j 225 then (bif Nat.blt j 187 then (bif Nat.blt j 168 then (bif Nat.blt j 159 then (bif Nat.blt j 154 then (bif Nat.blt j 152 then (bif Nat.blt j 151 then (⟨"BloomRooms", "hair", "(II)I"⟩, prog_1_method_26_code, 3, (some .int), 0, 0) else (⟨"BloomRooms$Films", "gather", "(LBloomRooms$Sample;I)V"⟩, prog_2_method_4_code, 4, none, 0, 0)) else (bif Nat.blt j 153 then (⟨"BloomRooms", "carried", "()I"⟩, prog_1_method_27_code, 1, (some .int), 0, 0) else (⟨"BloomRooms", "carry", "(LBloomRooms$Fraction;)V"⟩, prog_1_method_55_code, 3, none, 0, 0))) else (bif Nat.blt j 156 then (bif Nat.blt j 155 then (⟨"BloomRooms$Fraction", "add", "(LBloomRooms$Fraction;)V"⟩, prog_3_method_6_code, 2, none, 0, 0) else (⟨"BloomRooms", "enough", "(II)I"⟩, prog_1_method_28_code, 3, (some .int), 0, 0)) else (bif Nat.blt j 157 then (⟨"BloomRooms", "mark", "(III)I"⟩, prog_1_method_29_code, 4, (some .int), 0, 0) else (bif Nat.blt j 158 then (⟨"BloomRooms$Marks", "add", "(III)I"⟩, prog_5_method_2_code, 4, (some .int), 0, 0) else (⟨"BloomRooms", "same", "(I)I"⟩, prog_1_method_30_code, 2, (some .int), 0, 0))))) else (bif Nat.blt j 163 then (bif Nat.blt j 161 then (bif Nat.blt j 160 then (⟨"BloomRooms$World", "gatherMarked", "(LBloomRooms$Sample;I)V"⟩, prog_12_method_21_code, 5, none, 0, 0) else (⟨"BloomRooms$Marks", "latestOf", "(II)I"⟩, prog_5_method_4_code, 4, (some .int), 0, 0)) else (bif Nat.blt j 162 then (⟨"BloomRooms", "trial", "(IIIZ)I"⟩, prog_1_method_31_code, 5, (some .int), 0, 0) else (⟨"BloomRooms$Trials", "add", "(IIIZ)I"⟩, prog_10_method_2_code, 5, (some .int), 0, 0))) else (bif Nat.blt j 165 then (bif Nat.blt j 164 then (⟨"BloomRooms", "curve", "(Z)I"⟩, prog_1_method_32_code, 2, (some .int), 0, 0) else (⟨"BloomRooms$Trials", "slope", "(LBloomRooms$Fraction;ZI)V"⟩, prog_10_method_4_code, 17, none, 0, 0)) else (bif Nat.blt j 166 then (⟨"BloomRooms", "edge", "(ZZ)I"⟩, prog_1_method_33_code, 3, (some .int), 0, 0) else (bif Nat.blt j 167 then (⟨"BloomRooms$Trials", "outermost", "(LBloomRooms$Fraction;LBloomRooms$Fraction;ZZ)V"⟩, prog_10_method_5_code, 7, none, 0, 0) else (⟨"BloomRooms", "keep", "(I)I"⟩, prog_1_method_34_code, 2, (some .int), 0, 0)))))) else (bif Nat.blt j 177 then (bif Nat.blt j 172 then (bif Nat.blt j 170 then (bif Nat.blt j 169 then (⟨"BloomRooms", "fits", "(III)I"⟩, prog_1_method_35_code, 4, (some .int), 0, 0) else (⟨"BloomRooms$World", "countFitting", "(LBloomRooms$Law;II)I"⟩, prog_12_method_23_code, 7, (some .int), 0, 0)) else (bif Nat.blt j 171 then (⟨"BloomRooms$World", "foretold", "(LBloomRooms$Law;III)I"⟩, prog_12_method_22_code, 7, (some .int), 0, 0) else (⟨"java/lang/Math", "abs", "(I)I"⟩, prog_16_method_59_code, 1, (some .int), 0, 0))) else (bif Nat.blt j 174 then (bif Nat.blt j 173 then (⟨"BloomRooms", "likely", "(II)I"⟩, prog_1_method_36_code, 7, (some .int), 0, 0) else (⟨"BloomRooms", "needed", "(I)I"⟩, prog_1_method_37_code, 3, (some .int), 0, 0)) else (bif Nat.blt j 175 then (⟨"BloomRooms", "say", "(II)I"⟩, prog_1_method_38_code, 3, (some .int), 0, 0) else (bif Nat.blt j 176 then (⟨"BloomRooms$World", "isAnyBad", "()Z"⟩, prog_12_method_18_code, 2, (some .boolean), 0, 0) else (⟨"BloomRooms", "row", "(III)I"⟩, prog_1_method_39_code, 4, (some .int), 0, 0))))) else (bif Nat.blt j 182 then (bif Nat.blt j 179 then (bif Nat.blt j 178 then (⟨"java/util/Arrays", "fill", "([JJ)V"⟩, prog_21_method_101_code, 5, none, 0, 0) else (⟨"BloomRooms", "write", "(IIJ)J"⟩, prog_1_method_40_code, 5, (some .long), 0, 0)) else (bif Nat.blt j 180 then (⟨"BloomRooms", "cut", "(JI)J"⟩, prog_1_method_51_code, 3, (some .long), 0, 0) else (bif Nat.blt j 181 then (⟨"BloomRooms", "pour", "(II)I"⟩, prog_1_method_41_code, 4, (some .int), 0, 0) else (⟨"BloomRooms", "image", "(I)I"⟩, prog_1_method_42_code, 2, (some .int), 0, 0)))) else (bif Nat.blt j 184 then (bif Nat.blt j 183 then (⟨"BloomRooms$World", "copy", "(LBloomRooms$World;)V"⟩, prog_12_method_2_code, 3, none, 0, 0) else (⟨"BloomRooms$Films", "copy", "(LBloomRooms$Films;)V"⟩, prog_2_method_3_code, 2, none, 0, 0)) else (bif Nat.blt j 185 then (⟨"BloomRooms$Marks", "copy", "(LBloomRooms$Marks;)V"⟩, prog_5_method_3_code, 2, none, 0, 0) else (bif Nat.blt j 186 then (⟨"BloomRooms$Trials", "copy", "(LBloomRooms$Trials;)V"⟩, prog_10_method_3_code, 2, none, 0, 0) else (⟨"BloomRooms", "restore", "(I)I"⟩, prog_1_method_43_code, 2, (some .int), 0, 0))))))) else (bif Nat.blt j 206 then (bif Nat.blt j 196 then (bif Nat.blt j 191 then (bif Nat.blt j 189 then (bif Nat.blt j 188 then (⟨"BloomRooms", "status", "(I)I"⟩, prog_1_method_44_code, 2, (some .int), 0, 0) else (⟨"BloomRooms", "count", "(I)I"⟩, prog_1_method_45_code, 2, (some .int), 0, 0)) else (bif Nat.blt j 190 then (⟨"BloomRooms$World", "goneOnes", "()I"⟩, prog_12_method_17_code, 3, (some .int), 0, 0) else (⟨"BloomRoomsModel", "<init>", "()V"⟩, prog_14_method_4_code, 2, none, 12, 661733))) else (bif Nat.blt j 193 then (bif Nat.blt j 192 then (⟨"BloomRoomsModel", "room", "(IZ)I"⟩, prog_14_method_5_code, 4, (some .int), 0, 0) else (⟨"BloomRoomsModel", "within", "(JJJ)Z"⟩, prog_14_method_3_code, 6, (some .boolean), 0, 0)) else (bif Nat.blt j 194 then (⟨"BloomRoomsModel", "no", "(I)I"⟩, prog_14_method_2_code, 2, (some .int), 0, 0) else (bif Nat.blt j 195 then (⟨"BloomRoomsModel", "child", "(III)I"⟩, prog_14_method_8_code, 6, (some .int), 0, 0) else (⟨"BloomRoomsModel", "word", "(II)I"⟩, prog_14_method_9_code, 4, (some .int), 0, 0))))) else (bif Nat.blt j 201 then (bif Nat.blt j 198 then (bif Nat.blt j 197 then (⟨"BloomRoomsModel", "isChild", "(I)Z"⟩, prog_14_method_6_code, 2, (some .boolean), 0, 0) else (⟨"BloomRoomsModel", "gone", "(I)I"⟩, prog_14_method_10_code, 2, (some .int), 0, 0)) else (bif Nat.blt j 199 then (⟨"BloomRoomsModel", "of", "(II)I"⟩, prog_14_method_13_code, 3, (some .int), 0, 0) else (bif Nat.blt j 200 then (⟨"BloomRoomsModel", "holdOf", "(III)I"⟩, prog_14_method_11_code, 6, (some .int), 0, 0) else (⟨"BloomRoomsModel", "growsOf", "(III)I"⟩, prog_14_method_12_code, 7, (some .int), 0, 0)))) else (bif Nat.blt j 203 then (bif Nat.blt j 202 then (⟨"BloomRoomsModel", "given", "(II)I"⟩, prog_14_method_14_code, 3, (some .int), 0, 0) else (⟨"BloomRoomsModel", "feed", "(IIIII)I"⟩, prog_14_method_15_code, 8, (some .int), 0, 0)) else (bif Nat.blt j 204 then (⟨"BloomRoomsModel", "text", "(II)I"⟩, prog_14_method_34_code, 6, (some .int), 0, 0) else (bif Nat.blt j 205 then (⟨"BloomRoomsModel", "next", "()V"⟩, prog_14_method_21_code, 1, none, 0, 0) else (⟨"BloomRoomsModel", "see", "(I)I"⟩, prog_14_method_16_code, 2, (some .int), 0, 0)))))) else (bif Nat.blt j 215 then (bif Nat.blt j 210 then (bif Nat.blt j 208 then (bif Nat.blt j 207 then (⟨"BloomRoomsModel", "isSmall", "(I)Z"⟩, prog_14_method_17_code, 1, (some .boolean), 0, 0) else (⟨"BloomRoomsModel", "keyAt", "()I"⟩, prog_14_method_19_code, 4, (some .int), 0, 0)) else (bif Nat.blt j 209 then (⟨"BloomRoomsModel", "isDigit", "(I)Z"⟩, prog_14_method_18_code, 1, (some .boolean), 0, 0) else (⟨"BloomRoomsModel", "signOf", "(I)I"⟩, prog_14_method_20_code, 1, (some .int), 0, 0))) else (bif Nat.blt j 212 then (bif Nat.blt j 211 then (⟨"BloomRoomsModel", "readLine", "()V"⟩, prog_14_method_28_code, 5, none, 0, 0) else (⟨"BloomRoomsModel", "fails", "(I)V"⟩, prog_14_method_22_code, 2, none, 0, 0)) else (bif Nat.blt j 213 then (⟨"BloomRoomsModel", "needs", "(I)V"⟩, prog_14_method_25_code, 2, none, 0, 0) else (bif Nat.blt j 214 then (⟨"BloomRoomsModel", "eats", "(I)Z"⟩, prog_14_method_24_code, 2, (some .boolean), 0, 0) else (⟨"BloomRoomsModel", "is", "(I)Z"⟩, prog_14_method_23_code, 2, (some .boolean), 0, 0))))) else (bif Nat.blt j 220 then (bif Nat.blt j 217 then (bif Nat.blt j 216 then (⟨"BloomRoomsModel", "reads", "(II)I"⟩, prog_14_method_26_code, 4, (some .int), 0, 0) else (⟨"BloomRoomsModel", "mostOf", "(I)I"⟩, prog_14_method_27_code, 1, (some .int), 0, 0)) else (bif Nat.blt j 218 then (⟨"BloomRoomsModel", "readRule", "()V"⟩, prog_14_method_33_code, 2, none, 0, 0) else (bif Nat.blt j 219 then (⟨"BloomRoomsModel", "readTest", "()V"⟩, prog_14_method_30_code, 1, none, 0, 0) else (⟨"BloomRoomsModel", "readPart", "()V"⟩, prog_14_method_31_code, 1, none, 0, 0)))) else (bif Nat.blt j 222 then (bif Nat.blt j 221 then (⟨"BloomRoomsModel", "readFact", "()V"⟩, prog_14_method_32_code, 4, none, 0, 0) else (⟨"BloomRoomsModel", "emit", "(II)V"⟩, prog_14_method_29_code, 3, none, 0, 0)) else (bif Nat.blt j 223 then (⟨"BloomRoomsModel", "fault", "(I)I"⟩, prog_14_method_35_code, 2, (some .int), 0, 0) else (bif Nat.blt j 224 then (⟨"BloomRoomsModel", "year", "()I"⟩, prog_14_method_38_code, 2, (some .int), 0, 0) else (⟨"BloomRoomsModel", "kept", "(III)I"⟩, prog_14_method_37_code, 3, (some .int), 0, 0)))))))) else (bif Nat.blt j 263 then (bif Nat.blt j 244 then (bif Nat.blt j 234 then (bif Nat.blt j 229 then (bif Nat.blt j 227 then (bif Nat.blt j 226 then (⟨"BloomRoomsModel", "give", "(IIZ)I"⟩, prog_14_method_40_code, 8, (some .int), 0, 0) else (⟨"BloomRoomsModel", "isTest", "(I)Z"⟩, prog_14_method_7_code, 1, (some .boolean), 0, 0)) else (bif Nat.blt j 228 then (⟨"BloomRoomsModel", "draw", "()I"⟩, prog_14_method_36_code, 1, (some .int), 0, 0) else (⟨"BloomRoomsModel", "point", "(II)I"⟩, prog_14_method_41_code, 3, (some .int), 0, 0))) else (bif Nat.blt j 231 then (bif Nat.blt j 230 then (⟨"BloomRoomsModel", "pointOf", "(II)I"⟩, prog_14_method_39_code, 3, (some .int), 0, 0) else (⟨"BloomRoomsModel", "tell", "(III)I"⟩, prog_14_method_42_code, 5, (some .int), 0, 0)) else (bif Nat.blt j 232 then (⟨"BloomRoomsModel", "deal", "(ZII)I"⟩, prog_14_method_47_code, 5, (some .int), 0, 0) else (bif Nat.blt j 233 then (⟨"BloomRoomsModel", "dealsRooms", "(I)V"⟩, prog_14_method_46_code, 7, none, 0, 0) else (⟨"BloomRoomsModel", "isDealt", "(I)Z"⟩, prog_14_method_43_code, 2, (some .boolean), 0, 0))))) else (bif Nat.blt j 239 then (bif Nat.blt j 236 then (bif Nat.blt j 235 then (⟨"BloomRoomsModel", "dealsIn", "(II)V"⟩, prog_14_method_45_code, 7, none, 0, 0) else (⟨"BloomRoomsModel", "namedOf", "()I"⟩, prog_14_method_44_code, 3, (some .int), 0, 0)) else (bif Nat.blt j 237 then (⟨"BloomRoomsModel", "sure", "()I"⟩, prog_14_method_52_code, 1, (some .int), 0, 0) else (bif Nat.blt j 238 then (⟨"BloomRoomsModel", "upper", "()J"⟩, prog_14_method_53_code, 1, (some .long), 0, 0) else (⟨"BloomRoomsModel", "lower", "()J"⟩, prog_14_method_54_code, 1, (some .long), 0, 0)))) else (bif Nat.blt j 241 then (bif Nat.blt j 240 then (⟨"BloomRoomsModel", "read", "(III)I"⟩, prog_14_method_61_code, 7, (some .int), 0, 0) else (⟨"BloomRoomsModel", "looksAt", "(IIZ)V"⟩, prog_14_method_57_code, 6, none, 0, 0)) else (bif Nat.blt j 242 then (⟨"BloomRoomsModel", "isOut", "(III)Z"⟩, prog_14_method_56_code, 7, (some .boolean), 0, 0) else (bif Nat.blt j 243 then (⟨"BloomRoomsModel", "fact", "(IIII)Z"⟩, prog_14_method_55_code, 5, (some .boolean), 0, 0) else (⟨"BloomRoomsModel", "isEnd", "(II)Z"⟩, prog_14_method_58_code, 4, (some .boolean), 0, 0)))))) else (bif Nat.blt j 253 then (bif Nat.blt j 248 then (bif Nat.blt j 246 then (bif Nat.blt j 245 then (⟨"BloomRoomsModel", "isNamed", "(I)Z"⟩, prog_14_method_60_code, 2, (some .boolean), 0, 0) else (⟨"BloomRoomsModel", "grew", "(III)I"⟩, prog_14_method_62_code, 4, (some .int), 0, 0)) else (bif Nat.blt j 247 then (⟨"BloomRoomsModel", "grewOf", "(III)I"⟩, prog_14_method_59_code, 4, (some .int), 0, 0) else (⟨"BloomRoomsModel", "effect", "(III)I"⟩, prog_14_method_74_code, 4, (some .int), 0, 0))) else (bif Nat.blt j 250 then (bif Nat.blt j 249 then (⟨"BloomRoomsModel", "tellsMade", "(II)I"⟩, prog_14_method_73_code, 8, (some .int), 0, 0) else (⟨"BloomRoomsModel", "tellsEffect", "(II)I"⟩, prog_14_method_64_code, 12, (some .int), 0, 0)) else (bif Nat.blt j 251 then (⟨"BloomRoomsModel", "tellsMeans", "(JJJJ)I"⟩, prog_14_method_63_code, 9, (some .int), 0, 0) else (bif Nat.blt j 252 then (⟨"BloomRoomsModel", "tells", "(JJ)I"⟩, prog_14_method_49_code, 7, (some .int), 0, 0) else (⟨"BloomRoomsModel", "common", "(JJ)J"⟩, prog_14_method_48_code, 10, (some .long), 0, 0))))) else (bif Nat.blt j 258 then (bif Nat.blt j 255 then (bif Nat.blt j 254 then (⟨"BloomRoomsModel", "tellsAnew", "(II)I"⟩, prog_14_method_70_code, 11, (some .int), 0, 0) else (⟨"BloomRoomsModel", "leastGrew", "(II)I"⟩, prog_14_method_69_code, 5, (some .int), 0, 0)) else (bif Nat.blt j 256 then (⟨"BloomRoomsModel", "clearsWays", "()V"⟩, prog_14_method_65_code, 3, none, 0, 0) else (bif Nat.blt j 257 then (⟨"BloomRoomsModel", "adds", "(II)V"⟩, prog_14_method_66_code, 6, none, 0, 0) else (⟨"BloomRoomsModel", "closes", "(I)V"⟩, prog_14_method_67_code, 4, none, 0, 0)))) else (bif Nat.blt j 260 then (bif Nat.blt j 259 then (⟨"BloomRoomsModel", "tellsWays", "(I)I"⟩, prog_14_method_68_code, 7, (some .int), 0, 0) else (⟨"BloomRoomsModel", "tellsRooms", "(II)I"⟩, prog_14_method_72_code, 16, (some .int), 0, 0)) else (bif Nat.blt j 261 then (⟨"BloomRoomsModel", "ofRoom", "(IIII)I"⟩, prog_14_method_71_code, 7, (some .int), 0, 0) else (bif Nat.blt j 262 then (⟨"BloomRoomsModel", "looks", "(I)I"⟩, prog_14_method_76_code, 6, (some .int), 0, 0) else (⟨"BloomRoomsModel", "findsLooks", "()V"⟩, prog_14_method_75_code, 3, none, 0, 0))))))) else (bif Nat.blt j 282 then (bif Nat.blt j 272 then (bif Nat.blt j 267 then (bif Nat.blt j 265 then (bif Nat.blt j 264 then (⟨"BloomRoomsModel", "isLess", "(JJJJ)Z"⟩, prog_14_method_51_code, 25, (some .boolean), 0, 0) else (⟨"BloomRoomsModel", "floor", "(JJ)J"⟩, prog_14_method_50_code, 6, (some .long), 0, 0)) else (bif Nat.blt j 266 then (⟨"BloomRoomsModel", "paid", "()I"⟩, prog_14_method_78_code, 1, (some .int), 0, 0) else (⟨"BloomRoomsModel", "tellsPaid", "()I"⟩, prog_14_method_77_code, 3, (some .int), 0, 0))) else (bif Nat.blt j 269 then (bif Nat.blt j 268 then (⟨"BloomRoomsModel", "mean", "(III)I"⟩, prog_14_method_79_code, 5, (some .int), 0, 0) else (⟨"BloomRoomsModel", "film", "(IZI)I"⟩, prog_14_method_80_code, 5, (some .int), 0, 0)) else (bif Nat.blt j 270 then (⟨"BloomRoomsModel", "hair", "(II)I"⟩, prog_14_method_84_code, 3, (some .int), 0, 0) else (bif Nat.blt j 271 then (⟨"BloomRoomsModel", "tellsHair", "(I)I"⟩, prog_14_method_82_code, 2, (some .int), 0, 0) else (⟨"BloomRoomsModel", "filmed", "(IIZ)J"⟩, prog_14_method_81_code, 7, (some .long), 0, 0))))) else (bif Nat.blt j 277 then (bif Nat.blt j 274 then (bif Nat.blt j 273 then (⟨"BloomRoomsModel", "tellsBlind", "(I)I"⟩, prog_14_method_83_code, 4, (some .int), 0, 0) else (⟨"BloomRoomsModel", "carried", "()I"⟩, prog_14_method_86_code, 1, (some .int), 0, 0)) else (bif Nat.blt j 275 then (⟨"BloomRoomsModel", "tellsCarried", "()I"⟩, prog_14_method_85_code, 11, (some .int), 0, 0) else (bif Nat.blt j 276 then (⟨"BloomRoomsModel", "enough", "(II)I"⟩, prog_14_method_87_code, 13, (some .int), 0, 0) else (⟨"BloomRoomsModel", "mark", "(III)I"⟩, prog_14_method_88_code, 5, (some .int), 0, 0)))) else (bif Nat.blt j 279 then (bif Nat.blt j 278 then (⟨"BloomRoomsModel", "same", "(I)I"⟩, prog_14_method_90_code, 13, (some .int), 0, 0) else (⟨"BloomRoomsModel", "markOf", "(II)I"⟩, prog_14_method_89_code, 4, (some .int), 0, 0)) else (bif Nat.blt j 280 then (⟨"BloomRoomsModel", "trial", "(IIIZ)I"⟩, prog_14_method_91_code, 6, (some .int), 0, 0) else (bif Nat.blt j 281 then (⟨"BloomRoomsModel", "curve", "(Z)I"⟩, prog_14_method_93_code, 2, (some .int), 0, 0) else (⟨"BloomRoomsModel", "tellsCurve", "(ZI)I"⟩, prog_14_method_92_code, 16, (some .int), 0, 0)))))) else (bif Nat.blt j 291 then (bif Nat.blt j 286 then (bif Nat.blt j 284 then (bif Nat.blt j 283 then (⟨"BloomRoomsModel", "edge", "(ZZ)I"⟩, prog_14_method_94_code, 9, (some .int), 0, 0) else (⟨"BloomRoomsModel", "keep", "(I)I"⟩, prog_14_method_95_code, 3, (some .int), 0, 0)) else (bif Nat.blt j 285 then (⟨"BloomRoomsModel", "fits", "(III)I"⟩, prog_14_method_97_code, 4, (some .int), 0, 0) else (⟨"BloomRoomsModel", "fitsOf", "(III)I"⟩, prog_14_method_96_code, 9, (some .int), 0, 0))) else (bif Nat.blt j 288 then (bif Nat.blt j 287 then (⟨"BloomRoomsModel", "likely", "(II)I"⟩, prog_14_method_98_code, 7, (some .int), 0, 0) else (⟨"BloomRoomsModel", "needed", "(I)I"⟩, prog_14_method_99_code, 6, (some .int), 0, 0)) else (bif Nat.blt j 289 then (⟨"BloomRoomsModel", "say", "(II)I"⟩, prog_14_method_102_code, 8, (some .int), 0, 0) else (bif Nat.blt j 290 then (⟨"BloomRoomsModel", "says", "(II)I"⟩, prog_14_method_101_code, 5, (some .int), 0, 0) else (⟨"BloomRoomsModel", "isBad", "()Z"⟩, prog_14_method_100_code, 3, (some .boolean), 0, 0))))) else (bif Nat.blt j 296 then (bif Nat.blt j 293 then (bif Nat.blt j 292 then (⟨"BloomRoomsModel", "row", "(III)I"⟩, prog_14_method_104_code, 5, (some .int), 0, 0) else (⟨"BloomRoomsModel", "write", "(IIJ)J"⟩, prog_14_method_105_code, 5, (some .long), 0, 0)) else (bif Nat.blt j 294 then (⟨"BloomRoomsModel", "cut", "(JI)J"⟩, prog_14_method_103_code, 3, (some .long), 0, 0) else (bif Nat.blt j 295 then (⟨"BloomRoomsModel", "pour", "(II)I"⟩, prog_14_method_106_code, 4, (some .int), 0, 0) else (⟨"BloomRoomsModel", "image", "(I)I"⟩, prog_14_method_107_code, 3, (some .int), 0, 0)))) else (bif Nat.blt j 298 then (bif Nat.blt j 297 then (⟨"BloomRoomsModel", "restore", "(I)I"⟩, prog_14_method_108_code, 3, (some .int), 0, 0) else (⟨"BloomRoomsModel", "status", "(I)I"⟩, prog_14_method_109_code, 2, (some .int), 0, 0)) else (bif Nat.blt j 299 then (⟨"BloomRoomsModel", "count", "(I)I"⟩, prog_14_method_111_code, 2, (some .int), 0, 0) else (bif Nat.blt j 300 then (⟨"BloomRoomsModel", "goneOf", "()I"⟩, prog_14_method_110_code, 3, (some .int), 0, 0) else (⟨"BloomRoomsLaw", "law", "([I)Z"⟩, code, 4, (some .boolean), 0, 0))))))))))
def br_T0 : u_T := fun k => match k with
  | 0 => ("BloomRooms$Films", "way", "[I", true)
  | 1 => ("BloomRooms$Films", "named", "[Z", true)
  | 2 => ("BloomRooms$Films", "seen", "[I", true)
  | _ => ("BloomRooms$Films", "size", "I", false)
def br_Y0 : Nat → FieldType := fun k => match k with
  | 0 => .array .int
  | 1 => .array .boolean
  | 2 => .array .int
  | _ => .int
def br_T1 : u_T := fun k => match k with
  | 0 => ("BloomRooms$Fraction", "upper", "J", false)
  | _ => ("BloomRooms$Fraction", "lower", "J", false)
def br_Y1 : Nat → FieldType := fun k => match k with
  | 0 => .long
  | _ => .long
def br_T2 : u_T := fun k => match k with
  | 0 => ("BloomRooms$Law", "numbers", "[I", true)
  | _ => ("BloomRooms$Law", "lines", "I", false)
def br_Y2 : Nat → FieldType := fun k => match k with
  | 0 => .array .int
  | _ => .int
def br_T3 : u_T := fun k => match k with
  | 0 => ("BloomRooms$Marks", "child", "[I", true)
  | 1 => ("BloomRooms$Marks", "test", "[I", true)
  | 2 => ("BloomRooms$Marks", "points", "[I", true)
  | _ => ("BloomRooms$Marks", "size", "I", false)
def br_Y3 : Nat → FieldType := fun k => match k with
  | 0 => .array .int
  | 1 => .array .int
  | 2 => .array .int
  | _ => .int
def br_T4 : u_T := fun k => match k with
  | 0 => ("BloomRooms$Reader", "tokens", "LBloomRooms$Tokens;", true)
  | 1 => ("BloomRooms$Reader", "law", "LBloomRooms$Law;", true)
  | 2 => ("BloomRooms$Reader", "rules", "LBloomRooms$Rules;", true)
  | 3 => ("BloomRooms$Reader", "fault", "I", false)
  | 4 => ("BloomRooms$Reader", "place", "I", false)
  | _ => ("BloomRooms$Reader", "taken", "I", false)
def br_Y4 : Nat → FieldType := fun k => match k with
  | 0 => .object "BloomRooms$Tokens"
  | 1 => .object "BloomRooms$Law"
  | 2 => .object "BloomRooms$Rules"
  | 3 => .int
  | 4 => .int
  | _ => .int
def br_T5 : u_T := fun k => match k with
  | 0 => ("BloomRooms$Rules", "steps", "[I", true)
  | 1 => ("BloomRooms$Rules", "size", "I", false)
  | _ => ("BloomRooms$Rules", "rules", "I", false)
def br_Y5 : Nat → FieldType := fun k => match k with
  | 0 => .array .int
  | 1 => .int
  | _ => .int
def br_T6 : u_T := fun k => match k with
  | 0 => ("BloomRooms$Sample", "room", "[I", true)
  | 1 => ("BloomRooms$Sample", "value", "[I", true)
  | 2 => ("BloomRooms$Sample", "named", "[Z", true)
  | 3 => ("BloomRooms$Sample", "size", "I", false)
  | 4 => ("BloomRooms$Sample", "ones", "I", false)
  | 5 => ("BloomRooms$Sample", "namedHere", "I", false)
  | 6 => ("BloomRooms$Sample", "total", "I", false)
  | 7 => ("BloomRooms$Sample", "least", "I", false)
  | 8 => ("BloomRooms$Sample", "most", "I", false)
  | _ => ("BloomRooms$Sample", "means", "[I", true)
def br_Y6 : Nat → FieldType := fun k => match k with
  | 0 => .array .int
  | 1 => .array .int
  | 2 => .array .boolean
  | 3 => .int
  | 4 => .int
  | 5 => .int
  | 6 => .int
  | 7 => .int
  | 8 => .int
  | _ => .array .int
def br_T7 : u_T := fun k => match k with
  | 0 => ("BloomRooms$Tokens", "tape", "[B", true)
  | 1 => ("BloomRooms$Tokens", "size", "I", false)
  | 2 => ("BloomRooms$Tokens", "kinds", "[I", true)
  | 3 => ("BloomRooms$Tokens", "places", "[I", true)
  | 4 => ("BloomRooms$Tokens", "numbers", "[I", true)
  | 5 => ("BloomRooms$Tokens", "found", "I", false)
  | 6 => ("BloomRooms$Tokens", "length", "I", false)
  | 7 => ("BloomRooms$Tokens", "now", "I", false)
  | 8 => ("BloomRooms$Tokens", "kind", "I", false)
  | 9 => ("BloomRooms$Tokens", "place", "I", false)
  | _ => ("BloomRooms$Tokens", "number", "I", false)
def br_Y7 : Nat → FieldType := fun k => match k with
  | 0 => .array .byte
  | 1 => .int
  | 2 => .array .int
  | 3 => .array .int
  | 4 => .array .int
  | 5 => .int
  | 6 => .int
  | 7 => .int
  | 8 => .int
  | 9 => .int
  | _ => .int
def br_T8 : u_T := fun k => match k with
  | 0 => ("BloomRooms$Trials", "weeks", "[I", true)
  | 1 => ("BloomRooms$Trials", "effects", "[I", true)
  | 2 => ("BloomRooms$Trials", "sizes", "[I", true)
  | 3 => ("BloomRooms$Trials", "isPrinted", "[Z", true)
  | _ => ("BloomRooms$Trials", "count", "I", false)
def br_Y8 : Nat → FieldType := fun k => match k with
  | 0 => .array .int
  | 1 => .array .int
  | 2 => .array .int
  | 3 => .array .boolean
  | _ => .int
def br_T9 : u_T := fun k => match k with
  | 0 => ("BloomRooms$Ways", "table", "[J", true)
  | 1 => ("BloomRooms$Ways", "reach", "[I", true)
  | 2 => ("BloomRooms$Ways", "target", "I", false)
  | _ => ("BloomRooms$Ways", "width", "I", false)
def br_Y9 : Nat → FieldType := fun k => match k with
  | 0 => .array .long
  | 1 => .array .int
  | 2 => .int
  | _ => .int
def br_T10 : u_T := fun k => match k with
  | 0 => ("BloomRooms$World", "weeks", "[I", true)
  | 1 => ("BloomRooms$World", "forgets", "[Z", true)
  | 2 => ("BloomRooms$World", "rooms", "I", false)
  | 3 => ("BloomRooms$World", "room", "[I", true)
  | 4 => ("BloomRooms$World", "grade", "[I", true)
  | 5 => ("BloomRooms$World", "gift", "[I", true)
  | 6 => ("BloomRooms$World", "word", "[I", true)
  | 7 => ("BloomRooms$World", "gone", "[Z", true)
  | 8 => ("BloomRooms$World", "children", "I", false)
  | 9 => ("BloomRooms$World", "years", "I", false)
  | 10 => ("BloomRooms$World", "points", "[[I", true)
  | 11 => ("BloomRooms$World", "testYears", "[I", true)
  | 12 => ("BloomRooms$World", "law", "LBloomRooms$Law;", true)
  | 13 => ("BloomRooms$World", "kept", "[LBloomRooms$Law;", true)
  | 14 => ("BloomRooms$World", "isKept", "[Z", true)
  | 15 => ("BloomRooms$World", "rules", "LBloomRooms$Rules;", true)
  | 16 => ("BloomRooms$World", "films", "LBloomRooms$Films;", true)
  | 17 => ("BloomRooms$World", "marks", "LBloomRooms$Marks;", true)
  | _ => ("BloomRooms$World", "trials", "LBloomRooms$Trials;", true)
def br_Y10 : Nat → FieldType := fun k => match k with
  | 0 => .array .int
  | 1 => .array .boolean
  | 2 => .int
  | 3 => .array .int
  | 4 => .array .int
  | 5 => .array .int
  | 6 => .array .int
  | 7 => .array .boolean
  | 8 => .int
  | 9 => .int
  | 10 => .array (.array .int)
  | 11 => .array .int
  | 12 => .object "BloomRooms$Law"
  | 13 => .array (.object "BloomRooms$Law")
  | 14 => .array .boolean
  | 15 => .object "BloomRooms$Rules"
  | 16 => .object "BloomRooms$Films"
  | 17 => .object "BloomRooms$Marks"
  | _ => .object "BloomRooms$Trials"
def br_T11 : u_T := fun k => match k with
  | 0 => ("BloomRooms", "world", "LBloomRooms$World;", true)
  | 1 => ("BloomRooms", "images", "[LBloomRooms$World;", true)
  | 2 => ("BloomRooms", "imaged", "[Z", true)
  | 3 => ("BloomRooms", "reader", "LBloomRooms$Reader;", true)
  | 4 => ("BloomRooms", "sample", "LBloomRooms$Sample;", true)
  | 5 => ("BloomRooms", "ways", "LBloomRooms$Ways;", true)
  | 6 => ("BloomRooms", "latest", "LBloomRooms$Fraction;", true)
  | 7 => ("BloomRooms", "first", "LBloomRooms$Fraction;", true)
  | 8 => ("BloomRooms", "second", "LBloomRooms$Fraction;", true)
  | 9 => ("BloomRooms", "rows", "[[J", true)
  | 10 => ("BloomRooms", "rowSorts", "[I", true)
  | 11 => ("BloomRooms", "rowSizes", "[I", true)
  | _ => ("BloomRooms", "refused", "[I", true)
def br_Y11 : Nat → FieldType := fun k => match k with
  | 0 => .object "BloomRooms$World"
  | 1 => .array (.object "BloomRooms$World")
  | 2 => .array .boolean
  | 3 => .object "BloomRooms$Reader"
  | 4 => .object "BloomRooms$Sample"
  | 5 => .object "BloomRooms$Ways"
  | 6 => .object "BloomRooms$Fraction"
  | 7 => .object "BloomRooms$Fraction"
  | 8 => .object "BloomRooms$Fraction"
  | 9 => .array (.array .long)
  | 10 => .array .int
  | 11 => .array .int
  | _ => .array .int
def br_T12 : u_T := fun k => match k with
  | 0 => ("BloomRoomsModel", "thrown", "I", false)
  | 1 => ("BloomRoomsModel", "refused", "[I", true)
  | 2 => ("BloomRoomsModel", "all", "[I", true)
  | 3 => ("BloomRoomsModel", "hasImage", "[Z", true)
  | 4 => ("BloomRoomsModel", "tape", "[I", true)
  | 5 => ("BloomRoomsModel", "fresh", "[I", true)
  | 6 => ("BloomRoomsModel", "taped", "I", false)
  | 7 => ("BloomRoomsModel", "at", "I", false)
  | 8 => ("BloomRoomsModel", "behind", "I", false)
  | 9 => ("BloomRoomsModel", "size", "I", false)
  | 10 => ("BloomRoomsModel", "kind", "I", false)
  | 11 => ("BloomRoomsModel", "number", "I", false)
  | 12 => ("BloomRoomsModel", "wrong", "I", false)
  | 13 => ("BloomRoomsModel", "wrongAt", "I", false)
  | 14 => ("BloomRoomsModel", "depth", "I", false)
  | 15 => ("BloomRoomsModel", "steps", "I", false)
  | 16 => ("BloomRoomsModel", "faultKind", "I", false)
  | 17 => ("BloomRoomsModel", "faultPlace", "I", false)
  | 18 => ("BloomRoomsModel", "drawn", "I", false)
  | 19 => ("BloomRoomsModel", "up", "J", false)
  | 20 => ("BloomRoomsModel", "low", "J", false)
  | 21 => ("BloomRoomsModel", "isRead", "[Z", true)
  | 22 => ("BloomRoomsModel", "pile", "[Z", true)
  | 23 => ("BloomRoomsModel", "ways", "[J", true)
  | 24 => ("BloomRoomsModel", "waysFull", "I", false)
  | 25 => ("BloomRoomsModel", "topRow", "I", false)
  | 26 => ("BloomRoomsModel", "widest", "I", false)
  | 27 => ("BloomRoomsModel", "roomMean", "[I", true)
  | 28 => ("BloomRoomsModel", "looked", "I", false)
  | 29 => ("BloomRoomsModel", "bestLook", "I", false)
  | 30 => ("BloomRoomsModel", "bestUp", "J", false)
  | 31 => ("BloomRoomsModel", "bestLow", "J", false)
  | 32 => ("BloomRoomsModel", "rowSort", "[I", true)
  | 33 => ("BloomRoomsModel", "rowMany", "[I", true)
  | _ => ("BloomRoomsModel", "cells", "[J", true)
def br_Y12 : Nat → FieldType := fun k => match k with
  | 0 => .int
  | 1 => .array .int
  | 2 => .array .int
  | 3 => .array .boolean
  | 4 => .array .int
  | 5 => .array .int
  | 6 => .int
  | 7 => .int
  | 8 => .int
  | 9 => .int
  | 10 => .int
  | 11 => .int
  | 12 => .int
  | 13 => .int
  | 14 => .int
  | 15 => .int
  | 16 => .int
  | 17 => .int
  | 18 => .int
  | 19 => .long
  | 20 => .long
  | 21 => .array .boolean
  | 22 => .array .boolean
  | 23 => .array .long
  | 24 => .int
  | 25 => .int
  | 26 => .int
  | 27 => .array .int
  | 28 => .int
  | 29 => .int
  | 30 => .long
  | 31 => .long
  | 32 => .array .int
  | 33 => .array .int
  | _ => .array .long
def br_cls : List vw_C := [("BloomRooms$Films", br_T0, 4), ("BloomRooms$Fraction", br_T1, 2), ("BloomRooms$Law", br_T2, 2), ("BloomRooms$Marks", br_T3, 4), ("BloomRooms$Reader", br_T4, 6), ("BloomRooms$Rules", br_T5, 3), ("BloomRooms$Sample", br_T6, 10), ("BloomRooms$Tokens", br_T7, 11), ("BloomRooms$Trials", br_T8, 5), ("BloomRooms$Ways", br_T9, 4), ("BloomRooms$World", br_T10, 19), ("BloomRooms", br_T11, 13), ("BloomRoomsModel", br_T12, 35)]
def br_tyc : List (List Nat) := [[2, 2, 2, 0], [1, 1], [2, 0], [2, 2, 2, 0], [2, 2, 2, 0, 0, 0], [2, 0, 0], [2, 2, 2, 0, 0, 0, 0, 0, 0, 2], [2, 0, 2, 2, 2, 0, 0, 0, 0, 0, 0], [2, 2, 2, 2, 0], [2, 2, 0, 0], [2, 2, 0, 2, 2, 2, 2, 2, 0, 0, 2, 2, 2, 2, 2, 2, 2, 2, 2], [2, 2, 2, 2, 2, 2, 2, 2, 2, 2, 2, 2, 2], [0, 2, 2, 2, 2, 2, 0, 0, 0, 0, 0, 0, 0, 0, 0, 0, 0, 0, 0, 1, 1, 2, 2, 2, 0, 0, 0, 2, 0, 0, 1, 1, 2, 2, 2]]
def br_is (i : Nat) (w : Jvm.Cond) : Bool := match lw_tbl[i]? with
  | some v => decide (v = w) && goodWord w
  | none => false
def br_gt : List Jvm.Cond := lw_tbl.filter goodWord
theorem br_is_mem {i : Nat} {w : Jvm.Cond} (h : br_is i w = true) : w ∈ br_gt := by
  unfold br_is at h
  split at h
  · next v hv =>
    simp only [Bool.and_eq_true, decide_eq_true_eq] at h
    exact List.mem_filter.mpr ⟨h.1 ▸ List.mem_of_getElem? hv, h.2⟩
  · cases h
def br_isN (i : Nat) (w : Jvm.Cond) : Bool := match lw_tbl[i]? with
  | some v => decide (v = w)
  | none => false
theorem br_isN_mem {i : Nat} {w : Jvm.Cond} (h : br_isN i w = true) : w ∈ lw_tbl := by
  unfold br_isN at h
  split at h
  · next v hv => exact (of_decide_eq_true h) ▸ List.mem_of_getElem? hv
  · cases h
def br_fld (ci k : Nat) : String × String × String × Bool := match br_cls[ci]? with
  | some c => c.2.1 k
  | none => ("", "", "", false)
def br_at : Nat → Option ArrayType
  | 1 => some .int
  | 2 => some .long
  | 3 => some .boolean
  | 4 => some .byte
  | _ => none
def br_cnm (ci : Nat) : String := match br_cls[ci]? with
  | some c => c.1
  | none => ""
def br_cN (ci : Nat) : Nat := match br_cls[ci]? with
  | some c => c.2.2
  | none => 0
/-- a switch's rows: value, place -/
def br_tb (pc : Nat) (lo : Int) : Nat → List Int → List Nat → Bool
  | _, [], [] => true
  | i, o :: os, v :: t :: r => decide (Int32.ofNat v = Int32.ofInt (lo + i)) && decide ((pc : Int) + o = t) && br_tb pc lo (i + 1) os r
  | _, _, _ => false
def br_lk (pc : Nat) : List (Int × Int) → List Nat → Bool
  | [], [] => true
  | (a, o) :: os, v :: t :: r => decide ((Int32.ofNat v).toInt = a) && decide ((pc : Int) + o = t) && br_lk pc os r
  | _, _ => false
def br_ivk (own : String) (i : Nat) (kd : Nat) : List Nat → List Nat → Bool
  | j :: na :: ml :: mc :: ms :: ci :: _, nest :: h0 :: h1 :: h2 :: hs =>
    let d := br_md j
    decide (j < 301) && decide (d.2.2.1 = ml) && decide (d.2.2.2.2 = (mc, ms)) && (mc != 0 || ms == 0) &&
    (match nest with
      | 0 => br_is h0 (.methodLink own i d.1)
      | _ => br_isN h0 (.methodLinkNest own i d.1 "BloomRooms")) &&
    br_is h1 (.initialized d.1.cls) && decide (d.1.cls ≠ "java/lang/invoke/MethodHandle") && decide (d.1.cls ≠ "java/lang/invoke/VarHandle") &&
    (match kd with
      | 0 => br_is h2 (.static d.1) && decide ((parseMethodDescriptor d.1.desc).map (fun d => d.parameters.length) = some na)
      | 1 => br_is h2 (.instanceMethod d.1) && decide ((parseMethodDescriptor d.1.desc).map (fun d => d.parameters.length + 1) = some na) && (decide (d.1.cls = br_cnm ci) || decide (d.1.cls = "java/lang/String" ∧ ci = 13)) && (match hs with
        | h3 :: _ => br_is h3 (.selects d.1.cls d.1 d.1)
        | _ => false)
      | _ => br_is h2 (.instanceMethod d.1) && decide ((parseMethodDescriptor d.1.desc).map (fun d => d.parameters.length + 1) = some na) && decide (d.1.name = "<init>") && decide (d.2.2.2.1 = none))
  | _, _ => false
def br_chk (own : String) (init : Bool) (rt : Option FieldType) (pc : Nat) (ins : Instr) (r hs : List Nat) : Bool := match ins with
  | .ldc i => match r, hs with
    | 0 :: v :: _, p :: _ => br_is p (.constant own i (Int32.ofNat v))
    | _ :: q :: _, _ => decide (own = "BloomRooms$Tokens" ∧ i = 86 ∧ q = 3 ∨ own = "BloomRoomsModel" ∧ i = 91 ∧ q = 5)
    | [], _ => true
    | _, _ => false
  | .ldc_w i => match r, hs with
    | v :: _, p :: _ => br_is p (.constant own i (Int32.ofNat v))
    | [], _ => true
    | _, _ => false
  | .ldc2_w i => match r, hs with
    | v :: _, p :: _ => br_is p (.constantLong own i (Int64.ofNat v))
    | [], _ => true
    | _, _ => false
  | .ifCond _ o => match r with
    | t :: _ => decide ((pc : Int) + o = t)
    | _ => true
  | .if_icmp _ o => match r with
    | t :: _ => decide ((pc : Int) + o = t)
    | _ => true
  | .goto o => match r with
    | t :: _ => decide ((pc : Int) + o = t)
    | _ => true
  | .tableswitch d lo hi os => match r with
    | t :: r => decide ((pc : Int) + d = t) && br_tb pc lo 0 os.toList r && decide (hi = lo + os.size - 1) && decide (-2147483648 ≤ lo) && decide (hi ≤ 2147483647)
    | _ => true
  | .lookupswitch d ps => match r with
    | t :: r => decide ((pc : Int) + d = t) && br_lk pc ps.toList r && (ps.toList.zip (ps.toList.drop 1)).all (fun (a, next) => a.1 < next.1)
    | _ => true
  | .getstatic i => match r, hs with
    | 0 :: v :: _, p :: _ => br_is p (.fieldLink own i "java/lang/String" "COMPACT_STRINGS" "Z") && v == 1
    | _ :: q :: _, p :: _ => br_is p (.fieldLink own i "BloomRooms$Reader" "MOST" "[I") && q == 2 || br_is p (.fieldLink own i "jdk/internal/util/Preconditions" "SIOOBE_FORMATTER" "Ljava/util/function/BiFunction;") && q == 7
    | [], _ => true
    | _, _ => false
  | .getfield i => match r, hs with
    | ci :: k :: ty :: _, p :: _ => bif Nat.blt ci 13 then br_is p (.fieldLink own i (br_fld ci k).1 (br_fld ci k).2.1 (br_fld ci k).2.2.1) && decide (k < br_cN ci) && decide ((br_tyc.getD ci [])[k]? = some ty)
      else decide (ci = 13) && (br_is p (.fieldLink own i "java/lang/String" "value" "[B") && k == 0 && ty == 2 || br_is p (.fieldLink own i "java/lang/String" "coder" "B") && k == 1 && ty == 0)
    | [], _ => true
    | _, _ => false
  | .putfield i => match r, hs with
    | ci :: k :: ty :: _, p :: _ => decide (ci < 13) && br_is p (.fieldLink own i (br_fld ci k).1 (br_fld ci k).2.1 (br_fld ci k).2.2.1) && decide (k < br_cN ci) && decide ((br_tyc.getD ci [])[k]? = some ty) && ((br_fld ci k).2.2.1 == "I" && ty == 0 || ty == 1 || ty == 2) && ty < 3 && (!(br_fld ci k).2.2.2 || (init && decide ((br_fld ci k).1 = own)))
    | [], _ => true
    | _, _ => false
  | .new i => match r, hs with
    | ci :: nf :: _, p0 :: p1 :: p2 :: _ => decide (ci < 13) && br_is p0 (.classLink own i (br_cnm ci)) && br_is p1 (.instantiable (br_cnm ci) (br_cN ci)) && br_is p2 (.initialized (br_cnm ci)) && decide (nf = br_cN ci)
    | [], _ => true
    | _, _ => false
  | .newarray a => match r, hs with
    | kd :: _, p :: _ => decide (br_at kd = some a) && br_is p (.arrayClass (newarray.typeOf a))
    | [], _ => true
    | _, _ => false
  | .anewarray i => match r, hs with
    | kd :: _, p0 :: p1 :: _ => kd == 7 && br_is p0 (.classLink own i "BloomRooms$World") && br_isN p1 (.arrayOver (.object "BloomRooms$World")) || kd == 8 && br_is p0 (.classLink own i "BloomRooms$Law") && br_isN p1 (.arrayOver (.object "BloomRooms$Law"))
    | [], _ => true
    | _, _ => false
  | .multianewarray i m => match r, hs with
    | ok :: ik :: _, p0 :: p1 :: p2 :: _ => m == 2 && (ok == 5 && ik == 1 && br_is p0 (.classLink own i "[[I") && br_isN p1 (.arrayOver (.array .int)) && br_is p2 (.arrayClass .int) || ok == 6 && ik == 2 && br_is p0 (.classLink own i "[[J") && br_isN p1 (.arrayOver (.array .long)) && br_is p2 (.arrayClass .long))
    | [], _ => true
    | _, _ => false
  | .invokestatic i => match r, hs with
    | 4 :: _, p0 :: p1 :: p2 :: p3 :: _ => br_is p0 (.methodLink own i arraycopyName) && br_is p1 (.native arraycopyName) && br_is p2 (.static arraycopyName) && br_is p3 (.initialized "java/lang/System")
    | 4 :: _, _ => false
    | _ :: r, hs => br_ivk own i 0 r hs
    | [], _ => true
  | .invokevirtual i => match r with
    | [] => true
    | r => br_ivk own i 1 r hs
  | .invokespecial i => match r, hs with
    | 3 :: _, p0 :: p1 :: p2 :: _ => br_is p0 (.methodLink own i objectInit) && br_is p1 (.instanceMethod objectInit) && br_is p2 (.code objectInit ⟨#[0xb1]⟩ 1 none)
    | 3 :: _, _ => false
    | _ :: r, hs => br_ivk own i 2 r hs
    | [], _ => true
  | .ireturn => match r with
    | 0 :: _ => decide (rt = some .int)
    | 1 :: _ => decide (rt = some .boolean)
    | 2 :: _ => decide (rt = some .byte)
    | _ :: _ => decide (rt = some .char)
    | _ => true
  | .lreturn => decide (rt = some .long)
  | .return_ => decide (rt = none)
  | _ => true
def br_chkL (own : String) (init : Bool) (rt : Option FieldType) (bytes : ByteArray) : List (Nat × Instr × Nat × List Nat) → List (List Nat) → Bool
  | [], _ => true
  | e :: t, h :: hs => decide (decode bytes e.1 = .ok (e.2.1, e.2.2.1)) && br_chk own init rt e.1 e.2.1 e.2.2.2 h && br_chkL own init rt bytes t hs
  | _ :: _, [] => false
def br_chkM (j : Nat) (p : Nat) (hs : List (List Nat)) : Bool := let d := br_md j
  (j == 300 || br_is p (.code d.1 d.2.1 d.2.2.1 d.2.2.2.1)) && plainFor d.1 && decide (d.2.2.1 ≤ 29) && br_chkL d.1.cls (d.1.name == "<init>") d.2.2.2.1 d.2.1 (br_code j) hs
def br_okm (j : Nat) : Prop := ∃ p hs, br_chkM j p hs = true
