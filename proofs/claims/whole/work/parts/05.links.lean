/-! ## links -/
def zcn (o : Nat) : String := ["CyclicLines$Law", "CyclicLines$Units", "CyclicLines$Air", "CyclicLines", "CyclicLines$Line", "CyclicLines$Journal", "CyclicLines$World", "CyclicLines$Text", "CyclicLines$Period", "CyclicLines$Ways", "CyclicLinesModel", "java/lang/String", "jdk/internal/util/Preconditions", "java/lang/StringLatin1", "CyclicLinesLaw", "java/lang/Integer"].getD o ""
def zMl : List (MethodName × ByteArray × Option FieldType × Nat × Nat × List (Nat × Nat × Nat × Nat)) := [(⟨"", "", ""⟩, ⟨#[]⟩, none, 0, 0, []),
  (⟨"CyclicLines$Law", "<init>", "()V"⟩, prog_4_method_1_code, none, 0, 1, []),
  (⟨"CyclicLines$Units", "<init>", "(IZ)V"⟩, prog_8_method_1_code, none, 1, 3, []),
  (⟨"CyclicLines$Air", "<init>", "()V"⟩, prog_2_method_1_code, none, 2, 1, []),
  (⟨"CyclicLines", "clearRow", "([II)V"⟩, prog_1_method_56_code, none, 3, 2, []),
  (⟨"CyclicLines$Line", "beginAnew", "()V"⟩, prog_5_method_4_code, none, 4, 1, []),
  (⟨"CyclicLines$Line", "makeNew", "()V"⟩, prog_5_method_2_code, none, 4, 1, []),
  (⟨"CyclicLines$Line", "<init>", "()V"⟩, prog_5_method_1_code, none, 4, 1, []),
  (⟨"CyclicLines$Journal", "<init>", "()V"⟩, prog_3_method_1_code, none, 5, 1, []),
  (⟨"CyclicLines$World", "<init>", "()V"⟩, prog_11_method_1_code, none, 6, 1, []),
  (⟨"CyclicLines$Text", "<init>", "()V"⟩, prog_7_method_1_code, none, 7, 1, []),
  (⟨"CyclicLines$Period", "<init>", "()V"⟩, prog_6_method_1_code, none, 8, 1, []),
  (⟨"CyclicLines$Ways", "<init>", "()V"⟩, prog_9_method_1_code, none, 9, 1, []),
  (⟨"CyclicLines", "<init>", "()V"⟩, prog_1_method_1_code, none, 3, 1, []),
  (⟨"CyclicLinesModel", "<init>", "()V"⟩, prog_13_method_1_code, none, 10, 1, []),
  (⟨"CyclicLines", "put", "([III)V"⟩, prog_1_method_55_code, none, 3, 3, []),
  (⟨"CyclicLines", "putBytes", "(I)V"⟩, prog_1_method_3_code, none, 3, 2, []),
  (⟨"CyclicLines", "feed", "(IIIII)I"⟩, prog_1_method_2_code, some .int, 3, 6, []),
  (⟨"CyclicLinesModel", "feed", "(IIIII)I"⟩, prog_13_method_18_code, some .int, 10, 6, []),
  (⟨"CyclicLines", "end", "(I)Z"⟩, prog_1_method_4_code, some .boolean, 3, 2, []),
  (⟨"CyclicLinesModel", "isIn", "(III)Z"⟩, prog_13_method_3_code, some .boolean, 10, 3, []),
  (⟨"CyclicLinesModel", "end", "(I)Z"⟩, prog_13_method_19_code, some .boolean, 10, 2, []),
  (⟨"CyclicLines", "at", "([II)I"⟩, prog_1_method_54_code, some .int, 3, 2, []),
  (⟨"CyclicLines$Text", "kindOf", "(I)I"⟩, prog_7_method_4_code, some .int, 7, 1, []),
  (⟨"CyclicLines$Text", "endOf", "([III)I"⟩, prog_7_method_3_code, some .int, 7, 3, []),
  (⟨"java/lang/String", "coder", "()B"⟩, prog_24_method_152_code, some .byte, 11, 1, []),
  (⟨"java/lang/String", "length", "()I"⟩, prog_24_method_54_code, some .int, 11, 1, []),
  (⟨"java/lang/String", "isLatin1", "()Z"⟩, prog_24_method_154_code, some .boolean, 11, 1, []),
  (⟨"jdk/internal/util/Preconditions", "checkIndex", "(IILjava/util/function/BiFunction;)I"⟩, prog_33_method_11_code, some .int, 12, 3, []),
  (⟨"java/lang/String", "checkIndex", "(II)V"⟩, prog_24_method_155_code, none, 11, 2, []),
  (⟨"java/lang/StringLatin1", "charAt", "([BI)C"⟩, prog_25_method_2_code, some .char, 13, 2, []),
  (⟨"java/lang/String", "charAt", "(I)C"⟩, prog_24_method_56_code, some .char, 11, 2, []),
  (⟨"CyclicLines$Text", "isWritten", "(Ljava/lang/String;[III)Z"⟩, prog_7_method_7_code, some .boolean, 7, 4, []),
  (⟨"CyclicLines$Text", "wordOf", "([III)LCyclicLines$Word;"⟩, prog_7_method_6_code, some (.object "CyclicLines$Word"), 7, 3, []),
  (⟨"CyclicLines$Text", "addThing", "([III)V"⟩, prog_7_method_5_code, none, 7, 4, []),
  (⟨"CyclicLines$Text", "readFrom", "([II)V"⟩, prog_7_method_2_code, none, 7, 3, []),
  (⟨"CyclicLines", "readTape", "()V"⟩, prog_1_method_7_code, none, 3, 1, []),
  (⟨"CyclicLines$World", "lineAt", "(I)LCyclicLines$Line;"⟩, prog_11_method_3_code, some (.object "CyclicLines$Line"), 6, 2, []),
  (⟨"CyclicLines", "copyRow", "([I[II)V"⟩, prog_1_method_57_code, none, 3, 3, []),
  (⟨"CyclicLines$Units", "copyFrom", "(LCyclicLines$Units;)V"⟩, prog_8_method_2_code, none, 1, 2, []),
  (⟨"CyclicLines$Air", "copyFrom", "(LCyclicLines$Air;)V"⟩, prog_2_method_2_code, none, 2, 2, []),
  (⟨"CyclicLines$Line", "copyFrom", "(LCyclicLines$Line;)V"⟩, prog_5_method_3_code, none, 4, 2, []),
  (⟨"CyclicLines$Journal", "copyFrom", "(LCyclicLines$Journal;)V"⟩, prog_3_method_2_code, none, 5, 2, []),
  (⟨"CyclicLines$World", "copyFrom", "(LCyclicLines$World;)V"⟩, prog_11_method_2_code, none, 6, 2, []),
  (⟨"CyclicLines$Text", "word", "()LCyclicLines$Word;"⟩, prog_7_method_8_code, some (.object "CyclicLines$Word"), 7, 1, []),
  (⟨"CyclicLines$Text", "fail", "()V"⟩, prog_7_method_10_code, none, 7, 1, []),
  (⟨"CyclicLines$Text", "failed", "()Z"⟩, prog_7_method_9_code, some .boolean, 7, 1, []),
  (⟨"CyclicLines$Text", "passes", "(LCyclicLines$Word;)Z"⟩, prog_7_method_11_code, some .boolean, 7, 2, []),
  (⟨"CyclicLines$Text", "number", "(II)I"⟩, prog_7_method_13_code, some .int, 7, 3, []),
  (⟨"CyclicLines$Text", "needs", "(LCyclicLines$Word;)V"⟩, prog_7_method_12_code, none, 7, 2, []),
  (⟨"CyclicLines$Units", "add", "(III)Z"⟩, prog_8_method_3_code, some .boolean, 1, 4, []),
  (⟨"CyclicLines$World", "tellUnit", "(LCyclicLines$Line;I)I"⟩, prog_11_method_8_code, some .int, 6, 3, []),
  (⟨"CyclicLines$World", "readUnits", "(LCyclicLines$Text;)V"⟩, prog_11_method_10_code, none, 6, 2, []),
  (⟨"CyclicLines$World", "readLine", "(LCyclicLines$Text;)V"⟩, prog_11_method_11_code, none, 6, 2, []),
  (⟨"CyclicLines$Text", "goesOn", "()Z"⟩, prog_7_method_14_code, some .boolean, 7, 1, []),
  (⟨"CyclicLines$World", "readLines", "(LCyclicLines$Text;)V"⟩, prog_11_method_9_code, none, 6, 2, []),
  (⟨"CyclicLines", "lines", "()I"⟩, prog_1_method_5_code, some .int, 3, 1, []),
  (⟨"CyclicLinesLaw", "lines", "(LCyclicLines;[J)I"⟩, method_3_code, some .int, 14, 2, [(0, 8, 11, 13), (0, 8, 14, 15)]),
  (⟨"CyclicLinesModel", "putsAside", "()V"⟩, prog_13_method_35_code, none, 10, 1, []),
  (⟨"CyclicLinesModel", "begins", "()V"⟩, prog_13_method_33_code, none, 10, 1, []),
  (⟨"CyclicLinesModel", "letter", "(I)I"⟩, prog_13_method_20_code, some .int, 10, 2, []),
  (⟨"CyclicLinesModel", "skip", "()V"⟩, prog_13_method_21_code, none, 10, 1, []),
  (⟨"CyclicLinesModel", "wrong", "(I)V"⟩, prog_13_method_24_code, none, 10, 2, []),
  (⟨"CyclicLinesModel", "has", "(Ljava/lang/String;)Z"⟩, prog_13_method_23_code, some .boolean, 10, 2, []),
  (⟨"CyclicLinesModel", "here", "()I"⟩, prog_13_method_25_code, some .int, 10, 1, []),
  (⟨"CyclicLinesModel", "figures", "(II)I"⟩, prog_13_method_26_code, some .int, 10, 3, []),
  (⟨"CyclicLinesModel", "isSign", "(I)Z"⟩, prog_13_method_22_code, some .boolean, 10, 2, []),
  (⟨"CyclicLinesModel", "part", "()I"⟩, prog_13_method_38_code, some .int, 10, 1, []),
  (⟨"CyclicLinesModel", "amount", "()I"⟩, prog_13_method_39_code, some .int, 10, 1, []),
  (⟨"CyclicLinesModel", "plain", "()Z"⟩, prog_13_method_40_code, some .boolean, 10, 1, []),
  (⟨"CyclicLinesModel", "atom", "()Z"⟩, prog_13_method_41_code, some .boolean, 10, 1, []),
  (⟨"CyclicLinesModel", "every", "()Z"⟩, prog_13_method_42_code, some .boolean, 10, 1, []),
  (⟨"CyclicLinesModel", "some", "()Z"⟩, prog_13_method_43_code, some .boolean, 10, 1, []),
  (⟨"CyclicLinesModel", "lawLine", "()V"⟩, prog_13_method_44_code, none, 10, 1, []),
  (⟨"CyclicLinesModel", "maybe", "(Ljava/lang/String;III)I"⟩, prog_13_method_29_code, some .int, 10, 5, []),
  (⟨"CyclicLinesModel", "lays", "(III)V"⟩, prog_13_method_9_code, none, 10, 4, []),
  (⟨"CyclicLinesModel", "empties", "(I)V"⟩, prog_13_method_50_code, none, 10, 2, []),
  (⟨"CyclicLinesModel", "addLine", "(I)V"⟩, prog_13_method_30_code, none, 10, 2, []),
  (⟨"CyclicLinesModel", "of", "(II)I"⟩, prog_13_method_8_code, some .int, 10, 3, []),
  (⟨"CyclicLinesModel", "adds", "(III)V"⟩, prog_13_method_10_code, none, 10, 4, []),
  (⟨"CyclicLinesModel", "queues", "(III)V"⟩, prog_13_method_17_code, none, 10, 4, []),
  (⟨"CyclicLinesModel", "isFigure", "()Z"⟩, prog_13_method_28_code, some .boolean, 10, 1, []),
  (⟨"CyclicLinesModel", "addUnits", "()V"⟩, prog_13_method_31_code, none, 10, 1, []),
  (⟨"CyclicLinesModel", "lineOfText", "()V"⟩, prog_13_method_32_code, none, 10, 1, []),
  (⟨"CyclicLinesModel", "reads", "(Z)I"⟩, prog_13_method_34_code, some .int, 10, 2, []),
  (⟨"CyclicLinesModel", "comesBack", "()V"⟩, prog_13_method_36_code, none, 10, 1, []),
  (⟨"CyclicLinesModel", "lines", "()I"⟩, prog_13_method_37_code, some .int, 10, 1, []),
  (⟨"CyclicLinesModel", "thrown", "()I"⟩, prog_13_method_2_code, some .int, 10, 1, []),
  (⟨"CyclicLines$Law", "emit", "(I)V"⟩, prog_4_method_8_code, none, 0, 2, []),
  (⟨"CyclicLines$Law", "readSum", "(LCyclicLines$Text;)V"⟩, prog_4_method_7_code, none, 0, 2, []),
  (⟨"CyclicLines$Law", "readAtom", "(LCyclicLines$Text;I)V"⟩, prog_4_method_6_code, none, 0, 3, []),
  (⟨"CyclicLines$Law", "readCondition", "(LCyclicLines$Text;I)V"⟩, prog_4_method_5_code, none, 0, 3, []),
  (⟨"CyclicLines$Law", "readLine", "(LCyclicLines$Text;)V"⟩, prog_4_method_4_code, none, 0, 2, []),
  (⟨"CyclicLines$Law", "readFrom", "(LCyclicLines$Text;)V"⟩, prog_4_method_3_code, none, 0, 2, []),
  (⟨"CyclicLines$Law", "copyFrom", "(LCyclicLines$Law;)V"⟩, prog_4_method_2_code, none, 0, 2, []),
  (⟨"CyclicLines", "law", "()I"⟩, prog_1_method_6_code, some .int, 3, 1, []),
  (⟨"CyclicLinesLaw", "law", "(LCyclicLines;[J)I"⟩, method_4_code, some .int, 14, 2, [(0, 8, 11, 13)]),
  (⟨"CyclicLinesModel", "law", "()I"⟩, prog_13_method_45_code, some .int, 10, 1, []),
  (⟨"CyclicLines", "fault", "()I"⟩, prog_1_method_8_code, some .int, 3, 1, []),
  (⟨"CyclicLinesModel", "fault", "()I"⟩, prog_13_method_46_code, some .int, 10, 1, []),
  (⟨"CyclicLines", "lineOf", "(I)LCyclicLines$Line;"⟩, prog_1_method_9_code, some (.object "CyclicLines$Line"), 3, 2, []),
  (⟨"CyclicLines$Units", "octets", "()I"⟩, prog_8_method_8_code, some .int, 1, 1, []),
  (⟨"CyclicLines$Line", "load", "()I"⟩, prog_5_method_6_code, some .int, 4, 1, []),
  (⟨"CyclicLines$Line", "fits", "()Z"⟩, prog_5_method_8_code, some .boolean, 4, 1, []),
  (⟨"CyclicLines$Line", "comes", "()I"⟩, prog_5_method_9_code, some .int, 4, 1, []),
  (⟨"CyclicLines$Air", "isBad", "(I)Z"⟩, prog_2_method_4_code, some .boolean, 2, 2, []),
  (⟨"CyclicLines$Line", "watch", "()Z"⟩, prog_5_method_10_code, some .boolean, 4, 1, []),
  (⟨"CyclicLines$Line", "takesArrived", "()Z"⟩, prog_5_method_11_code, some .boolean, 4, 1, []),
  (⟨"CyclicLines$Units", "placeOf", "(I)I"⟩, prog_8_method_7_code, some .int, 1, 2, []),
  (⟨"CyclicLines$World", "tellFacts", "(ILCyclicLines$Line;)V"⟩, prog_11_method_15_code, none, 6, 3, []),
  (⟨"CyclicLines$Law", "joined", "(III)I"⟩, prog_4_method_11_code, some .int, 0, 3, []),
  (⟨"CyclicLines$Law", "holds", "(I[I)Z"⟩, prog_4_method_10_code, some .boolean, 0, 3, []),
  (⟨"CyclicLines$Law", "sumOf", "(I[I)I"⟩, prog_4_method_9_code, some .int, 0, 3, []),
  (⟨"CyclicLines$Journal", "add", "(IIII)V"⟩, prog_3_method_3_code, none, 5, 5, []),
  (⟨"CyclicLines$World", "take", "(ILCyclicLines$Line;LCyclicLines$Law;)V"⟩, prog_11_method_14_code, none, 6, 4, []),
  (⟨"CyclicLines", "shiftRow", "([II)V"⟩, prog_1_method_58_code, none, 3, 2, []),
  (⟨"CyclicLines$Air", "comeAhead", "()V"⟩, prog_2_method_3_code, none, 2, 1, []),
  (⟨"CyclicLines$Line", "toldBy", "(I)I"⟩, prog_5_method_12_code, some .int, 4, 2, []),
  (⟨"CyclicLines$Units", "dropFirst", "(I)V"⟩, prog_8_method_6_code, none, 1, 2, []),
  (⟨"CyclicLines$Line", "comeBack", "()V"⟩, prog_5_method_13_code, none, 4, 1, []),
  (⟨"CyclicLines$Line", "forceRound", "()V"⟩, prog_5_method_14_code, none, 4, 1, []),
  (⟨"CyclicLines$Line", "handOn", "()V"⟩, prog_5_method_15_code, none, 4, 1, []),
  (⟨"CyclicLines$World", "send", "(ILCyclicLines$Line;)I"⟩, prog_11_method_16_code, some .int, 6, 3, []),
  (⟨"CyclicLines$World", "chanceOn", "(LCyclicLines$Line;LCyclicLines$Law;)I"⟩, prog_11_method_18_code, some .int, 6, 3, []),
  (⟨"CyclicLines$World", "isSpoiled", "(IZ)Z"⟩, prog_11_method_19_code, some .boolean, 6, 3, []),
  (⟨"CyclicLines$Air", "putFiller", "(IZ)V"⟩, prog_2_method_5_code, none, 2, 3, []),
  (⟨"CyclicLines$Air", "putUnit", "(ILCyclicLines$Units;IZ)V"⟩, prog_2_method_6_code, none, 2, 5, []),
  (⟨"CyclicLines$World", "prove", "(ILCyclicLines$Line;Z)V"⟩, prog_11_method_20_code, none, 6, 4, []),
  (⟨"CyclicLines$Line", "row", "()I"⟩, prog_5_method_7_code, some .int, 4, 1, []),
  (⟨"CyclicLines$World", "fewest", "(I)I"⟩, prog_11_method_22_code, some .int, 6, 2, []),
  (⟨"CyclicLines", "openRow", "([I)V"⟩, prog_1_method_59_code, none, 3, 1, []),
  (⟨"CyclicLines$Units", "putAhead", "(LCyclicLines$Units;)V"⟩, prog_8_method_5_code, none, 1, 2, []),
  (⟨"CyclicLines$Units", "addAll", "(LCyclicLines$Units;)I"⟩, prog_8_method_4_code, some .int, 1, 2, []),
  (⟨"CyclicLines$World", "changeOver", "(I)I"⟩, prog_11_method_21_code, some .int, 6, 2, []),
  (⟨"CyclicLines$World", "passLine", "(ILCyclicLines$Law;Z)V"⟩, prog_11_method_13_code, none, 6, 4, []),
  (⟨"CyclicLines$World", "pass", "(ILCyclicLines$Law;Z)V"⟩, prog_11_method_12_code, none, 6, 4, []),
  (⟨"CyclicLines", "windowOf", "(I)I"⟩, prog_1_method_11_code, some .int, 3, 2, []),
  (⟨"CyclicLines", "partOf", "(LCyclicLines$Line;)I"⟩, prog_1_method_12_code, some .int, 3, 2, []),
  (⟨"CyclicLines", "line", "(II)I"⟩, prog_1_method_10_code, some .int, 3, 3, []),
  (⟨"CyclicLinesLaw", "line", "(LCyclicLines;II[J)I"⟩, method_5_code, some .int, 14, 4, [(0, 10, 13, 24), (0, 10, 17, 26)]),
  (⟨"CyclicLinesModel", "isLine", "(I)Z"⟩, prog_13_method_11_code, some .boolean, 10, 2, []),
  (⟨"CyclicLinesModel", "held", "(III)I"⟩, prog_13_method_12_code, some .int, 10, 4, []),
  (⟨"CyclicLinesModel", "octetsKept", "(I)I"⟩, prog_13_method_15_code, some .int, 10, 2, []),
  (⟨"CyclicLinesModel", "queued", "(III)I"⟩, prog_13_method_13_code, some .int, 10, 4, []),
  (⟨"CyclicLinesModel", "load", "(I)I"⟩, prog_13_method_16_code, some .int, 10, 2, []),
  (⟨"CyclicLinesModel", "fits", "(I)Z"⟩, prog_13_method_57_code, some .boolean, 10, 2, []),
  (⟨"CyclicLinesModel", "nextOf", "(I)I"⟩, prog_13_method_58_code, some .int, 10, 2, []),
  (⟨"CyclicLinesModel", "comesNext", "(I)I"⟩, prog_13_method_71_code, some .int, 10, 2, []),
  (⟨"CyclicLinesModel", "lesser", "(II)I"⟩, prog_13_method_4_code, some .int, 10, 2, []),
  (⟨"CyclicLinesModel", "greater", "(II)I"⟩, prog_13_method_5_code, some .int, 10, 2, []),
  (⟨"CyclicLinesModel", "asks", "(IIZZ)V"⟩, prog_13_method_47_code, none, 10, 5, []),
  (⟨"CyclicLinesModel", "logs", "(III)V"⟩, prog_13_method_49_code, none, 10, 4, []),
  (⟨"CyclicLinesModel", "isTaken", "(I)V"⟩, prog_13_method_51_code, none, 10, 2, []),
  (⟨"CyclicLinesModel", "arrives", "(I)Z"⟩, prog_13_method_52_code, some .boolean, 10, 2, []),
  (⟨"CyclicLinesModel", "aheadOf", "(II)I"⟩, prog_13_method_53_code, some .int, 10, 3, []),
  (⟨"CyclicLinesModel", "leaves", "(II)V"⟩, prog_13_method_54_code, none, 10, 3, []),
  (⟨"CyclicLinesModel", "wraps", "(I)V"⟩, prog_13_method_56_code, none, 10, 2, []),
  (⟨"CyclicLinesModel", "hasReply", "(I)V"⟩, prog_13_method_55_code, none, 10, 2, []),
  (⟨"CyclicLinesModel", "isSent", "(II)V"⟩, prog_13_method_59_code, none, 10, 3, []),
  (⟨"CyclicLinesModel", "sendsNew", "(I)V"⟩, prog_13_method_60_code, none, 10, 2, []),
  (⟨"CyclicLinesModel", "sendsAtHand", "(I)V"⟩, prog_13_method_61_code, none, 10, 2, []),
  (⟨"CyclicLinesModel", "draw", "(I)I"⟩, prog_13_method_48_code, some .int, 10, 2, []),
  (⟨"CyclicLinesModel", "sends", "(IZ)V"⟩, prog_13_method_62_code, none, 10, 3, []),
  (⟨"CyclicLinesModel", "beginsAnew", "(I)V"⟩, prog_13_method_63_code, none, 10, 2, []),
  (⟨"CyclicLinesModel", "isProved", "(IZ)V"⟩, prog_13_method_66_code, none, 10, 3, []),
  (⟨"CyclicLinesModel", "otherIn", "(I)I"⟩, prog_13_method_64_code, some .int, 10, 2, []),
  (⟨"CyclicLinesModel", "goesOver", "(I)I"⟩, prog_13_method_65_code, some .int, 10, 2, []),
  (⟨"CyclicLinesModel", "goesOn", "(IZ)V"⟩, prog_13_method_67_code, none, 10, 3, []),
  (⟨"CyclicLinesModel", "passes", "(Z)V"⟩, prog_13_method_68_code, none, 10, 2, []),
  (⟨"CyclicLinesModel", "goes", "(IZ)I"⟩, prog_13_method_69_code, some .int, 10, 3, []),
  (⟨"CyclicLinesModel", "windowOf", "(I)I"⟩, prog_13_method_72_code, some .int, 10, 2, []),
  (⟨"CyclicLinesModel", "loadOfAll", "()I"⟩, prog_13_method_70_code, some .int, 10, 1, []),
  (⟨"CyclicLinesModel", "line", "(II)I"⟩, prog_13_method_73_code, some .int, 10, 3, []),
  (⟨"CyclicLines", "unit", "(III)I"⟩, prog_1_method_13_code, some .int, 3, 4, []),
  (⟨"CyclicLinesLaw", "unit", "(LCyclicLines;III[J)I"⟩, method_6_code, some .int, 14, 5, [(0, 12, 15, 24), (0, 12, 19, 26)]),
  (⟨"CyclicLinesModel", "unit", "(III)I"⟩, prog_13_method_74_code, some .int, 10, 4, []),
  (⟨"CyclicLines", "air", "(III)I"⟩, prog_1_method_14_code, some .int, 3, 4, []),
  (⟨"CyclicLinesLaw", "air", "(LCyclicLines;III[J)I"⟩, method_7_code, some .int, 14, 5, [(0, 12, 15, 24), (0, 12, 19, 26)]),
  (⟨"CyclicLinesModel", "air", "(III)I"⟩, prog_13_method_75_code, some .int, 10, 4, []),
  (⟨"CyclicLines", "reply", "(II)I"⟩, prog_1_method_15_code, some .int, 3, 3, []),
  (⟨"CyclicLinesLaw", "reply", "(LCyclicLines;II[J)I"⟩, method_8_code, some .int, 14, 4, [(0, 10, 13, 24)]),
  (⟨"CyclicLinesModel", "reply", "(II)I"⟩, prog_13_method_76_code, some .int, 10, 3, []),
  (⟨"CyclicLines", "rememberedAt", "(I)LCyclicLines$World;"⟩, prog_1_method_17_code, some (.object "CyclicLines$World"), 3, 2, []),
  (⟨"CyclicLines", "remember", "()V"⟩, prog_1_method_16_code, none, 3, 1, []),
  (⟨"CyclicLines", "ticks", "(I)I"⟩, prog_1_method_18_code, some .int, 3, 2, []),
  (⟨"CyclicLinesLaw", "ticks", "(LCyclicLines;I[J)I"⟩, method_9_code, some .int, 14, 3, [(0, 9, 12, 13)]),
  (⟨"CyclicLinesModel", "remembers", "()V"⟩, prog_13_method_77_code, none, 10, 1, []),
  (⟨"CyclicLinesModel", "ticks", "(I)I"⟩, prog_13_method_78_code, some .int, 10, 2, []),
  (⟨"CyclicLines", "tell", "(II)I"⟩, prog_1_method_19_code, some .int, 3, 3, []),
  (⟨"CyclicLinesLaw", "tell", "(LCyclicLines;II[J)I"⟩, method_10_code, some .int, 14, 4, [(0, 10, 13, 24), (0, 10, 17, 13), (0, 10, 21, 45)]),
  (⟨"CyclicLinesModel", "tell", "(II)I"⟩, prog_13_method_79_code, some .int, 10, 3, []),
  (⟨"CyclicLines$Line", "prove", "()V"⟩, prog_5_method_5_code, none, 4, 1, []),
  (⟨"CyclicLines$World", "inState", "(I)I"⟩, prog_11_method_4_code, some .int, 6, 2, []),
  (⟨"java/lang/Integer", "bitCount", "(I)I"⟩, prog_22_method_49_code, some .int, 15, 1, []),
  (⟨"CyclicLines", "start", "(I)I"⟩, prog_1_method_20_code, some .int, 3, 2, []),
  (⟨"CyclicLinesLaw", "start", "(LCyclicLines;I[J)I"⟩, method_11_code, some .int, 14, 3, [(0, 9, 12, 24), (0, 9, 15, 45)]),
  (⟨"CyclicLinesModel", "inState", "(I)I"⟩, prog_13_method_14_code, some .int, 10, 2, []),
  (⟨"CyclicLinesModel", "bits", "(I)I"⟩, prog_13_method_7_code, some .int, 10, 1, []),
  (⟨"CyclicLinesModel", "start", "(I)I"⟩, prog_13_method_80_code, some .int, 10, 2, []),
  (⟨"CyclicLines", "shut", "(I)I"⟩, prog_1_method_21_code, some .int, 3, 2, []),
  (⟨"CyclicLinesLaw", "shut", "(LCyclicLines;I[J)I"⟩, method_12_code, some .int, 14, 3, [(0, 9, 12, 24), (0, 9, 15, 45)]),
  (⟨"CyclicLinesModel", "shut", "(I)I"⟩, prog_13_method_81_code, some .int, 10, 2, []),
  (⟨"CyclicLines", "mayBeTuned", "(II)Z"⟩, prog_1_method_23_code, some .boolean, 3, 2, []),
  (⟨"CyclicLines", "tune", "(III)I"⟩, prog_1_method_22_code, some .int, 3, 4, []),
  (⟨"CyclicLinesLaw", "tune", "(LCyclicLines;III[J)I"⟩, method_13_code, some .int, 14, 5, [(0, 12, 15, 24), (0, 12, 19, 26), (0, 12, 23, 13)]),
  (⟨"CyclicLinesModel", "isRight", "(II)Z"⟩, prog_13_method_83_code, some .boolean, 10, 2, []),
  (⟨"CyclicLinesModel", "tuned", "(I)I"⟩, prog_13_method_82_code, some .int, 10, 1, []),
  (⟨"CyclicLinesModel", "tune", "(III)I"⟩, prog_13_method_84_code, some .int, 10, 4, []),
  (⟨"CyclicLines$World", "fillerChance", "(ILCyclicLines$Law;)I"⟩, prog_11_method_17_code, some .int, 6, 3, []),
  (⟨"CyclicLines", "chance", "(I)I"⟩, prog_1_method_24_code, some .int, 3, 2, []),
  (⟨"CyclicLinesLaw", "chance", "(LCyclicLines;I[J)I"⟩, method_14_code, some .int, 14, 3, [(0, 9, 12, 24)]),
  (⟨"CyclicLinesModel", "fillerChance", "(I)I"⟩, prog_13_method_85_code, some .int, 10, 2, []),
  (⟨"CyclicLinesModel", "chance", "(I)I"⟩, prog_13_method_86_code, some .int, 10, 2, []),
  (⟨"CyclicLines$World", "queued", "()I"⟩, prog_11_method_5_code, some .int, 6, 1, []),
  (⟨"CyclicLines$World", "unitsKept", "()I"⟩, prog_11_method_6_code, some .int, 6, 1, []),
  (⟨"CyclicLines$World", "isClear", "()Z"⟩, prog_11_method_7_code, some .boolean, 6, 1, []),
  (⟨"CyclicLines", "clear", "()I"⟩, prog_1_method_25_code, some .int, 3, 1, []),
  (⟨"CyclicLinesModel", "unitsLeft", "()I"⟩, prog_13_method_87_code, some .int, 10, 1, []),
  (⟨"CyclicLinesModel", "clear", "()I"⟩, prog_13_method_88_code, some .int, 10, 1, []),
  (⟨"CyclicLines$Ways", "gather", "(LCyclicLines$World;)I"⟩, prog_9_method_4_code, some .int, 9, 2, []),
  (⟨"CyclicLines$Ways", "putUnit", "(LCyclicLines$World;II)Z"⟩, prog_9_method_5_code, some .boolean, 9, 4, []),
  (⟨"CyclicLines$Ways", "splitUnits", "(LCyclicLines$World;)I"⟩, prog_9_method_2_code, some .int, 9, 2, []),
  (⟨"CyclicLines$Ways", "lineOfUnit", "(I)I"⟩, prog_9_method_3_code, some .int, 9, 2, []),
  (⟨"CyclicLines", "split", "(I)I"⟩, prog_1_method_26_code, some .int, 3, 2, []),
  (⟨"CyclicLinesModel", "firstUnits", "()I"⟩, prog_13_method_89_code, some .int, 10, 1, []),
  (⟨"CyclicLinesModel", "longest", "(II)I"⟩, prog_13_method_90_code, some .int, 10, 3, []),
  (⟨"CyclicLinesModel", "split", "(I)I"⟩, prog_13_method_91_code, some .int, 10, 2, []),
  (⟨"CyclicLines", "takes", "(Z)I"⟩, prog_1_method_27_code, some .int, 3, 2, []),
  (⟨"CyclicLinesLaw", "takes", "(LCyclicLines;Z[J)I"⟩, method_15_code, some .int, 14, 3, [(0, 9, 12, 13)]),
  (⟨"CyclicLinesModel", "takes", "(Z)I"⟩, prog_13_method_92_code, some .int, 10, 2, []),
  (⟨"CyclicLines$Period", "isOne", "(I)Z"⟩, prog_6_method_3_code, some .boolean, 8, 1, []),
  (⟨"CyclicLines$Period", "hits", "(III)Z"⟩, prog_6_method_4_code, some .boolean, 8, 3, []),
  (⟨"CyclicLines$Period", "wrongRows", "(II)I"⟩, prog_6_method_5_code, some .int, 8, 3, []),
  (⟨"CyclicLines$Period", "readFrom", "([II)Z"⟩, prog_6_method_2_code, some .boolean, 8, 3, []),
  (⟨"CyclicLines", "readRows", "()V"⟩, prog_1_method_28_code, none, 3, 1, []),
  (⟨"CyclicLines$Period", "howMany", "()I"⟩, prog_6_method_6_code, some .int, 8, 1, []),
  (⟨"CyclicLines", "period", "()I"⟩, prog_1_method_29_code, some .int, 3, 1, []),
  (⟨"CyclicLinesLaw", "period", "(LCyclicLines;[J)I"⟩, method_16_code, some .int, 14, 2, [(0, 8, 11, 13)]),
  (⟨"CyclicLinesModel", "rowsTold", "()I"⟩, prog_13_method_93_code, some .int, 10, 1, []),
  (⟨"CyclicLinesModel", "isCourse", "(I)Z"⟩, prog_13_method_94_code, some .boolean, 10, 1, []),
  (⟨"CyclicLinesModel", "isBad", "(II)Z"⟩, prog_13_method_95_code, some .boolean, 10, 2, []),
  (⟨"CyclicLinesModel", "wrongRows", "(II)I"⟩, prog_13_method_96_code, some .int, 10, 3, []),
  (⟨"CyclicLinesModel", "isFit", "(II)Z"⟩, prog_13_method_97_code, some .boolean, 10, 3, []),
  (⟨"CyclicLinesModel", "period", "()I"⟩, prog_13_method_98_code, some .int, 10, 1, []),
  (⟨"CyclicLines$Period", "first", "()I"⟩, prog_6_method_7_code, some .int, 8, 1, []),
  (⟨"CyclicLines", "likely", "()I"⟩, prog_1_method_30_code, some .int, 3, 1, []),
  (⟨"CyclicLinesLaw", "likely", "(LCyclicLines;[J)I"⟩, method_17_code, some .int, 14, 2, [(0, 8, 11, 13)]),
  (⟨"CyclicLinesModel", "likely", "()I"⟩, prog_13_method_99_code, some .int, 10, 1, []),
  (⟨"CyclicLines$Period", "hitBy", "(I)I"⟩, prog_6_method_9_code, some .int, 8, 2, []),
  (⟨"CyclicLines$Period", "parting", "()I"⟩, prog_6_method_8_code, some .int, 8, 1, []),
  (⟨"CyclicLines", "probe", "()I"⟩, prog_1_method_31_code, some .int, 3, 1, []),
  (⟨"CyclicLinesLaw", "probe", "(LCyclicLines;[J)I"⟩, method_18_code, some .int, 14, 2, [(0, 8, 11, 13)]),
  (⟨"CyclicLinesModel", "probe", "()I"⟩, prog_13_method_100_code, some .int, 10, 1, []),
  (⟨"CyclicLines$Ways", "pairLine", "(LCyclicLines$World;II)V"⟩, prog_9_method_8_code, none, 9, 4, []),
  (⟨"CyclicLines$Ways", "pairLines", "(LCyclicLines$World;)I"⟩, prog_9_method_6_code, some .int, 9, 2, []),
  (⟨"CyclicLines$Ways", "partnerOf", "(I)I"⟩, prog_9_method_7_code, some .int, 9, 2, []),
  (⟨"CyclicLines", "pairs", "(I)I"⟩, prog_1_method_32_code, some .int, 3, 2, []),
  (⟨"CyclicLinesLaw", "pairs", "(LCyclicLines;I[J)I"⟩, method_19_code, some .int, 14, 3, [(0, 9, 12, 24)]),
  (⟨"CyclicLinesModel", "isOf", "(II)Z"⟩, prog_13_method_6_code, some .boolean, 10, 2, []),
  (⟨"CyclicLinesModel", "lowest", "(I)I"⟩, prog_13_method_101_code, some .int, 10, 1, []),
  (⟨"CyclicLinesModel", "both", "(II)I"⟩, prog_13_method_102_code, some .int, 10, 3, []),
  (⟨"CyclicLinesModel", "allBest", "()V"⟩, prog_13_method_103_code, none, 10, 1, []),
  (⟨"CyclicLinesModel", "pairs", "(I)I"⟩, prog_13_method_104_code, some .int, 10, 2, []),
  (⟨"CyclicLines", "nextShare", "()I"⟩, prog_1_method_34_code, some .int, 3, 1, []),
  (⟨"CyclicLines", "share", "(II)I"⟩, prog_1_method_33_code, some .int, 3, 3, []),
  (⟨"CyclicLinesLaw", "share", "(LCyclicLines;II[J)I"⟩, method_20_code, some .int, 14, 4, [(0, 10, 13, 24), (0, 10, 17, 13)]),
  (⟨"CyclicLinesModel", "share", "(II)I"⟩, prog_13_method_105_code, some .int, 10, 3, []),
  (⟨"CyclicLines", "keeperHas", "(LCyclicLines$Line;I)I"⟩, prog_1_method_36_code, some .int, 3, 2, []),
  (⟨"CyclicLines", "noiseHas", "(LCyclicLines$Line;I)I"⟩, prog_1_method_37_code, some .int, 3, 2, []),
  (⟨"CyclicLines", "rests", "(I)I"⟩, prog_1_method_35_code, some .int, 3, 2, []),
  (⟨"CyclicLinesLaw", "rests", "(LCyclicLines;I[J)I"⟩, method_21_code, some .int, 14, 3, [(0, 9, 12, 24)]),
  (⟨"CyclicLinesModel", "keeperHas", "(III)I"⟩, prog_13_method_106_code, some .int, 10, 4, []),
  (⟨"CyclicLinesModel", "noiseHas", "(III)I"⟩, prog_13_method_107_code, some .int, 10, 4, []),
  (⟨"CyclicLinesModel", "rests", "(I)I"⟩, prog_13_method_108_code, some .int, 10, 2, []),
  (⟨"CyclicLines", "exactly", "(III)J"⟩, prog_1_method_39_code, some .long, 3, 3, []),
  (⟨"CyclicLines", "odds", "(III)I"⟩, prog_1_method_38_code, some .int, 3, 4, []),
  (⟨"CyclicLinesLaw", "odds", "(LCyclicLines;III[J)I"⟩, method_22_code, some .int, 14, 5, [(0, 12, 15, 24), (0, 12, 19, 13)]),
  (⟨"CyclicLinesModel", "odds", "(III)I"⟩, prog_13_method_109_code, some .int, 10, 4, []),
  (⟨"CyclicLines", "most", "(I)I"⟩, prog_1_method_40_code, some .int, 3, 2, []),
  (⟨"CyclicLinesLaw", "most", "(LCyclicLines;I[J)I"⟩, method_23_code, some .int, 14, 3, [(0, 9, 12, 26)]),
  (⟨"CyclicLinesModel", "valueOf", "(II)I"⟩, prog_13_method_110_code, some .int, 10, 3, []),
  (⟨"CyclicLinesModel", "most", "(I)I"⟩, prog_13_method_111_code, some .int, 10, 2, []),
  (⟨"CyclicLines", "byState", "(I)I"⟩, prog_1_method_41_code, some .int, 3, 2, []),
  (⟨"CyclicLinesLaw", "byState", "(LCyclicLines;I[J)I"⟩, method_24_code, some .int, 14, 3, [(0, 9, 12, 26)]),
  (⟨"CyclicLinesModel", "byState", "(I)I"⟩, prog_13_method_112_code, some .int, 10, 2, []),
  (⟨"CyclicLines", "twins", "()I"⟩, prog_1_method_42_code, some .int, 3, 1, []),
  (⟨"CyclicLinesModel", "twins", "()I"⟩, prog_13_method_113_code, some .int, 10, 1, []),
  (⟨"CyclicLines", "needTicks", "(I)V"⟩, prog_1_method_44_code, none, 3, 1, []),
  (⟨"CyclicLines", "ahead", "(II)I"⟩, prog_1_method_43_code, some .int, 3, 3, []),
  (⟨"CyclicLinesLaw", "ahead", "(LCyclicLines;II[J)I"⟩, method_25_code, some .int, 14, 4, [(0, 10, 13, 24), (0, 10, 17, 13)]),
  (⟨"CyclicLinesModel", "ahead", "(II)I"⟩, prog_13_method_114_code, some .int, 10, 3, []),
  (⟨"CyclicLines", "trial", "(IZ)I"⟩, prog_1_method_45_code, some .int, 3, 3, []),
  (⟨"CyclicLinesLaw", "trial", "(LCyclicLines;IZ[J)I"⟩, method_26_code, some .int, 14, 4, [(0, 10, 13, 13)]),
  (⟨"CyclicLinesModel", "trial", "(IZ)I"⟩, prog_13_method_115_code, some .int, 10, 3, []),
  (⟨"CyclicLines", "span", "(IZ)I"⟩, prog_1_method_46_code, some .int, 3, 3, []),
  (⟨"CyclicLinesLaw", "span", "(LCyclicLines;IZ[J)I"⟩, method_27_code, some .int, 14, 4, [(0, 10, 13, 13)]),
  (⟨"CyclicLinesModel", "span", "(IZ)I"⟩, prog_13_method_116_code, some .int, 10, 3, []),
  (⟨"CyclicLines$Journal", "told", "(II)I"⟩, prog_3_method_4_code, some .int, 5, 3, []),
  (⟨"CyclicLines", "led", "(IZ)I"⟩, prog_1_method_47_code, some .int, 3, 3, []),
  (⟨"CyclicLinesLaw", "led", "(LCyclicLines;IZ[J)I"⟩, method_28_code, some .int, 14, 4, [(0, 10, 13, 24)]),
  (⟨"CyclicLinesModel", "logged", "(II)I"⟩, prog_13_method_117_code, some .int, 10, 3, []),
  (⟨"CyclicLinesModel", "led", "(IZ)I"⟩, prog_13_method_118_code, some .int, 10, 3, []),
  (⟨"CyclicLines", "log", "(II)I"⟩, prog_1_method_48_code, some .int, 3, 3, []),
  (⟨"CyclicLinesLaw", "log", "(LCyclicLines;II[J)I"⟩, method_29_code, some .int, 14, 4, [(0, 10, 13, 26)]),
  (⟨"CyclicLinesModel", "log", "(II)I"⟩, prog_13_method_119_code, some .int, 10, 3, []),
  (⟨"CyclicLines", "seed", "(I)I"⟩, prog_1_method_49_code, some .int, 3, 2, []),
  (⟨"CyclicLinesModel", "seed", "(I)I"⟩, prog_13_method_120_code, some .int, 10, 2, []),
  (⟨"CyclicLines", "undo", "()Z"⟩, prog_1_method_50_code, some .boolean, 3, 1, []),
  (⟨"CyclicLinesModel", "undo", "()Z"⟩, prog_13_method_121_code, some .boolean, 10, 1, []),
  (⟨"CyclicLines", "image", "()V"⟩, prog_1_method_51_code, none, 3, 1, []),
  (⟨"CyclicLinesModel", "image", "()V"⟩, prog_13_method_122_code, none, 10, 1, []),
  (⟨"CyclicLines", "back", "()Z"⟩, prog_1_method_52_code, some .boolean, 3, 1, []),
  (⟨"CyclicLinesModel", "back", "()Z"⟩, prog_13_method_123_code, some .boolean, 10, 1, []),
  (⟨"CyclicLines", "count", "(I)I"⟩, prog_1_method_53_code, some .int, 3, 2, []),
  (⟨"CyclicLinesModel", "sumOf", "(I)I"⟩, prog_13_method_124_code, some .int, 10, 2, []),
  (⟨"CyclicLinesModel", "count", "(I)I"⟩, prog_13_method_125_code, some .int, 10, 2, []),
  (⟨"CyclicLinesLaw", "law", "([I)Z"⟩, code, some .boolean, 14, 1, [])]
def zMe (j : Nat) : MethodName × ByteArray × Option FieldType × Nat × Nat × List (Nat × Nat × Nat × Nat) := zMl.getD j (⟨"", "", ""⟩, ⟨#[]⟩, none, 0, 0, [])
def zmy (j : Nat) : MethodName := (zMe j).1
def zmb (j : Nat) : ByteArray := (zMe j).2.1
def zmr (j : Nat) : Option FieldType := (zMe j).2.2.1
def zmo (j : Nat) : Nat := (zMe j).2.2.2.1
def zmn (j : Nat) : Nat := (zMe j).2.2.2.2.1
def zmh (j : Nat) : List (Nat × Nat × Nat × Nat) := (zMe j).2.2.2.2.2
def zmc (j : Nat) : zC := (zmL.getD j (0, [], [], 0)).2
def zml (j : Nat) : Nat := (zmL.getD j (0, [], [], 0)).1
/-- the places of a method's words: its code, its class initialised, what it is, that it is selected -/
def zMp : List (Nat × Nat × Nat × Nat) := [(0, 0, 0, 0), (147, 109, 146, 0), (193, 112, 192, 0), (231, 113, 230, 0), (266, 108, 265, 0), (263, 111, 261, 262), (259, 111, 258, 0), (187, 111, 186, 0), (368, 114, 367, 0), (180, 110, 179, 0), (429, 115, 428, 0), (457, 116, 456, 0), (476, 117, 475, 0), (139, 108, 138, 0), (1521, 118, 1520, 0), (562, 108, 561, 0), (559, 108, 558, 1), (555, 108, 553, 554), (1612, 118, 1610, 1611), (566, 108, 564, 565), (1619, 118, 1618, 0), (1616, 118, 1614, 1615), (634, 108, 633, 0), (868, 115, 867, 0), (864, 115, 863, 0), (888, 119, 886, 887), (884, 119, 882, 883), (898, 119, 896, 897), (909, 121, 908, 0), (904, 119, 903, 0), (901, 120, 900, 0), (894, 119, 892, 893), (880, 115, 879, 0), (875, 115, 874, 0), (872, 115, 871, 15), (861, 115, 859, 860), (857, 108, 856, 14), (582, 110, 580, 581), (593, 108, 592, 0), (590, 112, 588, 589), (600, 113, 598, 599), (586, 111, 584, 585), (606, 114, 604, 605), (578, 110, 576, 577), (941, 115, 939, 940), (948, 115, 946, 947), (958, 115, 956, 957), (954, 115, 952, 953), (967, 115, 965, 966), (974, 115, 972, 973), (716, 112, 714, 715), (980, 110, 978, 979), (963, 110, 962, 16), (987, 110, 986, 17), (1006, 115, 1004, 1005), (937, 110, 935, 936), (853, 108, 851, 852), (847, 107, 846, 0), (1627, 118, 1626, 33), (1631, 118, 1630, 34), (1643, 118, 1642, 37), (1639, 118, 1638, 36), (1647, 118, 1646, 38), (1656, 118, 1655, 40), (1668, 118, 1667, 42), (1664, 118, 1663, 41), (1686, 118, 1685, 46), (1701, 118, 1700, 49), (1697, 118, 1696, 48), (1690, 118, 1689, 47), (1681, 118, 1680, 45), (1677, 118, 1676, 44), (1673, 118, 1672, 43), (1651, 118, 1650, 39), (1723, 118, 1722, 52), (1732, 118, 1731, 53), (1736, 118, 1735, 54), (1718, 118, 1717, 51), (1745, 118, 1744, 56), (1753, 118, 1752, 58), (1749, 118, 1748, 57), (1757, 118, 1756, 59), (1740, 118, 1739, 55), (1714, 118, 1713, 50), (1635, 118, 1634, 35), (1761, 118, 1760, 60), (1623, 118, 1621, 1622), (1608, 118, 1606, 1607), (1140, 109, 1139, 22), (1146, 109, 1145, 23), (1131, 109, 1130, 21), (1127, 109, 1126, 20), (1112, 109, 1111, 19), (1105, 109, 1103, 1104), (833, 109, 831, 832), (1101, 108, 1099, 1100), (1097, 107, 1096, 0), (1765, 118, 1763, 1764), (570, 108, 568, 569), (1769, 118, 1767, 1768), (1170, 108, 1169, 24), (711, 112, 709, 710), (1190, 111, 1188, 1189), (707, 111, 705, 706), (1194, 111, 1192, 1193), (638, 113, 636, 637), (631, 111, 629, 630), (643, 111, 641, 642), (651, 112, 649, 650), (655, 110, 654, 4), (670, 109, 669, 0), (666, 109, 665, 5), (661, 109, 659, 660), (675, 114, 673, 674), (647, 110, 646, 3), (683, 108, 682, 0), (680, 113, 678, 679), (693, 111, 691, 692), (698, 112, 696, 697), (687, 111, 685, 686), (722, 111, 720, 721), (726, 111, 724, 725), (703, 110, 702, 6), (730, 110, 729, 7), (734, 110, 733, 8), (739, 113, 737, 738), (744, 113, 742, 743), (748, 110, 747, 9), (761, 111, 759, 760), (757, 110, 756, 10), (769, 108, 768, 0), (766, 112, 764, 765), (773, 112, 771, 772), (753, 110, 751, 752), (627, 110, 626, 2), (623, 110, 621, 622), (1199, 108, 1198, 25), (1203, 108, 1202, 26), (1166, 108, 1164, 1165), (1160, 107, 1159, 0), (1777, 118, 1776, 61), (1789, 118, 1788, 64), (1785, 118, 1784, 63), (1793, 118, 1792, 65), (1781, 118, 1780, 62), (1805, 118, 1804, 68), (1801, 118, 1800, 67), (1797, 118, 1796, 66), (1828, 118, 1827, 0), (1831, 118, 1830, 0), (1839, 118, 1838, 75), (1844, 118, 1843, 76), (1835, 118, 1834, 74), (1825, 118, 1824, 73), (1852, 118, 1851, 78), (1856, 118, 1855, 79), (1860, 118, 1859, 80), (1848, 118, 1847, 77), (1872, 118, 1871, 83), (1868, 118, 1867, 82), (1876, 118, 1875, 84), (1880, 118, 1879, 85), (1864, 118, 1863, 81), (1889, 118, 1888, 87), (1885, 118, 1884, 86), (1897, 118, 1896, 89), (1893, 118, 1892, 88), (1821, 118, 1820, 72), (1817, 118, 1816, 71), (1813, 118, 1812, 70), (1809, 118, 1808, 69), (1901, 118, 1900, 90), (1773, 118, 1771, 1772), (1226, 108, 1224, 1225), (1222, 107, 1221, 0), (1905, 118, 1903, 1904), (1236, 108, 1234, 1235), (1232, 107, 1231, 0), (1909, 118, 1907, 1908), (1245, 108, 1243, 1244), (1241, 107, 1240, 0), (1913, 118, 1911, 1912), (825, 108, 824, 13), (1257, 108, 1256, 27), (1252, 108, 1250, 1251), (1248, 107, 1247, 0), (1921, 118, 1920, 91), (1917, 118, 1915, 1916), (1265, 108, 1263, 1264), (1260, 107, 1259, 0), (1925, 118, 1923, 1924), (1295, 111, 1293, 1294), (794, 110, 792, 793), (797, 134, 796, 0), (1290, 108, 1288, 1289), (1286, 107, 1285, 0), (1933, 118, 1932, 92), (1936, 118, 1935, 0), (1929, 118, 1927, 1928), (1304, 108, 1302, 1303), (1300, 107, 1299, 0), (1940, 118, 1938, 1939), (1317, 108, 1316, 0), (1313, 108, 1311, 1312), (1309, 107, 1308, 0), (1947, 118, 1946, 0), (1950, 118, 1949, 0), (1944, 118, 1942, 1943), (1329, 110, 1327, 1328), (1325, 108, 1323, 1324), (1321, 107, 1320, 0), (1958, 118, 1957, 93), (1954, 118, 1952, 1953), (615, 110, 613, 614), (619, 110, 617, 618), (611, 110, 609, 610), (574, 108, 572, 573), (1966, 118, 1965, 94), (1962, 118, 1960, 1961), (786, 117, 785, 11), (804, 117, 803, 12), (782, 117, 780, 781), (808, 117, 806, 807), (778, 108, 776, 777), (1974, 118, 1973, 95), (1978, 118, 1977, 96), (1970, 118, 1968, 1969), (1336, 108, 1334, 1335), (1332, 107, 1331, 0), (1983, 118, 1981, 1982), (1357, 116, 1356, 0), (1364, 116, 1363, 0), (1361, 116, 1360, 29), (1352, 116, 1350, 1351), (1348, 108, 1347, 28), (1369, 116, 1367, 1368), (1344, 108, 1342, 1343), (1340, 107, 1339, 0), (1991, 118, 1990, 97), (1998, 118, 1997, 0), (2005, 118, 2004, 0), (2002, 118, 2001, 99), (1995, 118, 1994, 98), (1987, 118, 1985, 1986), (1380, 116, 1378, 1379), (1376, 108, 1374, 1375), (1372, 107, 1371, 0), (2009, 118, 2007, 2008), (1396, 116, 1395, 30), (1391, 116, 1389, 1390), (1387, 108, 1385, 1386), (1383, 107, 1382, 0), (2013, 118, 2011, 2012), (1411, 117, 1410, 31), (1407, 117, 1405, 1406), (1416, 117, 1414, 1415), (1403, 108, 1401, 1402), (1399, 107, 1398, 0), (2027, 118, 2026, 0), (2024, 118, 2023, 0), (2031, 118, 2030, 101), (2021, 118, 2020, 100), (2017, 118, 2015, 2016), (1429, 108, 1428, 32), (1423, 108, 1421, 1422), (1419, 107, 1418, 0), (2035, 118, 2033, 2034), (1439, 108, 1438, 0), (1442, 108, 1441, 0), (1436, 108, 1434, 1435), (1432, 107, 1431, 0), (2043, 118, 2042, 102), (2047, 118, 2046, 103), (2039, 118, 2037, 2038), (1454, 108, 1453, 0), (1449, 108, 1447, 1448), (1445, 107, 1444, 0), (2051, 118, 2049, 2050), (1462, 108, 1460, 1461), (1458, 107, 1457, 0), (2061, 118, 2060, 104), (2057, 118, 2055, 2056), (1470, 108, 1468, 1469), (1466, 107, 1465, 0), (2065, 118, 2063, 2064), (812, 108, 810, 811), (2069, 118, 2067, 2068), (1481, 108, 1480, 0), (1478, 108, 1476, 1477), (1474, 107, 1473, 0), (2073, 118, 2071, 2072), (1489, 108, 1487, 1488), (1485, 107, 1484, 0), (2077, 118, 2075, 2076), (1496, 108, 1494, 1495), (1492, 107, 1491, 0), (2081, 118, 2079, 2080), (1507, 114, 1505, 1506), (1503, 108, 1501, 1502), (1499, 107, 1498, 0), (2089, 118, 2088, 105), (2085, 118, 2083, 2084), (1515, 108, 1513, 1514), (1511, 107, 1510, 0), (2093, 118, 2091, 2092), (817, 108, 815, 816), (2097, 118, 2095, 2096), (821, 108, 819, 820), (2101, 118, 2099, 2100), (829, 108, 827, 828), (2105, 118, 2103, 2104), (838, 108, 836, 837), (2109, 118, 2107, 2108), (842, 108, 840, 841), (2117, 118, 2116, 106), (2113, 118, 2111, 2112), (0, 0, 0, 0)]
def zMs (j : Nat) : Bool := ([false, false, false, false, true, false, false, false, false, false, false, false, false, false, false, true, false, false, false, false, true, false, true, true, true, false, false, false, true, true, true, false, true, true, false, false, false, false, true, false, false, false, false, false, false, false, false, false, false, false, false, false, false, false, false, false, false, true, false, false, false, false, false, false, false, false, false, false, false, false, false, false, false, false, false, false, false, false, false, false, false, false, false, false, false, false, false, false, false, false, false, false, false, false, false, false, true, false, false, false, false, false, false, false, false, false, false, false, false, false, true, false, false, false, false, true, false, false, false, false, false, false, false, false, false, false, false, false, false, false, true, false, false, false, false, false, false, false, false, true, false, false, false, false, false, false, false, false, true, true, false, false, false, false, false, false, false, false, false, false, false, false, false, false, false, false, false, false, false, false, false, false, false, false, true, false, false, true, false, false, true, false, false, false, false, true, false, false, false, true, false, false, false, true, false, true, false, true, false, false, true, false, true, false, true, true, true, false, false, false, true, false, false, false, false, false, false, false, false, false, false, false, false, false, false, false, false, false, true, false, true, true, false, false, false, false, false, true, false, true, true, false, false, false, false, false, true, false, false, false, false, true, false, false, false, false, false, true, true, true, false, false, false, false, false, true, false, true, true, false, true, false, false, false, true, false, true, false, false, true, false, false, false, true, false, false, false, true, false, true, false, false, true, false, false, true, false, false, false, true, false, false, false, true, false, false, false, false, false, false, false, false, false, false, false, false, true] : List Bool).getD j false
def zFL : List (Nat × Nat × Nat × Bool × Nat) := [(0, 11, 128, false, 149), (0, 15, 129, false, 150), (0, 18, 130, false, 151), (0, 21, 131, false, 152), (0, 24, 132, false, 153), (0, 27, 133, false, 154), (0, 30, 134, false, 155), (1, 9, 384, false, 195), (1, 15, 385, false, 200), (1, 18, 386, false, 206), (1, 21, 387, false, 209), (2, 9, 0, false, 233), (2, 15, 1, false, 236), (2, 18, 2, false, 239), (2, 21, 3, false, 241), (2, 24, 4, false, 244), (4, 80, 204, false, 305), (4, 83, 205, false, 308), (4, 73, 202, false, 299), (4, 86, 206, false, 311), (4, 89, 207, false, 314), (4, 92, 208, false, 316), (4, 95, 209, false, 319), (4, 98, 210, false, 322), (4, 76, 203, false, 302), (4, 26, 194, false, 274), (4, 101, 0, true, 234), (4, 30, 195, false, 277), (4, 37, 196, false, 279), (4, 41, 197, false, 283), (4, 44, 198, false, 287), (4, 47, 199, false, 290), (4, 50, 200, false, 293), (4, 53, 201, false, 296), (4, 14, 192, false, 267), (4, 56, 388, true, 212), (4, 20, 193, false, 271), (5, 11, 64, false, 370), (6, 11, 512, false, 381), (6, 18, 513, false, 382), (6, 25, 514, false, 383), (6, 29, 515, false, 385), (6, 33, 522, false, 399), (7, 11, 320, false, 433), (7, 17, 321, false, 434), (7, 21, 322, false, 435), (7, 24, 325, false, 438), (8, 11, 256, false, 459), (8, 15, 257, false, 460), (8, 18, 258, false, 461), (9, 11, 448, false, 478), (9, 15, 449, false, 479), (9, 18, 450, false, 480), (9, 21, 451, false, 481), (9, 24, 452, false, 482), (3, 9, 576, false, 500), (3, 16, 577, false, 501), (3, 20, 578, false, 502), (3, 23, 579, false, 503), (3, 29, 580, false, 504), (3, 33, 581, false, 505), (3, 36, 582, false, 506), (3, 39, 583, false, 507), (3, 46, 584, false, 508), (3, 53, 585, false, 509), (3, 60, 586, false, 510), (3, 64, 587, false, 511), (3, 67, 589, false, 513), (10, 7, 641, false, 1524), (10, 13, 642, false, 1525), (10, 16, 644, false, 1527), (10, 19, 645, false, 1528), (10, 22, 647, false, 1530), (10, 25, 652, false, 1535), (10, 29, 654, false, 1537), (10, 32, 660, false, 1543), (10, 35, 661, false, 1544), (10, 38, 662, false, 1545), (10, 41, 663, false, 1546), (10, 44, 664, false, 1547), (10, 47, 665, false, 1548), (10, 50, 666, false, 1549), (3, 71, 588, false, 512), (10, 53, 640, false, 1523), (10, 82, 648, false, 1531), (11, 15, 1003, false, 2141), (11, 9, 1002, false, 2140), (7, 64, 1000, true, 2139), (7, 28, 323, false, 436), (7, 31, 324, false, 437), (1, 24, 388, false, 211), (5, 19, 65, false, 371), (5, 23, 66, false, 372), (6, 37, 516, false, 386), (6, 51, 517, false, 389), (6, 54, 518, false, 391), (6, 57, 519, false, 393), (6, 60, 520, false, 395), (6, 63, 521, false, 397), (6, 69, 192, true, 269), (6, 73, 388, true, 214), (6, 156, 197, true, 286), (6, 162, 198, true, 289), (6, 165, 199, true, 292), (6, 171, 200, true, 295), (6, 177, 201, true, 298), (6, 66, 196, true, 280), (3, 93, 325, true, 439), (3, 101, 517, true, 390), (3, 109, 592, false, 516), (10, 85, 649, false, 1532), (10, 91, 650, false, 1533), (10, 88, 651, false, 1534), (10, 163, 653, false, 1536), (10, 203, 655, false, 1538), (10, 209, 656, false, 1539), (10, 214, 657, false, 1540), (10, 246, 658, false, 1541), (10, 249, 659, false, 1542), (10, 189, 646, false, 1529), (0, 34, 135, false, 157), (0, 121, 1001, true, 2142), (3, 118, 134, true, 156), (3, 124, 516, true, 388), (4, 112, 385, true, 203), (4, 123, 384, true, 197), (4, 130, 3, true, 242), (6, 76, 193, true, 272), (6, 236, 206, true, 313), (6, 280, 203, true, 304), (6, 246, 205, true, 310), (6, 200, 194, true, 275), (6, 256, 2, true, 240), (6, 267, 387, true, 210), (6, 277, 1, true, 238), (6, 287, 384, true, 199), (6, 288, 385, true, 205), (6, 289, 204, true, 307), (6, 299, 202, true, 301), (2, 43, 384, true, 196), (2, 46, 385, true, 202), (2, 47, 386, true, 207), (6, 306, 208, true, 318), (6, 309, 209, true, 321), (6, 315, 210, true, 324), (3, 148, 199, true, 291), (3, 219, 519, true, 394), (3, 137, 196, true, 282), (3, 142, 197, true, 285), (3, 145, 198, true, 288), (3, 151, 200, true, 294), (3, 154, 201, true, 297), (3, 157, 192, true, 270), (3, 161, 388, true, 215), (3, 164, 193, true, 273), (3, 167, 202, true, 300), (3, 170, 203, true, 303), (3, 174, 204, true, 306), (3, 177, 205, true, 309), (3, 180, 206, true, 312), (3, 183, 207, true, 315), (3, 186, 208, true, 317), (3, 189, 209, true, 320), (3, 192, 210, true, 323), (3, 227, 384, true, 198), (3, 234, 385, true, 204), (3, 237, 386, true, 208), (3, 242, 194, true, 276), (3, 246, 0, true, 235), (3, 251, 1, true, 237), (3, 252, 3, true, 243), (3, 257, 195, true, 278), (3, 260, 591, false, 515), (9, 46, 453, false, 483), (9, 58, 516, true, 387), (9, 65, 192, true, 268), (9, 71, 388, true, 213), (9, 74, 385, true, 201), (9, 79, 196, true, 281), (8, 21, 259, false, 462), (9, 82, 454, false, 484), (9, 93, 197, true, 284), (3, 382, 522, true, 400), (3, 385, 514, true, 384), (3, 389, 66, true, 373), (3, 398, 590, false, 514), (10, 417, 643, false, 1526), (3, 401, 518, true, 392), (3, 404, 520, true, 396), (3, 413, 521, true, 398)]
def zML : List (Nat × Nat × Nat × Nat × Bool × Nat) := [(4, 104, 4, 1, true, 264), (4, 59, 5, 0, false, 260), (4, 11, 2, 2, false, 191), (4, 25, 3, 2, true, 229), (4, 34, 6, 0, false, 256), (6, 17, 7, 2, false, 185), (6, 24, 8, 2, true, 366), (3, 15, 1, 2, true, 145), (3, 28, 9, 2, false, 178), (3, 45, 10, 2, true, 427), (3, 52, 11, 2, true, 455), (3, 59, 12, 2, true, 474), (3, 78, 15, 1, false, 560), (3, 74, 16, 0, false, 556), (10, 64, 20, 1, false, 1617), (7, 38, 22, 1, true, 865), (7, 49, 23, 1, false, 866), (11, 335, 25, 0, false, 885), (11, 1059, 28, 1, false, 907), (13, 9, 29, 1, false, 902), (11, 492, 27, 0, false, 895), (11, 495, 30, 1, false, 899), (7, 75, 26, 0, false, 881), (7, 81, 31, 0, false, 891), (7, 68, 32, 1, false, 878), (7, 53, 33, 1, false, 873), (7, 46, 15, 1, true, 933), (7, 34, 24, 1, false, 862), (7, 42, 34, 0, false, 869), (3, 121, 35, 0, false, 858), (1, 28, 38, 1, true, 591), (2, 27, 38, 1, true, 601), (4, 62, 39, 0, false, 587), (4, 66, 40, 0, false, 597), (4, 69, 38, 1, true, 602), (5, 15, 38, 1, true, 607), (6, 40, 37, 0, false, 579), (6, 44, 41, 0, false, 583), (6, 48, 42, 0, false, 603), (7, 88, 46, 0, false, 955), (7, 92, 44, 0, false, 959), (7, 100, 45, 0, false, 968), (7, 96, 47, 0, false, 975), (1, 32, 15, 1, true, 717), (6, 86, 50, 0, false, 713), (6, 119, 48, 0, false, 964), (6, 133, 49, 0, false, 971), (6, 102, 45, 0, false, 945), (6, 137, 46, 0, false, 976), (6, 140, 51, 0, false, 977), (6, 90, 44, 0, false, 938), (6, 150, 6, 0, true, 990), (6, 108, 47, 0, false, 951), (6, 112, 52, 0, false, 960), (6, 123, 53, 0, false, 984), (6, 126, 54, 0, false, 1003), (3, 82, 36, 0, false, 854), (3, 85, 43, 0, false, 575), (3, 89, 55, 0, false, 934), (14, 7, 56, 0, false, 850), (10, 94, 60, 0, false, 1640), (10, 97, 61, 0, false, 1636), (10, 100, 26, 0, false, 1657), (10, 106, 31, 0, false, 1658), (10, 110, 64, 0, false, 1665), (10, 113, 62, 0, false, 1644), (10, 121, 65, 0, false, 1661), (10, 117, 63, 0, false, 1653), (10, 198, 67, 0, false, 1698), (10, 172, 66, 0, false, 1683), (10, 217, 68, 0, false, 1694), (10, 222, 69, 0, false, 1687), (10, 225, 70, 0, false, 1678), (10, 228, 72, 0, false, 1670), (10, 233, 71, 0, false, 1674), (10, 60, 75, 0, false, 1729), (10, 126, 74, 0, false, 1720), (10, 142, 76, 0, false, 1733), (10, 56, 78, 0, false, 1742), (10, 79, 79, 0, false, 1750), (10, 146, 80, 0, false, 1746), (10, 149, 81, 0, false, 1754), (10, 155, 77, 0, false, 1715), (10, 158, 82, 0, false, 1737), (10, 166, 73, 0, false, 1648), (10, 169, 83, 0, false, 1711), (10, 176, 58, 0, false, 1624), (10, 179, 59, 0, false, 1628), (10, 182, 84, 0, false, 1632), (10, 186, 85, 0, false, 1758), (0, 81, 15, 1, true, 667), (0, 41, 44, 0, false, 1106), (0, 102, 88, 0, false, 1137), (0, 67, 47, 0, false, 1115), (0, 85, 48, 0, false, 1121), (0, 115, 46, 0, false, 1136), (0, 53, 45, 0, false, 1108), (0, 96, 90, 0, false, 1128), (0, 92, 91, 0, false, 1124), (0, 77, 49, 0, false, 1120), (0, 124, 89, 0, false, 1143), (0, 56, 92, 0, false, 1109), (0, 60, 54, 0, false, 1157), (0, 37, 38, 1, true, 834), (3, 112, 93, 0, false, 1102), (3, 115, 94, 0, false, 830), (14, 17, 95, 0, false, 1098), (3, 130, 37, 0, false, 813), (1, 36, 22, 1, true, 712), (4, 108, 101, 0, false, 708), (4, 115, 22, 1, true, 632), (4, 119, 103, 0, false, 1195), (2, 35, 22, 1, true, 639), (4, 126, 105, 0, false, 635), (6, 263, 15, 1, true, 656), (0, 136, 22, 1, true, 662), (0, 144, 110, 1, false, 668), (0, 140, 111, 0, false, 663), (5, 26, 15, 1, true, 676), (6, 249, 108, 0, false, 648), (6, 252, 109, 0, false, 652), (6, 259, 22, 1, true, 657), (6, 270, 112, 0, false, 658), (6, 239, 113, 0, false, 672), (2, 31, 115, 1, true, 681), (4, 133, 108, 0, false, 694), (1, 48, 115, 1, true, 699), (4, 137, 115, 1, true, 688), (4, 140, 15, 1, true, 689), (4, 144, 117, 0, false, 690), (4, 147, 118, 0, false, 695), (6, 284, 103, 0, false, 704), (6, 292, 118, 0, false, 718), (6, 296, 120, 0, false, 719), (6, 302, 121, 0, false, 723), (2, 39, 15, 1, true, 740), (6, 312, 5, 0, false, 749), (6, 332, 128, 0, false, 758), (1, 44, 130, 1, true, 767), (1, 40, 50, 0, false, 774), (6, 318, 129, 0, false, 754), (6, 321, 117, 0, false, 762), (6, 324, 131, 0, false, 763), (6, 328, 132, 0, false, 770), (6, 190, 106, 0, false, 628), (6, 193, 107, 0, false, 640), (6, 196, 114, 0, false, 644), (6, 204, 116, 0, false, 677), (6, 209, 119, 0, false, 684), (6, 212, 122, 0, false, 700), (6, 216, 123, 0, false, 727), (6, 220, 124, 0, false, 731), (6, 224, 125, 0, false, 736), (6, 228, 126, 0, false, 741), (6, 232, 127, 0, false, 745), (6, 242, 133, 0, false, 750), (6, 186, 134, 0, false, 624), (3, 215, 135, 0, false, 620), (3, 195, 102, 0, false, 1187), (3, 134, 100, 0, false, 1167), (3, 199, 104, 0, false, 1191), (3, 202, 136, 0, false, 1196), (3, 206, 137, 0, false, 1200), (14, 20, 138, 0, false, 1163), (10, 68, 141, 0, false, 1786), (10, 72, 142, 0, false, 1782), (10, 76, 143, 0, false, 1790), (10, 279, 145, 0, false, 1802), (10, 285, 146, 0, false, 1798), (10, 251, 148, 1, false, 1826), (10, 254, 149, 1, false, 1829), (10, 258, 150, 0, false, 1836), (10, 263, 151, 0, false, 1841), (10, 266, 152, 0, false, 1832), (10, 269, 154, 0, false, 1849), (10, 272, 155, 0, false, 1853), (10, 276, 156, 0, false, 1857), (10, 282, 158, 0, false, 1869), (10, 288, 159, 0, false, 1865), (10, 291, 160, 0, false, 1873), (10, 294, 161, 0, false, 1877), (10, 300, 163, 0, false, 1886), (10, 297, 165, 0, false, 1894), (10, 303, 153, 0, false, 1822), (10, 306, 157, 0, false, 1845), (10, 309, 162, 0, false, 1861), (10, 313, 164, 0, false, 1882), (10, 316, 166, 0, false, 1890), (10, 319, 167, 0, false, 1818), (10, 322, 168, 0, false, 1814), (10, 329, 169, 0, false, 1810), (10, 326, 144, 0, false, 1778), (10, 333, 140, 0, false, 1774), (10, 336, 147, 0, false, 1794), (10, 339, 170, 0, false, 1806), (10, 342, 171, 0, false, 1898), (3, 224, 128, 0, false, 1228), (3, 230, 22, 1, false, 1229), (14, 28, 173, 0, false, 1223), (3, 253, 105, 0, false, 1238), (14, 32, 176, 0, false, 1233), (14, 35, 179, 0, false, 1242), (3, 263, 182, 0, false, 822), (3, 269, 183, 0, false, 1254), (14, 38, 184, 0, false, 1249), (10, 345, 186, 0, false, 1918), (3, 279, 51, 0, false, 1283), (14, 42, 188, 0, false, 1262), (3, 285, 191, 0, false, 1292), (3, 288, 192, 0, false, 1296), (3, 291, 193, 1, false, 1297), (14, 47, 194, 0, false, 1287), (10, 348, 196, 0, false, 1930), (10, 351, 197, 1, false, 1934), (3, 298, 133, 0, false, 1306), (14, 50, 199, 0, false, 1301), (3, 303, 202, 1, false, 1315), (14, 53, 203, 0, false, 1310), (10, 354, 205, 1, false, 1945), (10, 358, 206, 1, false, 1948), (3, 309, 208, 0, false, 1326), (14, 56, 209, 0, false, 1322), (10, 361, 211, 0, false, 1955), (6, 79, 213, 0, false, 612), (6, 83, 214, 0, false, 616), (3, 313, 215, 0, false, 608), (10, 364, 217, 0, false, 1963), (9, 61, 37, 0, false, 787), (9, 54, 22, 1, true, 788), (9, 75, 15, 1, true, 789), (9, 50, 220, 0, false, 801), (9, 27, 219, 0, false, 783), (9, 31, 4, 1, true, 790), (9, 35, 192, 0, false, 791), (9, 41, 193, 1, false, 795), (3, 317, 221, 0, false, 779), (3, 321, 222, 0, false, 805), (10, 368, 225, 0, false, 1975), (10, 371, 224, 0, false, 1971), (14, 59, 227, 0, false, 1333), (8, 25, 22, 1, true, 1353), (8, 41, 231, 1, false, 1362), (8, 29, 15, 1, true, 1354), (8, 33, 230, 1, false, 1355), (8, 37, 232, 0, false, 1358), (3, 326, 233, 0, false, 1349), (3, 331, 234, 0, false, 1345), (3, 334, 235, 0, false, 1366), (14, 63, 236, 0, false, 1341), (10, 374, 240, 1, false, 2003), (10, 377, 239, 1, false, 1996), (10, 380, 241, 0, false, 1999), (10, 383, 238, 0, false, 1988), (10, 386, 242, 0, false, 1992), (3, 337, 244, 0, false, 1377), (14, 66, 245, 0, false, 1373), (8, 45, 235, 0, false, 1392), (8, 49, 248, 0, false, 1393), (3, 340, 249, 0, false, 1388), (14, 69, 250, 0, false, 1384), (9, 89, 38, 1, true, 1412), (9, 85, 253, 0, false, 1408), (3, 343, 254, 0, false, 1404), (3, 346, 255, 0, false, 1413), (14, 72, 256, 0, false, 1400), (10, 389, 258, 1, false, 2025), (10, 392, 259, 1, false, 2022), (10, 395, 260, 0, false, 2028), (10, 398, 261, 0, false, 2018), (3, 351, 4, 1, false, 1425), (3, 354, 263, 0, false, 1426), (14, 75, 264, 0, false, 1420), (3, 357, 267, 1, false, 1437), (3, 360, 268, 1, false, 1440), (14, 78, 269, 0, false, 1433), (10, 401, 271, 0, false, 2040), (10, 404, 272, 0, false, 2044), (3, 367, 274, 1, false, 1452), (14, 81, 275, 0, false, 1446), (14, 84, 278, 0, false, 1459), (10, 411, 280, 0, false, 2058), (14, 87, 282, 0, false, 1467), (3, 377, 287, 1, false, 1479), (14, 90, 288, 0, false, 1475), (14, 93, 291, 0, false, 1486), (14, 97, 294, 0, false, 1493), (5, 30, 22, 1, true, 1508), (3, 392, 297, 0, false, 1504), (14, 100, 298, 0, false, 1500), (10, 414, 300, 0, false, 2086), (14, 103, 302, 0, false, 1512), (3, 407, 213, 0, false, 843), (3, 410, 214, 0, false, 844), (10, 420, 314, 0, false, 2114), (14, 106, 13, 2, false, 137), (14, 109, 14, 2, false, 1519), (14, 110, 17, 0, false, 552), (14, 114, 18, 0, false, 1609), (14, 115, 19, 0, false, 563), (14, 119, 21, 0, false, 1613), (14, 120, 57, 1, false, 845), (14, 125, 86, 0, false, 1620), (14, 126, 87, 0, false, 1605), (14, 129, 96, 1, false, 1095), (14, 131, 97, 0, false, 1762), (14, 132, 98, 0, false, 567), (14, 135, 99, 0, false, 1766), (14, 136, 139, 1, false, 1158), (14, 139, 172, 0, false, 1770), (14, 140, 174, 1, false, 1220), (14, 143, 175, 0, false, 1902), (14, 144, 177, 1, false, 1230), (14, 146, 178, 0, false, 1906), (14, 147, 180, 1, false, 1239), (14, 149, 181, 0, false, 1910), (14, 150, 185, 1, false, 1246), (14, 153, 187, 0, false, 1914), (14, 154, 189, 1, false, 1258), (14, 156, 190, 0, false, 1922), (14, 157, 195, 1, false, 1284), (14, 159, 198, 0, false, 1926), (14, 160, 200, 1, false, 1298), (14, 162, 201, 0, false, 1937), (14, 163, 204, 1, false, 1307), (14, 165, 207, 0, false, 1941), (14, 166, 210, 1, false, 1319), (14, 168, 212, 0, false, 1951), (14, 169, 216, 0, false, 571), (14, 172, 218, 0, false, 1959), (14, 173, 223, 0, false, 775), (14, 176, 226, 0, false, 1967), (14, 177, 228, 1, false, 1330), (14, 180, 229, 0, false, 1980), (14, 181, 237, 1, false, 1338), (14, 183, 243, 0, false, 1984), (14, 184, 246, 1, false, 1370), (14, 186, 247, 0, false, 2006), (14, 187, 251, 1, false, 1381), (14, 189, 252, 0, false, 2010), (14, 190, 257, 1, false, 1397), (14, 192, 262, 0, false, 2014), (14, 193, 265, 1, false, 1417), (14, 195, 266, 0, false, 2032), (14, 196, 270, 1, false, 1430), (14, 198, 273, 0, false, 2036), (14, 199, 276, 1, false, 1443), (14, 201, 277, 0, false, 2048), (14, 202, 279, 1, false, 1456), (14, 204, 281, 0, false, 2054), (14, 205, 283, 1, false, 1464), (14, 207, 284, 0, false, 2062), (14, 208, 285, 0, false, 809), (14, 211, 286, 0, false, 2066), (14, 212, 289, 1, false, 1472), (14, 214, 290, 0, false, 2070), (14, 215, 292, 1, false, 1483), (14, 218, 293, 0, false, 2074), (14, 219, 295, 1, false, 1490), (14, 221, 296, 0, false, 2078), (14, 222, 299, 1, false, 1497), (14, 224, 301, 0, false, 2082), (14, 225, 303, 1, false, 1509), (14, 227, 304, 0, false, 2090), (14, 228, 305, 0, false, 814), (14, 231, 306, 0, false, 2094), (14, 232, 307, 0, false, 818), (14, 236, 308, 0, false, 2098), (14, 237, 309, 0, false, 826), (14, 240, 310, 0, false, 2102), (14, 241, 311, 0, false, 835), (14, 244, 312, 0, false, 2106), (14, 245, 313, 0, false, 839), (14, 248, 315, 0, false, 2110)]
def zKI : List (Nat × Nat × Int × Nat) := [(6, 276, 99999, 671), (6, 305, 1103515245, 735), (10, 262, 99999, 1840), (10, 257, 1103515245, 1881), (15, 265, 1431655765, 798), (15, 266, 858993459, 799), (15, 267, 252645135, 800), (10, 367, 2000000000, 1979)]
def zKJ : List (Nat × Nat × Int × Nat) := [(3, 365, 100, 1451), (3, 371, 10000, 1455), (10, 407, 100, 2052), (10, 409, 10000, 2053)]
def zGL : List (Nat × Nat × Nat × Bool × Nat) := [(11, 38, 101, false, 889), (11, 1053, 102, false, 905), (7, 61, 100, true, 876), (7, 72, 1, false, 929), (7, 57, 2, false, 931), (7, 85, 0, false, 942), (6, 130, 17, false, 969), (6, 144, 2, false, 981), (6, 147, 9, false, 988), (6, 153, 10, false, 991), (6, 159, 11, false, 993), (6, 105, 12, false, 949), (6, 168, 13, false, 995), (6, 174, 14, false, 997), (6, 180, 15, false, 999), (6, 183, 16, false, 1001), (7, 103, 3, false, 1007), (6, 96, 0, false, 944), (6, 116, 18, false, 982), (0, 133, 8, false, 1147), (0, 109, 25, false, 1132), (0, 112, 4, false, 1134), (0, 118, 5, false, 1141), (0, 127, 6, false, 1149), (0, 130, 7, false, 1151), (0, 99, 24, false, 1153), (0, 106, 23, false, 1155), (0, 64, 20, false, 1113), (0, 71, 21, false, 1116), (0, 74, 19, false, 1118), (0, 89, 22, false, 1122), (0, 47, 0, false, 1107)]
def zNL9 : List (Nat × Nat × Nat × Nat) := [(4, 9, 6, 189), (4, 23, 0, 227), (6, 9, 3, 182), (6, 22, 1, 364), (3, 13, 2, 143), (3, 26, 8, 176), (3, 43, 5, 425), (3, 50, 4, 453), (3, 57, 7, 472), (14, 8, 9, 135), (14, 107, 10, 1517)]
def zAL : List (Nat × Nat × Nat × Nat) := [(6, 9, 32, 182), (7, 9, 34, 431), (3, 26, 33, 176)]
def zOL : List (Nat × Nat × Nat) := [(0, 3, 148), (1, 3, 194), (2, 3, 232), (4, 3, 188), (5, 3, 369), (6, 3, 181), (7, 3, 430), (8, 3, 458), (9, 3, 477), (3, 1, 140), (10, 1, 1522)]
def zCL : List (Nat × Nat × Nat) := [(3, 415, 594)]
def zSL : List (Nat × Nat × Nat) := [(10, 153, 8), (10, 192, 9), (10, 193, 10), (10, 194, 11), (10, 196, 12), (10, 130, 13), (10, 161, 14), (10, 201, 5), (10, 207, 6), (10, 212, 7), (10, 220, 4), (10, 231, 15), (10, 236, 16), (10, 238, 0), (10, 240, 1), (10, 242, 2), (10, 244, 3), (10, 124, 17), (10, 132, 18), (10, 134, 19), (10, 136, 20), (10, 138, 21), (10, 140, 22), (10, 145, 23)]
def zTT (c : Nat) : u_T := match c with
  | 0 => zT0
  | 1 => zT1
  | 2 => zT2
  | 3 => zT3
  | 4 => zT4
  | 5 => zT5
  | 6 => zT6
  | 7 => zT7
  | 8 => zT8
  | 9 => zT9
  | _ => zT10
def zYY (c : Nat) : Nat → FieldType := match c with
  | 0 => zY0
  | 1 => zY1
  | 2 => zY2
  | 3 => zY3
  | 4 => zY4
  | 5 => zY5
  | 6 => zY6
  | 7 => zY7
  | 8 => zY8
  | 9 => zY9
  | _ => zY10
/-- the class, name and descriptor of a field by its number -/
def zfn (k : Nat) : String × String × String := match Nat.ble 1000 k with
  | true => match k with
    | 1000 => ("CyclicLines$Word", "written", "Ljava/lang/String;")
    | 1001 => ("CyclicLines$Word", "fact", "I")
    | 1002 => ("java/lang/String", "value", "[B")
    | _ => ("java/lang/String", "coder", "B")
  | false => ((zTT (k / 64) (k % 64)).1, (zTT (k / 64) (k % 64)).2.1, (zTT (k / 64) (k % 64)).2.2.1)
def zWnm : List String := ["END", "WRONG", "NUMBER", "SEMICOLON", "OPEN", "CLOSE", "LESS", "MORE", "PLUS", "LINE", "NOISE", "DELAY", "UNITS", "OCTETS", "LIMIT", "IN_STATE", "PROVING_STATE", "OF", "TICK", "SPOIL_LINE", "MEND_LINE", "WORTH_LINE", "IF", "OR", "AND", "NOT", "FILLS", "FORCED", "REPEAT", "LENGTH", "KEPT", "QUEUE", "BUCKET"]
def zsn (k : Nat) : String × String × String := match Nat.ble 100 k with
  | false => ("CyclicLines$Word", zWnm.getD k "", "LCyclicLines$Word;")
  | true => match k with
    | 100 => ("CyclicLines", "WORDS", "[LCyclicLines$Word;")
    | 101 => ("java/lang/String", "COMPACT_STRINGS", "Z")
    | _ => ("jdk/internal/util/Preconditions", "SIOOBE_FORMATTER", "Ljava/util/function/BiFunction;")
def zgw (p : Nat) (w : Cond) : Bool := match lw_tbl[p]? with
  | some u => decide (u = w) && goodWord w
  | none => false
def zbw (p : Nat) (w : Cond) : Bool := match lw_tbl[p]? with
  | some u => decide (u = w)
  | none => false
theorem zgw_ok {p : Nat} {w : Cond} (h : zgw p w = true) : w ∈ lw_tbl ∧ goodWord w = true := by
  unfold zgw at h
  split at h
  · rename_i u hu
    simp only [Bool.and_eq_true, decide_eq_true_eq] at h
    rw [← h.1]
    exact ⟨List.mem_of_getElem? hu, by rw [h.1]; exact h.2⟩
  · cases h
theorem zbw_ok {p : Nat} {w : Cond} (h : zbw p w = true) : w ∈ lw_tbl := by
  unfold zbw at h
  split at h
  · rename_i u hu
    simp only [decide_eq_true_eq] at h
    rw [← h]
    exact List.mem_of_getElem? hu
  · cases h
def zFLc (e : Nat × Nat × Nat × Bool × Nat) : Bool := match e.2.2.2.1 with
  | false => zgw e.2.2.2.2 (.fieldLink (zcn e.1) e.2.1 (zfn e.2.2.1).1 (zfn e.2.2.1).2.1 (zfn e.2.2.1).2.2)
  | true => zbw e.2.2.2.2 (.fieldLinkNest (zcn e.1) e.2.1 (zfn e.2.2.1).1 (zfn e.2.2.1).2.1 (zfn e.2.2.1).2.2 "CyclicLines")
theorem zFL_ok : zFL.all zFLc = true := by decide +kernel
def zMLc (e : Nat × Nat × Nat × Nat × Bool × Nat) : Bool := match e.2.2.2.2.1 with
  | false => zgw e.2.2.2.2.2 (.methodLink (zcn e.1) e.2.1 (zmy e.2.2.1))
  | true => zbw e.2.2.2.2.2 (.methodLinkNest (zcn e.1) e.2.1 (zmy e.2.2.1) "CyclicLines")
theorem zML_ok : zML.all zMLc = true := by decide +kernel
theorem zKI_ok : zKI.all (fun e => zgw e.2.2.2 (.constant (zcn e.1) e.2.1 (Int32.ofInt e.2.2.1))) = true := by decide +kernel
theorem zKJ_ok : zKJ.all (fun e => zgw e.2.2.2 (.constantLong (zcn e.1) e.2.1 (Int64.ofInt e.2.2.1))) = true := by decide +kernel
def zGLc (e : Nat × Nat × Nat × Bool × Nat) : Bool := match e.2.2.2.1 with
  | false => zgw e.2.2.2.2 (.fieldLink (zcn e.1) e.2.1 (zsn e.2.2.1).1 (zsn e.2.2.1).2.1 (zsn e.2.2.1).2.2)
  | true => zbw e.2.2.2.2 (.fieldLinkNest (zcn e.1) e.2.1 (zsn e.2.2.1).1 (zsn e.2.2.1).2.1 (zsn e.2.2.1).2.2 "CyclicLines")
theorem zGL_ok : zGL.all zGLc = true := by decide +kernel
def zON (c : Nat) : String := ["CyclicLines$Air", "CyclicLines$Journal", "CyclicLines$Law", "CyclicLines$Line", "CyclicLines$Period", "CyclicLines$Text", "CyclicLines$Units", "CyclicLines$Ways", "CyclicLines$World", "CyclicLines", "CyclicLinesModel"].getD c ""
theorem zNL_ok : zNL9.all (fun e => zgw e.2.2.2 (.classLink (zcn e.1) e.2.1 (zON e.2.2.1))) = true := by decide +kernel
def zAN (t : Nat) : String := if t = 32 then "CyclicLines$Line" else if t = 33 then "CyclicLines$World" else "CyclicLines$Word"
theorem zAL_ok : zAL.all (fun e => zgw e.2.2.2 (.classLink (zcn e.1) e.2.1 (zAN e.2.2.1))) = true := by decide +kernel
theorem zOL_ok : zOL.all (fun e => zgw e.2.2 (.methodLink (zcn e.1) e.2.1 objectInit)) = true := by decide +kernel
theorem zCL_ok : zCL.all (fun e => zgw e.2.2 (.methodLink (zcn e.1) e.2.1 arraycopyName)) = true := by decide +kernel
/-- a method's words -/
def zcw (j : Nat) : Cond := match (zmh j).isEmpty with
    | true => .code (zmy j) (zmb j) (zml j) (zmr j)
    | false => .codeWith (zmy j) (zmb j) (zml j) (zmr j) (zmh j)
def zMcP (j : Nat) : Prop := lw_tbl[(zMp.getD j (0, 0, 0, 0)).1]? = some (zcw j)
def zMi (j : Nat) : Bool := zgw (zMp.getD j (0, 0, 0, 0)).2.1 (.initialized (zmy j).cls)
def zMk (j : Nat) : Bool := match zMs j with
    | true => zgw (zMp.getD j (0, 0, 0, 0)).2.2.1 (.static (zmy j))
    | false => zgw (zMp.getD j (0, 0, 0, 0)).2.2.1 (.instanceMethod (zmy j)) && (decide ((zmy j).name = "<init>") || zgw (zMp.getD j (0, 0, 0, 0)).2.2.2 (.selects (zmy j).cls (zmy j) (zmy j)))
def zMd (j : Nat) : Bool := decide ((parseMethodDescriptor (zmy j).desc).map (fun d => d.parameters.length) = some (if zMs j then zmn j else zmn j - 1)) && decide ((zmy j).cls ≠ "java/lang/invoke/MethodHandle" ∧ (zmy j).cls ≠ "java/lang/invoke/VarHandle") && plainName (zmy j).cls && decide (zcn (zmo j) = (zmy j).cls)
theorem zMi_1 : (List.range 64).all (fun i => zMi (1 + i)) = true := by decide +kernel
theorem zMi_65 : (List.range 64).all (fun i => zMi (65 + i)) = true := by decide +kernel
theorem zMi_129 : (List.range 64).all (fun i => zMi (129 + i)) = true := by decide +kernel
theorem zMi_193 : (List.range 64).all (fun i => zMi (193 + i)) = true := by decide +kernel
theorem zMi_257 : (List.range 59).all (fun i => zMi (257 + i)) = true := by decide +kernel
theorem zMi_ok {j : Nat} (h0 : 0 < j) (h : j < 316) : zMi j = true := by
  by_cases c0 : j < 65
  · have := List.all_eq_true.mp zMi_1 (j - 1) (List.mem_range.mpr (by omega))
    rwa [show 1 + (j - 1) = j by omega] at this
  · by_cases c1 : j < 129
    · have := List.all_eq_true.mp zMi_65 (j - 65) (List.mem_range.mpr (by omega))
      rwa [show 65 + (j - 65) = j by omega] at this
    · by_cases c2 : j < 193
      · have := List.all_eq_true.mp zMi_129 (j - 129) (List.mem_range.mpr (by omega))
        rwa [show 129 + (j - 129) = j by omega] at this
      · by_cases c3 : j < 257
        · have := List.all_eq_true.mp zMi_193 (j - 193) (List.mem_range.mpr (by omega))
          rwa [show 193 + (j - 193) = j by omega] at this
        · have := List.all_eq_true.mp zMi_257 (j - 257) (List.mem_range.mpr (by omega))
          rwa [show 257 + (j - 257) = j by omega] at this

theorem zMk_1 : (List.range 64).all (fun i => zMk (1 + i)) = true := by decide +kernel
theorem zMk_65 : (List.range 64).all (fun i => zMk (65 + i)) = true := by decide +kernel
theorem zMk_129 : (List.range 64).all (fun i => zMk (129 + i)) = true := by decide +kernel
theorem zMk_193 : (List.range 64).all (fun i => zMk (193 + i)) = true := by decide +kernel
theorem zMk_257 : (List.range 59).all (fun i => zMk (257 + i)) = true := by decide +kernel
theorem zMk_ok {j : Nat} (h0 : 0 < j) (h : j < 316) : zMk j = true := by
  by_cases c0 : j < 65
  · have := List.all_eq_true.mp zMk_1 (j - 1) (List.mem_range.mpr (by omega))
    rwa [show 1 + (j - 1) = j by omega] at this
  · by_cases c1 : j < 129
    · have := List.all_eq_true.mp zMk_65 (j - 65) (List.mem_range.mpr (by omega))
      rwa [show 65 + (j - 65) = j by omega] at this
    · by_cases c2 : j < 193
      · have := List.all_eq_true.mp zMk_129 (j - 129) (List.mem_range.mpr (by omega))
        rwa [show 129 + (j - 129) = j by omega] at this
      · by_cases c3 : j < 257
        · have := List.all_eq_true.mp zMk_193 (j - 193) (List.mem_range.mpr (by omega))
          rwa [show 193 + (j - 193) = j by omega] at this
        · have := List.all_eq_true.mp zMk_257 (j - 257) (List.mem_range.mpr (by omega))
          rwa [show 257 + (j - 257) = j by omega] at this

theorem zMd_1 : (List.range 64).all (fun i => zMd (1 + i)) = true := by decide +kernel
theorem zMd_65 : (List.range 64).all (fun i => zMd (65 + i)) = true := by decide +kernel
theorem zMd_129 : (List.range 64).all (fun i => zMd (129 + i)) = true := by decide +kernel
theorem zMd_193 : (List.range 64).all (fun i => zMd (193 + i)) = true := by decide +kernel
theorem zMd_257 : (List.range 59).all (fun i => zMd (257 + i)) = true := by decide +kernel
theorem zMd_ok {j : Nat} (h0 : 0 < j) (h : j < 316) : zMd j = true := by
  by_cases c0 : j < 65
  · have := List.all_eq_true.mp zMd_1 (j - 1) (List.mem_range.mpr (by omega))
    rwa [show 1 + (j - 1) = j by omega] at this
  · by_cases c1 : j < 129
    · have := List.all_eq_true.mp zMd_65 (j - 65) (List.mem_range.mpr (by omega))
      rwa [show 65 + (j - 65) = j by omega] at this
    · by_cases c2 : j < 193
      · have := List.all_eq_true.mp zMd_129 (j - 129) (List.mem_range.mpr (by omega))
        rwa [show 129 + (j - 129) = j by omega] at this
      · by_cases c3 : j < 257
        · have := List.all_eq_true.mp zMd_193 (j - 193) (List.mem_range.mpr (by omega))
          rwa [show 193 + (j - 193) = j by omega] at this
        · have := List.all_eq_true.mp zMd_257 (j - 257) (List.mem_range.mpr (by omega))
          rwa [show 257 + (j - 257) = j by omega] at this

/-- two rows of octets alike -/
def zlq : List UInt8 → List UInt8 → Bool
  | [], [] => true
  | a :: l, b :: m => Nat.beq a.toNat b.toNat && zlq l m
  | _, _ => false
theorem zlq_ok : ∀ (l m : List UInt8), zlq l m = true → l = m := by
  intro l
  induction l with
  | nil =>
    intro m h
    cases m with
    | nil => rfl
    | cons b m => simp [zlq] at h
  | cons a l ih =>
    intro m h
    cases m with
    | nil => simp [zlq] at h
    | cons b m =>
      rw [zlq, Bool.and_eq_true] at h
      rw [UInt8.toNat_inj.mp (Nat.eq_of_beq_eq_true h.1), ih m h.2]
def zbq (b c : ByteArray) : Bool := zlq b.data.toList c.data.toList
theorem zbq_ok {b c : ByteArray} (h : zbq b c = true) : b = c := by
  obtain ⟨⟨l⟩⟩ := b
  obtain ⟨⟨m⟩⟩ := c
  have h1 : l = m := zlq_ok l m h
  rw [h1]
def zcwk (j : Nat) : Bool := match lw_tbl[(zMp.getD j (0, 0, 0, 0)).1]? with
  | some (.code m b l r) => (zmh j).isEmpty && (decide (m = zmy j) && (zbq b (zmb j) && (Nat.beq l (zml j) && decide (r = zmr j))))
  | some (.codeWith m b l r h) => !(zmh j).isEmpty && (decide (m = zmy j) && (zbq b (zmb j) && (Nat.beq l (zml j) && (decide (r = zmr j) && decide (h = zmh j)))))
  | _ => false
theorem zcwk_ok {j : Nat} (h : zcwk j = true) : zMcP j := by
  unfold zcwk at h
  unfold zMcP zcw
  split at h
  · rename_i m b l r e
    simp only [Bool.and_eq_true, decide_eq_true_eq] at h
    obtain ⟨h0, h1, h2, h3, h4⟩ := h
    rw [e, h0, h1, zbq_ok h2, Nat.eq_of_beq_eq_true h3, h4]
  · rename_i m b l r hh e
    simp only [Bool.and_eq_true, decide_eq_true_eq, Bool.not_eq_true'] at h
    obtain ⟨h0, h1, h2, h3, h4, h5⟩ := h
    rw [e, h0, h1, zbq_ok h2, Nat.eq_of_beq_eq_true h3, h4, h5]
  · cases h
theorem zcwk_1 : (List.range 64).all (fun i => zcwk (1 + i)) = true := by decide +kernel
theorem zcwk_65 : (List.range 64).all (fun i => zcwk (65 + i)) = true := by decide +kernel
theorem zcwk_129 : (List.range 64).all (fun i => zcwk (129 + i)) = true := by decide +kernel
theorem zcwk_193 : (List.range 64).all (fun i => zcwk (193 + i)) = true := by decide +kernel
theorem zcwk_257 : (List.range 59).all (fun i => zcwk (257 + i)) = true := by decide +kernel
theorem zcw_lt316 : ∀ a, a < 316 → 0 < a → zMcP a := by
  intro j h h0
  by_cases c0 : j < 65
  · exact zcwk_ok (by have := List.all_eq_true.mp zcwk_1 (j - 1) (List.mem_range.mpr (by omega)); rwa [show 1 + (j - 1) = j by omega] at this)
  by_cases c1 : j < 129
  · exact zcwk_ok (by have := List.all_eq_true.mp zcwk_65 (j - 65) (List.mem_range.mpr (by omega)); rwa [show 65 + (j - 65) = j by omega] at this)
  by_cases c2 : j < 193
  · exact zcwk_ok (by have := List.all_eq_true.mp zcwk_129 (j - 129) (List.mem_range.mpr (by omega)); rwa [show 129 + (j - 129) = j by omega] at this)
  by_cases c3 : j < 257
  · exact zcwk_ok (by have := List.all_eq_true.mp zcwk_193 (j - 193) (List.mem_range.mpr (by omega)); rwa [show 193 + (j - 193) = j by omega] at this)
  exact zcwk_ok (by have := List.all_eq_true.mp zcwk_257 (j - 257) (List.mem_range.mpr (by omega)); rwa [show 257 + (j - 257) = j by omega] at this)
