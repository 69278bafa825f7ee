/-! ## links -/
def zcn (o : Nat) : String := ["CyclicLines$Law", "CyclicLines$Units", "CyclicLines$Air", "CyclicLines", "CyclicLines$Line", "CyclicLines$Journal", "CyclicLines$World", "CyclicLines$Text", "CyclicLines$Period", "CyclicLines$Ways", "CyclicLinesModel", "java/lang/String", "jdk/internal/util/Preconditions", "java/lang/StringLatin1", "CyclicLinesLaw", "java/lang/Integer"].getD o ""
def zMl : List (MethodName × ByteArray × Option FieldType × Nat × Nat × List (Nat × Nat × Nat × Nat)) := [(⟨"", "", ""⟩, ⟨#[]⟩, none, 0, 0, []),
  (⟨"CyclicLines$Law", "<init>", "()V"⟩, prog_4_method_1_code, none, 0, 1, []),
  (⟨"CyclicLines$Units", "<init>", "(IZ)V"⟩, prog_8_method_1_code, none, 1, 3, []),
  (⟨"CyclicLines$Air", "<init>", "()V"⟩, prog_2_method_1_code, none, 2, 1, []),
  (⟨"CyclicLines", "clearRow", "([II)V"⟩, prog_1_method_56_code, none, 3, 2, []),
  (⟨"CyclicLines$Line", "beginAnew", "()V"⟩, prog_5_method_4_code, none, 4, 1, []),
  (⟨"CyclicLines$Line", "makeNew", "()V"⟩, prog_5_method_2_code, none, 4, 1, []),
  (⟨"CyclicLines$Line", "<init>", "()V"⟩, prog_5_method_1_code, none, 4, 1, []),
  (⟨"CyclicLines$Journal", "<init>", "()V"⟩, prog_3_method_1_code, none, 5, 1, []),
  (⟨"CyclicLines$World", "<init>", "()V"⟩, prog_11_method_1_code, none, 6, 1, []),
  (⟨"CyclicLines$Text", "<init>", "()V"⟩, prog_7_method_1_code, none, 7, 1, []),
  (⟨"CyclicLines$Period", "<init>", "()V"⟩, prog_6_method_1_code, none, 8, 1, []),
  (⟨"CyclicLines$Ways", "<init>", "()V"⟩, prog_9_method_1_code, none, 9, 1, []),
  (⟨"CyclicLines", "<init>", "()V"⟩, prog_1_method_1_code, none, 3, 1, []),
  (⟨"CyclicLinesModel", "<init>", "()V"⟩, prog_13_method_1_code, none, 10, 1, []),
  (⟨"CyclicLines", "put", "([III)V"⟩, prog_1_method_55_code, none, 3, 3, []),
  (⟨"CyclicLines", "putBytes", "(I)V"⟩, prog_1_method_3_code, none, 3, 2, []),
  (⟨"CyclicLines", "feed", "(IIIII)I"⟩, prog_1_method_2_code, some .int, 3, 6, []),
  (⟨"CyclicLinesModel", "feed", "(IIIII)I"⟩, prog_13_method_18_code, some .int, 10, 6, []),
  (⟨"CyclicLines", "end", "(I)Z"⟩, prog_1_method_4_code, some .boolean, 3, 2, []),
  (⟨"CyclicLinesModel", "isIn", "(III)Z"⟩, prog_13_method_3_code, some .boolean, 10, 3, []),
  (⟨"CyclicLinesModel", "end", "(I)Z"⟩, prog_13_method_19_code, some .boolean, 10, 2, []),
  (⟨"CyclicLines", "at", "([II)I"⟩, prog_1_method_54_code, some .int, 3, 2, []),
  (⟨"CyclicLines$Text", "kindOf", "(I)I"⟩, prog_7_method_4_code, some .int, 7, 1, []),
  (⟨"CyclicLines$Text", "endOf", "([III)I"⟩, prog_7_method_3_code, some .int, 7, 3, []),
  (⟨"java/lang/String", "coder", "()B"⟩, prog_24_method_152_code, some .byte, 11, 1, []),
  (⟨"java/lang/String", "length", "()I"⟩, prog_24_method_54_code, some .int, 11, 1, []),
  (⟨"java/lang/String", "isLatin1", "()Z"⟩, prog_24_method_154_code, some .boolean, 11, 1, []),
  (⟨"jdk/internal/util/Preconditions", "checkIndex", "(IILjava/util/function/BiFunction;)I"⟩, prog_33_method_11_code, some .int, 12, 3, []),
  (⟨"java/lang/String", "checkIndex", "(II)V"⟩, prog_24_method_155_code, none, 11, 2, []),
  (⟨"java/lang/StringLatin1", "charAt", "([BI)C"⟩, prog_25_method_2_code, some .char, 13, 2, []),
  (⟨"java/lang/String", "charAt", "(I)C"⟩, prog_24_method_56_code, some .char, 11, 2, []),
  (⟨"CyclicLines$Text", "isWritten", "(Ljava/lang/String;[III)Z"⟩, prog_7_method_7_code, some .boolean, 7, 4, []),
  (⟨"CyclicLines$Text", "wordOf", "([III)LCyclicLines$Word;"⟩, prog_7_method_6_code, some (.object "CyclicLines$Word"), 7, 3, []),
  (⟨"CyclicLines$Text", "addThing", "([III)V"⟩, prog_7_method_5_code, none, 7, 4, []),
  (⟨"CyclicLines$Text", "readFrom", "([II)V"⟩, prog_7_method_2_code, none, 7, 3, []),
  (⟨"CyclicLines", "readTape", "()V"⟩, prog_1_method_7_code, none, 3, 1, []),
  (⟨"CyclicLines$World", "lineAt", "(I)LCyclicLines$Line;"⟩, prog_11_method_3_code, some (.object "CyclicLines$Line"), 6, 2, []),
  (⟨"CyclicLines", "copyRow", "([I[II)V"⟩, prog_1_method_57_code, none, 3, 3, []),
  (⟨"CyclicLines$Units", "copyFrom", "(LCyclicLines$Units;)V"⟩, prog_8_method_2_code, none, 1, 2, []),
  (⟨"CyclicLines$Air", "copyFrom", "(LCyclicLines$Air;)V"⟩, prog_2_method_2_code, none, 2, 2, []),
  (⟨"CyclicLines$Line", "copyFrom", "(LCyclicLines$Line;)V"⟩, prog_5_method_3_code, none, 4, 2, []),
  (⟨"CyclicLines$Journal", "copyFrom", "(LCyclicLines$Journal;)V"⟩, prog_3_method_2_code, none, 5, 2, []),
  (⟨"CyclicLines$World", "copyFrom", "(LCyclicLines$World;)V"⟩, prog_11_method_2_code, none, 6, 2, []),
  (⟨"CyclicLines$Text", "word", "()LCyclicLines$Word;"⟩, prog_7_method_8_code, some (.object "CyclicLines$Word"), 7, 1, []),
  (⟨"CyclicLines$Text", "fail", "()V"⟩, prog_7_method_10_code, none, 7, 1, []),
  (⟨"CyclicLines$Text", "failed", "()Z"⟩, prog_7_method_9_code, some .boolean, 7, 1, []),
  (⟨"CyclicLines$Text", "passes", "(LCyclicLines$Word;)Z"⟩, prog_7_method_11_code, some .boolean, 7, 2, []),
  (⟨"CyclicLines$Text", "number", "(II)I"⟩, prog_7_method_13_code, some .int, 7, 3, []),
  (⟨"CyclicLines$Text", "needs", "(LCyclicLines$Word;)V"⟩, prog_7_method_12_code, none, 7, 2, []),
  (⟨"CyclicLines$Units", "add", "(III)Z"⟩, prog_8_method_3_code, some .boolean, 1, 4, []),
  (⟨"CyclicLines$World", "tellUnit", "(LCyclicLines$Line;I)I"⟩, prog_11_method_8_code, some .int, 6, 3, []),
  (⟨"CyclicLines$World", "readUnits", "(LCyclicLines$Text;)V"⟩, prog_11_method_10_code, none, 6, 2, []),
  (⟨"CyclicLines$World", "readLine", "(LCyclicLines$Text;)V"⟩, prog_11_method_11_code, none, 6, 2, []),
  (⟨"CyclicLines$Text", "goesOn", "()Z"⟩, prog_7_method_14_code, some .boolean, 7, 1, []),
  (⟨"CyclicLines$World", "readLines", "(LCyclicLines$Text;)V"⟩, prog_11_method_9_code, none, 6, 2, []),
  (⟨"CyclicLines", "lines", "()I"⟩, prog_1_method_5_code, some .int, 3, 1, []),
  (⟨"CyclicLinesLaw", "lines", "(LCyclicLines;[J)I"⟩, method_3_code, some .int, 14, 2, [(0, 8, 11, 13), (0, 8, 14, 15)]),
  (⟨"CyclicLinesModel", "putsAside", "()V"⟩, prog_13_method_35_code, none, 10, 1, []),
  (⟨"CyclicLinesModel", "begins", "()V"⟩, prog_13_method_33_code, none, 10, 1, []),
  (⟨"CyclicLinesModel", "letter", "(I)I"⟩, prog_13_method_20_code, some .int, 10, 2, []),
  (⟨"CyclicLinesModel", "skip", "()V"⟩, prog_13_method_21_code, none, 10, 1, []),
  (⟨"CyclicLinesModel", "wrong", "(I)V"⟩, prog_13_method_24_code, none, 10, 2, []),
  (⟨"CyclicLinesModel", "has", "(Ljava/lang/String;)Z"⟩, prog_13_method_23_code, some .boolean, 10, 2, []),
  (⟨"CyclicLinesModel", "here", "()I"⟩, prog_13_method_25_code, some .int, 10, 1, []),
  (⟨"CyclicLinesModel", "figures", "(II)I"⟩, prog_13_method_26_code, some .int, 10, 3, []),
  (⟨"CyclicLinesModel", "isSign", "(I)Z"⟩, prog_13_method_22_code, some .boolean, 10, 2, []),
  (⟨"CyclicLinesModel", "part", "()I"⟩, prog_13_method_38_code, some .int, 10, 1, []),
  (⟨"CyclicLinesModel", "amount", "()I"⟩, prog_13_method_39_code, some .int, 10, 1, []),
  (⟨"CyclicLinesModel", "plain", "()Z"⟩, prog_13_method_40_code, some .boolean, 10, 1, []),
  (⟨"CyclicLinesModel", "atom", "()Z"⟩, prog_13_method_41_code, some .boolean, 10, 1, []),
  (⟨"CyclicLinesModel", "every", "()Z"⟩, prog_13_method_42_code, some .boolean, 10, 1, []),
  (⟨"CyclicLinesModel", "some", "()Z"⟩, prog_13_method_43_code, some .boolean, 10, 1, []),
  (⟨"CyclicLinesModel", "lawLine", "()V"⟩, prog_13_method_44_code, none, 10, 1, []),
  (⟨"CyclicLinesModel", "maybe", "(Ljava/lang/String;III)I"⟩, prog_13_method_29_code, some .int, 10, 5, []),
  (⟨"CyclicLinesModel", "lays", "(III)V"⟩, prog_13_method_9_code, none, 10, 4, []),
  (⟨"CyclicLinesModel", "empties", "(I)V"⟩, prog_13_method_50_code, none, 10, 2, []),
  (⟨"CyclicLinesModel", "addLine", "(I)V"⟩, prog_13_method_30_code, none, 10, 2, []),
  (⟨"CyclicLinesModel", "of", "(II)I"⟩, prog_13_method_8_code, some .int, 10, 3, []),
  (⟨"CyclicLinesModel", "adds", "(III)V"⟩, prog_13_method_10_code, none, 10, 4, []),
  (⟨"CyclicLinesModel", "queues", "(III)V"⟩, prog_13_method_17_code, none, 10, 4, []),
  (⟨"CyclicLinesModel", "isFigure", "()Z"⟩, prog_13_method_28_code, some .boolean, 10, 1, []),
  (⟨"CyclicLinesModel", "addUnits", "()V"⟩, prog_13_method_31_code, none, 10, 1, []),
  (⟨"CyclicLinesModel", "lineOfText", "()V"⟩, prog_13_method_32_code, none, 10, 1, []),
  (⟨"CyclicLinesModel", "reads", "(Z)I"⟩, prog_13_method_34_code, some .int, 10, 2, []),
  (⟨"CyclicLinesModel", "comesBack", "()V"⟩, prog_13_method_36_code, none, 10, 1, []),
  (⟨"CyclicLinesModel", "lines", "()I"⟩, prog_13_method_37_code, some .int, 10, 1, []),
  (⟨"CyclicLinesModel", "thrown", "()I"⟩, prog_13_method_2_code, some .int, 10, 1, []),
  (⟨"CyclicLines$Law", "emit", "(I)V"⟩, prog_4_method_8_code, none, 0, 2, []),
  (⟨"CyclicLines$Law", "readSum", "(LCyclicLines$Text;)V"⟩, prog_4_method_7_code, none, 0, 2, []),
  (⟨"CyclicLines$Law", "readAtom", "(LCyclicLines$Text;I)V"⟩, prog_4_method_6_code, none, 0, 3, []),
  (⟨"CyclicLines$Law", "readCondition", "(LCyclicLines$Text;I)V"⟩, prog_4_method_5_code, none, 0, 3, []),
  (⟨"CyclicLines$Law", "readLine", "(LCyclicLines$Text;)V"⟩, prog_4_method_4_code, none, 0, 2, []),
  (⟨"CyclicLines$Law", "readFrom", "(LCyclicLines$Text;)V"⟩, prog_4_method_3_code, none, 0, 2, []),
  (⟨"CyclicLines$Law", "copyFrom", "(LCyclicLines$Law;)V"⟩, prog_4_method_2_code, none, 0, 2, []),
  (⟨"CyclicLines", "law", "()I"⟩, prog_1_method_6_code, some .int, 3, 1, []),
  (⟨"CyclicLinesLaw", "law", "(LCyclicLines;[J)I"⟩, method_4_code, some .int, 14, 2, [(0, 8, 11, 13)]),
  (⟨"CyclicLinesModel", "law", "()I"⟩, prog_13_method_45_code, some .int, 10, 1, []),
  (⟨"CyclicLines", "fault", "()I"⟩, prog_1_method_8_code, some .int, 3, 1, []),
  (⟨"CyclicLinesModel", "fault", "()I"⟩, prog_13_method_46_code, some .int, 10, 1, []),
  (⟨"CyclicLines", "lineOf", "(I)LCyclicLines$Line;"⟩, prog_1_method_9_code, some (.object "CyclicLines$Line"), 3, 2, []),
  (⟨"CyclicLines$Units", "octets", "()I"⟩, prog_8_method_8_code, some .int, 1, 1, []),
  (⟨"CyclicLines$Line", "load", "()I"⟩, prog_5_method_6_code, some .int, 4, 1, []),
  (⟨"CyclicLines$Line", "fits", "()Z"⟩, prog_5_method_8_code, some .boolean, 4, 1, []),
  (⟨"CyclicLines$Line", "comes", "()I"⟩, prog_5_method_9_code, some .int, 4, 1, []),
  (⟨"CyclicLines$Air", "isBad", "(I)Z"⟩, prog_2_method_4_code, some .boolean, 2, 2, []),
  (⟨"CyclicLines$Line", "watch", "()Z"⟩, prog_5_method_10_code, some .boolean, 4, 1, []),
  (⟨"CyclicLines$Line", "takesArrived", "()Z"⟩, prog_5_method_11_code, some .boolean, 4, 1, []),
  (⟨"CyclicLines$Units", "placeOf", "(I)I"⟩, prog_8_method_7_code, some .int, 1, 2, []),
  (⟨"CyclicLines$World", "tellFacts", "(ILCyclicLines$Line;)V"⟩, prog_11_method_15_code, none, 6, 3, []),
  (⟨"CyclicLines$Law", "joined", "(III)I"⟩, prog_4_method_11_code, some .int, 0, 3, []),
  (⟨"CyclicLines$Law", "holds", "(I[I)Z"⟩, prog_4_method_10_code, some .boolean, 0, 3, []),
  (⟨"CyclicLines$Law", "sumOf", "(I[I)I"⟩, prog_4_method_9_code, some .int, 0, 3, []),
  (⟨"CyclicLines$Journal", "add", "(IIII)V"⟩, prog_3_method_3_code, none, 5, 5, []),
  (⟨"CyclicLines$World", "take", "(ILCyclicLines$Line;LCyclicLines$Law;)V"⟩, prog_11_method_14_code, none, 6, 4, []),
  (⟨"CyclicLines", "shiftRow", "([II)V"⟩, prog_1_method_58_code, none, 3, 2, []),
  (⟨"CyclicLines$Air", "comeAhead", "()V"⟩, prog_2_method_3_code, none, 2, 1, []),
  (⟨"CyclicLines$Line", "toldBy", "(I)I"⟩, prog_5_method_12_code, some .int, 4, 2, []),
  (⟨"CyclicLines$Units", "dropFirst", "(I)V"⟩, prog_8_method_6_code, none, 1, 2, []),
  (⟨"CyclicLines$Line", "comeBack", "()V"⟩, prog_5_method_13_code, none, 4, 1, []),
  (⟨"CyclicLines$Line", "forceRound", "()V"⟩, prog_5_method_14_code, none, 4, 1, []),
  (⟨"CyclicLines$Line", "handOn", "()V"⟩, prog_5_method_15_code, none, 4, 1, []),
  (⟨"CyclicLines$World", "send", "(ILCyclicLines$Line;)I"⟩, prog_11_method_16_code, some .int, 6, 3, []),
  (⟨"CyclicLines$World", "chanceOn", "(LCyclicLines$Line;LCyclicLines$Law;)I"⟩, prog_11_method_18_code, some .int, 6, 3, []),
  (⟨"CyclicLines$World", "isSpoiled", "(IZ)Z"⟩, prog_11_method_19_code, some .boolean, 6, 3, []),
  (⟨"CyclicLines$Air", "putFiller", "(IZ)V"⟩, prog_2_method_5_code, none, 2, 3, []),
  (⟨"CyclicLines$Air", "putUnit", "(ILCyclicLines$Units;IZ)V"⟩, prog_2_method_6_code, none, 2, 5, []),
  (⟨"CyclicLines$World", "prove", "(ILCyclicLines$Line;Z)V"⟩, prog_11_method_20_code, none, 6, 4, []),
  (⟨"CyclicLines$Line", "row", "()I"⟩, prog_5_method_7_code, some .int, 4, 1, []),
  (⟨"CyclicLines$World", "fewest", "(I)I"⟩, prog_11_method_22_code, some .int, 6, 2, []),
  (⟨"CyclicLines", "openRow", "([I)V"⟩, prog_1_method_59_code, none, 3, 1, []),
  (⟨"CyclicLines$Units", "putAhead", "(LCyclicLines$Units;)V"⟩, prog_8_method_5_code, none, 1, 2, []),
  (⟨"CyclicLines$Units", "addAll", "(LCyclicLines$Units;)I"⟩, prog_8_method_4_code, some .int, 1, 2, []),
  (⟨"CyclicLines$World", "changeOver", "(I)I"⟩, prog_11_method_21_code, some .int, 6, 2, []),
  (⟨"CyclicLines$World", "passLine", "(ILCyclicLines$Law;Z)V"⟩, prog_11_method_13_code, none, 6, 4, []),
  (⟨"CyclicLines$World", "pass", "(ILCyclicLines$Law;Z)V"⟩, prog_11_method_12_code, none, 6, 4, []),
  (⟨"CyclicLines", "windowOf", "(I)I"⟩, prog_1_method_11_code, some .int, 3, 2, []),
  (⟨"CyclicLines", "partOf", "(LCyclicLines$Line;)I"⟩, prog_1_method_12_code, some .int, 3, 2, []),
  (⟨"CyclicLines", "line", "(II)I"⟩, prog_1_method_10_code, some .int, 3, 3, []),
  (⟨"CyclicLinesLaw", "line", "(LCyclicLines;II[J)I"⟩, method_5_code, some .int, 14, 4, [(0, 10, 13, 24), (0, 10, 17, 26)]),
  (⟨"CyclicLinesModel", "isLine", "(I)Z"⟩, prog_13_method_11_code, some .boolean, 10, 2, []),
  (⟨"CyclicLinesModel", "held", "(III)I"⟩, prog_13_method_12_code, some .int, 10, 4, []),
  (⟨"CyclicLinesModel", "octetsKept", "(I)I"⟩, prog_13_method_15_code, some .int, 10, 2, []),
  (⟨"CyclicLinesModel", "queued", "(III)I"⟩, prog_13_method_13_code, some .int, 10, 4, []),
  (⟨"CyclicLinesModel", "load", "(I)I"⟩, prog_13_method_16_code, some .int, 10, 2, []),
  (⟨"CyclicLinesModel", "fits", "(I)Z"⟩, prog_13_method_57_code, some .boolean, 10, 2, []),
  (⟨"CyclicLinesModel", "nextOf", "(I)I"⟩, prog_13_method_58_code, some .int, 10, 2, []),
  (⟨"CyclicLinesModel", "comesNext", "(I)I"⟩, prog_13_method_71_code, some .int, 10, 2, []),
  (⟨"CyclicLinesModel", "lesser", "(II)I"⟩, prog_13_method_4_code, some .int, 10, 2, []),
  (⟨"CyclicLinesModel", "greater", "(II)I"⟩, prog_13_method_5_code, some .int, 10, 2, []),
  (⟨"CyclicLinesModel", "asks", "(IIZZ)V"⟩, prog_13_method_47_code, none, 10, 5, []),
  (⟨"CyclicLinesModel", "logs", "(III)V"⟩, prog_13_method_49_code, none, 10, 4, []),
  (⟨"CyclicLinesModel", "isTaken", "(I)V"⟩, prog_13_method_51_code, none, 10, 2, []),
  (⟨"CyclicLinesModel", "arrives", "(I)Z"⟩, prog_13_method_52_code, some .boolean, 10, 2, []),
  (⟨"CyclicLinesModel", "aheadOf", "(II)I"⟩, prog_13_method_53_code, some .int, 10, 3, []),
  (⟨"CyclicLinesModel", "leaves", "(II)V"⟩, prog_13_method_54_code, none, 10, 3, []),
  (⟨"CyclicLinesModel", "wraps", "(I)V"⟩, prog_13_method_56_code, none, 10, 2, []),
  (⟨"CyclicLinesModel", "hasReply", "(I)V"⟩, prog_13_method_55_code, none, 10, 2, []),
  (⟨"CyclicLinesModel", "isSent", "(II)V"⟩, prog_13_method_59_code, none, 10, 3, []),
  (⟨"CyclicLinesModel", "sendsNew", "(I)V"⟩, prog_13_method_60_code, none, 10, 2, []),
  (⟨"CyclicLinesModel", "sendsAtHand", "(I)V"⟩, prog_13_method_61_code, none, 10, 2, []),
  (⟨"CyclicLinesModel", "draw", "(I)I"⟩, prog_13_method_48_code, some .int, 10, 2, []),
  (⟨"CyclicLinesModel", "sends", "(IZ)V"⟩, prog_13_method_62_code, none, 10, 3, []),
  (⟨"CyclicLinesModel", "beginsAnew", "(I)V"⟩, prog_13_method_63_code, none, 10, 2, []),
  (⟨"CyclicLinesModel", "isProved", "(IZ)V"⟩, prog_13_method_66_code, none, 10, 3, []),
  (⟨"CyclicLinesModel", "otherIn", "(I)I"⟩, prog_13_method_64_code, some .int, 10, 2, []),
  (⟨"CyclicLinesModel", "goesOver", "(I)I"⟩, prog_13_method_65_code, some .int, 10, 2, []),
  (⟨"CyclicLinesModel", "goesOn", "(IZ)V"⟩, prog_13_method_67_code, none, 10, 3, []),
  (⟨"CyclicLinesModel", "passes", "(Z)V"⟩, prog_13_method_68_code, none, 10, 2, []),
  (⟨"CyclicLinesModel", "goes", "(IZ)I"⟩, prog_13_method_69_code, some .int, 10, 3, []),
  (⟨"CyclicLinesModel", "windowOf", "(I)I"⟩, prog_13_method_72_code, some .int, 10, 2, []),
  (⟨"CyclicLinesModel", "loadOfAll", "()I"⟩, prog_13_method_70_code, some .int, 10, 1, []),
  (⟨"CyclicLinesModel", "line", "(II)I"⟩, prog_13_method_73_code, some .int, 10, 3, []),
  (⟨"CyclicLines", "unit", "(III)I"⟩, prog_1_method_13_code, some .int, 3, 4, []),
  (⟨"CyclicLinesLaw", "unit", "(LCyclicLines;III[J)I"⟩, method_6_code, some .int, 14, 5, [(0, 12, 15, 24), (0, 12, 19, 26)]),
  (⟨"CyclicLinesModel", "unit", "(III)I"⟩, prog_13_method_74_code, some .int, 10, 4, []),
  (⟨"CyclicLines", "air", "(III)I"⟩, prog_1_method_14_code, some .int, 3, 4, []),
  (⟨"CyclicLinesLaw", "air", "(LCyclicLines;III[J)I"⟩, method_7_code, some .int, 14, 5, [(0, 12, 15, 24), (0, 12, 19, 26)]),
  (⟨"CyclicLinesModel", "air", "(III)I"⟩, prog_13_method_75_code, some .int, 10, 4, []),
  (⟨"CyclicLines", "reply", "(II)I"⟩, prog_1_method_15_code, some .int, 3, 3, []),
  (⟨"CyclicLinesLaw", "reply", "(LCyclicLines;II[J)I"⟩, method_8_code, some .int, 14, 4, [(0, 10, 13, 24)]),
  (⟨"CyclicLinesModel", "reply", "(II)I"⟩, prog_13_method_76_code, some .int, 10, 3, []),
  (⟨"CyclicLines", "rememberedAt", "(I)LCyclicLines$World;"⟩, prog_1_method_17_code, some (.object "CyclicLines$World"), 3, 2, []),
  (⟨"CyclicLines", "remember", "()V"⟩, prog_1_method_16_code, none, 3, 1, []),
  (⟨"CyclicLines", "ticks", "(I)I"⟩, prog_1_method_18_code, some .int, 3, 2, []),
  (⟨"CyclicLinesLaw", "ticks", "(LCyclicLines;I[J)I"⟩, method_9_code, some .int, 14, 3, [(0, 9, 12, 13)]),
  (⟨"CyclicLinesModel", "remembers", "()V"⟩, prog_13_method_77_code, none, 10, 1, []),
  (⟨"CyclicLinesModel", "ticks", "(I)I"⟩, prog_13_method_78_code, some .int, 10, 2, []),
  (⟨"CyclicLines", "tell", "(II)I"⟩, prog_1_method_19_code, some .int, 3, 3, []),
  (⟨"CyclicLinesLaw", "tell", "(LCyclicLines;II[J)I"⟩, method_10_code, some .int, 14, 4, [(0, 10, 13, 24), (0, 10, 17, 13), (0, 10, 21, 45)]),
  (⟨"CyclicLinesModel", "tell", "(II)I"⟩, prog_13_method_79_code, some .int, 10, 3, []),
  (⟨"CyclicLines$Line", "prove", "()V"⟩, prog_5_method_5_code, none, 4, 1, []),
  (⟨"CyclicLines$World", "inState", "(I)I"⟩, prog_11_method_4_code, some .int, 6, 2, []),
  (⟨"java/lang/Integer", "bitCount", "(I)I"⟩, prog_22_method_49_code, some .int, 15, 1, []),
  (⟨"CyclicLines", "start", "(I)I"⟩, prog_1_method_20_code, some .int, 3, 2, []),
  (⟨"CyclicLinesLaw", "start", "(LCyclicLines;I[J)I"⟩, method_11_code, some .int, 14, 3, [(0, 9, 12, 24), (0, 9, 15, 45)]),
  (⟨"CyclicLinesModel", "inState", "(I)I"⟩, prog_13_method_14_code, some .int, 10, 2, []),
  (⟨"CyclicLinesModel", "bits", "(I)I"⟩, prog_13_method_7_code, some .int, 10, 1, []),
  (⟨"CyclicLinesModel", "start", "(I)I"⟩, prog_13_method_80_code, some .int, 10, 2, []),
  (⟨"CyclicLines", "shut", "(I)I"⟩, prog_1_method_21_code, some .int, 3, 2, []),
  (⟨"CyclicLinesLaw", "shut", "(LCyclicLines;I[J)I"⟩, method_12_code, some .int, 14, 3, [(0, 9, 12, 24), (0, 9, 15, 45)]),
  (⟨"CyclicLinesModel", "shut", "(I)I"⟩, prog_13_method_81_code, some .int, 10, 2, []),
  (⟨"CyclicLines", "mayBeTuned", "(II)Z"⟩, prog_1_method_23_code, some .boolean, 3, 2, []),
  (⟨"CyclicLines", "tune", "(III)I"⟩, prog_1_method_22_code, some .int, 3, 4, []),
  (⟨"CyclicLinesLaw", "tune", "(LCyclicLines;III[J)I"⟩, method_13_code, some .int, 14, 5, [(0, 12, 15, 24), (0, 12, 19, 26), (0, 12, 23, 13)]),
  (⟨"CyclicLinesModel", "isRight", "(II)Z"⟩, prog_13_method_83_code, some .boolean, 10, 2, []),
  (⟨"CyclicLinesModel", "tuned", "(I)I"⟩, prog_13_method_82_code, some .int, 10, 1, []),
  (⟨"CyclicLinesModel", "tune", "(III)I"⟩, prog_13_method_84_code, some .int, 10, 4, []),
  (⟨"CyclicLines$World", "fillerChance", "(ILCyclicLines$Law;)I"⟩, prog_11_method_17_code, some .int, 6, 3, []),
  (⟨"CyclicLines", "chance", "(I)I"⟩, prog_1_method_24_code, some .int, 3, 2, []),
  (⟨"CyclicLinesLaw", "chance", "(LCyclicLines;I[J)I"⟩, method_14_code, some .int, 14, 3, [(0, 9, 12, 24)]),
  (⟨"CyclicLinesModel", "fillerChance", "(I)I"⟩, prog_13_method_85_code, some .int, 10, 2, []),
  (⟨"CyclicLinesModel", "chance", "(I)I"⟩, prog_13_method_86_code, some .int, 10, 2, []),
  (⟨"CyclicLines$World", "queued", "()I"⟩, prog_11_method_5_code, some .int, 6, 1, []),
  (⟨"CyclicLines$World", "unitsKept", "()I"⟩, prog_11_method_6_code, some .int, 6, 1, []),
  (⟨"CyclicLines$World", "isClear", "()Z"⟩, prog_11_method_7_code, some .boolean, 6, 1, []),
  (⟨"CyclicLines", "clear", "()I"⟩, prog_1_method_25_code, some .int, 3, 1, []),
  (⟨"CyclicLinesModel", "unitsLeft", "()I"⟩, prog_13_method_87_code, some .int, 10, 1, []),
  (⟨"CyclicLinesModel", "clear", "()I"⟩, prog_13_method_88_code, some .int, 10, 1, []),
  (⟨"CyclicLines$Ways", "gather", "(LCyclicLines$World;)I"⟩, prog_9_method_4_code, some .int, 9, 2, []),
  (⟨"CyclicLines$Ways", "putUnit", "(LCyclicLines$World;II)Z"⟩, prog_9_method_5_code, some .boolean, 9, 4, []),
  (⟨"CyclicLines$Ways", "splitUnits", "(LCyclicLines$World;)I"⟩, prog_9_method_2_code, some .int, 9, 2, []),
  (⟨"CyclicLines$Ways", "lineOfUnit", "(I)I"⟩, prog_9_method_3_code, some .int, 9, 2, []),
  (⟨"CyclicLines", "split", "(I)I"⟩, prog_1_method_26_code, some .int, 3, 2, []),
  (⟨"CyclicLinesModel", "firstUnits", "()I"⟩, prog_13_method_89_code, some .int, 10, 1, []),
  (⟨"CyclicLinesModel", "longest", "(II)I"⟩, prog_13_method_90_code, some .int, 10, 3, []),
  (⟨"CyclicLinesModel", "split", "(I)I"⟩, prog_13_method_91_code, some .int, 10, 2, []),
  (⟨"CyclicLines", "takes", "(Z)I"⟩, prog_1_method_27_code, some .int, 3, 2, []),
  (⟨"CyclicLinesLaw", "takes", "(LCyclicLines;Z[J)I"⟩, method_15_code, some .int, 14, 3, [(0, 9, 12, 13)]),
  (⟨"CyclicLinesModel", "takes", "(Z)I"⟩, prog_13_method_92_code, some .int, 10, 2, []),
  (⟨"CyclicLines$Period", "isOne", "(I)Z"⟩, prog_6_method_3_code, some .boolean, 8, 1, []),
  (⟨"CyclicLines$Period", "hits", "(III)Z"⟩, prog_6_method_4_code, some .boolean, 8, 3, []),
  (⟨"CyclicLines$Period", "wrongRows", "(II)I"⟩, prog_6_method_5_code, some .int, 8, 3, []),
  (⟨"CyclicLines$Period", "readFrom", "([II)Z"⟩, prog_6_method_2_code, some .boolean, 8, 3, []),
  (⟨"CyclicLines", "readRows", "()V"⟩, prog_1_method_28_code, none, 3, 1, []),
  (⟨"CyclicLines$Period", "howMany", "()I"⟩, prog_6_method_6_code, some .int, 8, 1, []),
  (⟨"CyclicLines", "period", "()I"⟩, prog_1_method_29_code, some .int, 3, 1, []),
  (⟨"CyclicLinesLaw", "period", "(LCyclicLines;[J)I"⟩, method_16_code, some .int, 14, 2, [(0, 8, 11, 13)]),
  (⟨"CyclicLinesModel", "rowsTold", "()I"⟩, prog_13_method_93_code, some .int, 10, 1, []),
  (⟨"CyclicLinesModel", "isCourse", "(I)Z"⟩, prog_13_method_94_code, some .boolean, 10, 1, []),
  (⟨"CyclicLinesModel", "isBad", "(II)Z"⟩, prog_13_method_95_code, some .boolean, 10, 2, []),
  (⟨"CyclicLinesModel", "wrongRows", "(II)I"⟩, prog_13_method_96_code, some .int, 10, 3, []),
  (⟨"CyclicLinesModel", "isFit", "(II)Z"⟩, prog_13_method_97_code, some .boolean, 10, 3, []),
  (⟨"CyclicLinesModel", "period", "()I"⟩, prog_13_method_98_code, some .int, 10, 1, []),
  (⟨"CyclicLines$Period", "first", "()I"⟩, prog_6_method_7_code, some .int, 8, 1, []),
  (⟨"CyclicLines", "likely", "()I"⟩, prog_1_method_30_code, some .int, 3, 1, []),
  (⟨"CyclicLinesLaw", "likely", "(LCyclicLines;[J)I"⟩, method_17_code, some .int, 14, 2, [(0, 8, 11, 13)]),
  (⟨"CyclicLinesModel", "likely", "()I"⟩, prog_13_method_99_code, some .int, 10, 1, []),
  (⟨"CyclicLines$Period", "hitBy", "(I)I"⟩, prog_6_method_9_code, some .int, 8, 2, []),
  (⟨"CyclicLines$Period", "parting", "()I"⟩, prog_6_method_8_code, some .int, 8, 1, []),
  (⟨"CyclicLines", "probe", "()I"⟩, prog_1_method_31_code, some .int, 3, 1, []),
  (⟨"CyclicLinesLaw", "probe", "(LCyclicLines;[J)I"⟩, method_18_code, some .int, 14, 2, [(0, 8, 11, 13)]),
  (⟨"CyclicLinesModel", "probe", "()I"⟩, prog_13_method_100_code, some .int, 10, 1, []),
  (⟨"CyclicLines$Ways", "pairLine", "(LCyclicLines$World;II)V"⟩, prog_9_method_8_code, none, 9, 4, []),
  (⟨"CyclicLines$Ways", "pairLines", "(LCyclicLines$World;)I"⟩, prog_9_method_6_code, some .int, 9, 2, []),
  (⟨"CyclicLines$Ways", "partnerOf", "(I)I"⟩, prog_9_method_7_code, some .int, 9, 2, []),
  (⟨"CyclicLines", "pairs", "(I)I"⟩, prog_1_method_32_code, some .int, 3, 2, []),
  (⟨"CyclicLinesLaw", "pairs", "(LCyclicLines;I[J)I"⟩, method_19_code, some .int, 14, 3, [(0, 9, 12, 24)]),
  (⟨"CyclicLinesModel", "isOf", "(II)Z"⟩, prog_13_method_6_code, some .boolean, 10, 2, []),
  (⟨"CyclicLinesModel", "lowest", "(I)I"⟩, prog_13_method_101_code, some .int, 10, 1, []),
  (⟨"CyclicLinesModel", "both", "(II)I"⟩, prog_13_method_102_code, some .int, 10, 3, []),
  (⟨"CyclicLinesModel", "allBest", "()V"⟩, prog_13_method_103_code, none, 10, 1, []),
  (⟨"CyclicLinesModel", "pairs", "(I)I"⟩, prog_13_method_104_code, some .int, 10, 2, []),
  (⟨"CyclicLines", "nextShare", "()I"⟩, prog_1_method_34_code, some .int, 3, 1, []),
  (⟨"CyclicLines", "share", "(II)I"⟩, prog_1_method_33_code, some .int, 3, 3, []),
  (⟨"CyclicLinesLaw", "share", "(LCyclicLines;II[J)I"⟩, method_20_code, some .int, 14, 4, [(0, 10, 13, 24), (0, 10, 17, 13)]),
  (⟨"CyclicLinesModel", "share", "(II)I"⟩, prog_13_method_105_code, some .int, 10, 3, []),
  (⟨"CyclicLines", "keeperHas", "(LCyclicLines$Line;I)I"⟩, prog_1_method_36_code, some .int, 3, 2, []),
  (⟨"CyclicLines", "noiseHas", "(LCyclicLines$Line;I)I"⟩, prog_1_method_37_code, some .int, 3, 2, []),
  (⟨"CyclicLines", "rests", "(I)I"⟩, prog_1_method_35_code, some .int, 3, 2, []),
  (⟨"CyclicLinesLaw", "rests", "(LCyclicLines;I[J)I"⟩, method_21_code, some .int, 14, 3, [(0, 9, 12, 24)]),
  (⟨"CyclicLinesModel", "keeperHas", "(III)I"⟩, prog_13_method_106_code, some .int, 10, 4, []),
  (⟨"CyclicLinesModel", "noiseHas", "(III)I"⟩, prog_13_method_107_code, some .int, 10, 4, []),
  (⟨"CyclicLinesModel", "rests", "(I)I"⟩, prog_13_method_108_code, some .int, 10, 2, []),
  (⟨"CyclicLines", "exactly", "(III)J"⟩, prog_1_method_39_code, some .long, 3, 3, []),
  (⟨"CyclicLines", "odds", "(III)I"⟩, prog_1_method_38_code, some .int, 3, 4, []),
  (⟨"CyclicLinesLaw", "odds", "(LCyclicLines;III[J)I"⟩, method_22_code, some .int, 14, 5, [(0, 12, 15, 24), (0, 12, 19, 13)]),
  (⟨"CyclicLinesModel", "odds", "(III)I"⟩, prog_13_method_109_code, some .int, 10, 4, []),
  (⟨"CyclicLines", "most", "(I)I"⟩, prog_1_method_40_code, some .int, 3, 2, []),
  (⟨"CyclicLinesLaw", "most", "(LCyclicLines;I[J)I"⟩, method_23_code, some .int, 14, 3, [(0, 9, 12, 26)]),
  (⟨"CyclicLinesModel", "valueOf", "(II)I"⟩, prog_13_method_110_code, some .int, 10, 3, []),
  (⟨"CyclicLinesModel", "most", "(I)I"⟩, prog_13_method_111_code, some .int, 10, 2, []),
  (⟨"CyclicLines", "byState", "(I)I"⟩, prog_1_method_41_code, some .int, 3, 2, []),
  (⟨"CyclicLinesLaw", "byState", "(LCyclicLines;I[J)I"⟩, method_24_code, some .int, 14, 3, [(0, 9, 12, 26)]),
  (⟨"CyclicLinesModel", "byState", "(I)I"⟩, prog_13_method_112_code, some .int, 10, 2, []),
  (⟨"CyclicLines", "twins", "()I"⟩, prog_1_method_42_code, some .int, 3, 1, []),
  (⟨"CyclicLinesModel", "twins", "()I"⟩, prog_13_method_113_code, some .int, 10, 1, []),
  (⟨"CyclicLines", "needTicks", "(I)V"⟩, prog_1_method_44_code, none, 3, 1, []),
  (⟨"CyclicLines", "ahead", "(II)I"⟩, prog_1_method_43_code, some .int, 3, 3, []),
  (⟨"CyclicLinesLaw", "ahead", "(LCyclicLines;II[J)I"⟩, method_25_code, some .int, 14, 4, [(0, 10, 13, 24), (0, 10, 17, 13)]),
  (⟨"CyclicLinesModel", "ahead", "(II)I"⟩, prog_13_method_114_code, some .int, 10, 3, []),
  (⟨"CyclicLines", "trial", "(IZ)I"⟩, prog_1_method_45_code, some .int, 3, 3, []),
  (⟨"CyclicLinesLaw", "trial", "(LCyclicLines;IZ[J)I"⟩, method_26_code, some .int, 14, 4, [(0, 10, 13, 13)]),
  (⟨"CyclicLinesModel", "trial", "(IZ)I"⟩, prog_13_method_115_code, some .int, 10, 3, []),
  (⟨"CyclicLines", "span", "(IZ)I"⟩, prog_1_method_46_code, some .int, 3, 3, []),
  (⟨"CyclicLinesLaw", "span", "(LCyclicLines;IZ[J)I"⟩, method_27_code, some .int, 14, 4, [(0, 10, 13, 13)]),
  (⟨"CyclicLinesModel", "span", "(IZ)I"⟩, prog_13_method_116_code, some .int, 10, 3, []),
  (⟨"CyclicLines$Journal", "told", "(II)I"⟩, prog_3_method_4_code, some .int, 5, 3, []),
  (⟨"CyclicLines", "led", "(IZ)I"⟩, prog_1_method_47_code, some .int, 3, 3, []),
  (⟨"CyclicLinesLaw", "led", "(LCyclicLines;IZ[J)I"⟩, method_28_code, some .int, 14, 4, [(0, 10, 13, 24)]),
  (⟨"CyclicLinesModel", "logged", "(II)I"⟩, prog_13_method_117_code, some .int, 10, 3, []),
  (⟨"CyclicLinesModel", "led", "(IZ)I"⟩, prog_13_method_118_code, some .int, 10, 3, []),
  (⟨"CyclicLines", "log", "(II)I"⟩, prog_1_method_48_code, some .int, 3, 3, []),
  (⟨"CyclicLinesLaw", "log", "(LCyclicLines;II[J)I"⟩, method_29_code, some .int, 14, 4, [(0, 10, 13, 26)]),
  (⟨"CyclicLinesModel", "log", "(II)I"⟩, prog_13_method_119_code, some .int, 10, 3, []),
  (⟨"CyclicLines", "seed", "(I)I"⟩, prog_1_method_49_code, some .int, 3, 2, []),
  (⟨"CyclicLinesModel", "seed", "(I)I"⟩, prog_13_method_120_code, some .int, 10, 2, []),
  (⟨"CyclicLines", "undo", "()Z"⟩, prog_1_method_50_code, some .boolean, 3, 1, []),
  (⟨"CyclicLinesModel", "undo", "()Z"⟩, prog_13_method_121_code, some .boolean, 10, 1, []),
  (⟨"CyclicLines", "image", "()V"⟩, prog_1_method_51_code, none, 3, 1, []),
  (⟨"CyclicLinesModel", "image", "()V"⟩, prog_13_method_122_code, none, 10, 1, []),
  (⟨"CyclicLines", "back", "()Z"⟩, prog_1_method_52_code, some .boolean, 3, 1, []),
  (⟨"CyclicLinesModel", "back", "()Z"⟩, prog_13_method_123_code, some .boolean, 10, 1, []),
  (⟨"CyclicLines", "count", "(I)I"⟩, prog_1_method_53_code, some .int, 3, 2, []),
  (⟨"CyclicLinesModel", "sumOf", "(I)I"⟩, prog_13_method_124_code, some .int, 10, 2, []),
  (⟨"CyclicLinesModel", "count", "(I)I"⟩, prog_13_method_125_code, some .int, 10, 2, []),
  (⟨"CyclicLinesLaw", "law", "([I)Z"⟩, code, some .boolean, 14, 1, [])]
def zMe (j : Nat) : MethodName × ByteArray × Option FieldType × Nat × Nat × List (Nat × Nat × Nat × Nat) := zMl.getD j (⟨"", "", ""⟩, ⟨#[]⟩, none, 0, 0, [])
def zmy (j : Nat) : MethodName := (zMe j).1
def zmb (j : Nat) : ByteArray := (zMe j).2.1
def zmr (j : Nat) : Option FieldType := (zMe j).2.2.1
def zmo (j : Nat) : Nat := (zMe j).2.2.2.1
def zmn (j : Nat) : Nat := (zMe j).2.2.2.2.1
def zmh (j : Nat) : List (Nat × Nat × Nat × Nat) := (zMe j).2.2.2.2.2
def zmc (j : Nat) : zC := (zmL.getD j (0, [], [], 0)).2
def zml (j : Nat) : Nat := (zmL.getD j (0, [], [], 0)).1
/-- the places of a method's words: its code, its class initialised, what it is, that it is selected -/
def zMp : List (Nat × Nat × Nat × Nat) := [(0, 0, 0, 0), (147, 109, 146, 0), (193, 112, 192, 0), (231, 113, 230, 0), (266, 108, 265, 0), (263, 111, 261, 262), (259, 111, 258, 0), (187, 111, 186, 0), (368, 114, 367, 0), (180, 110, 179, 0), (429, 115, 428, 0), (457, 116, 456, 0), (476, 117, 475, 0), (139, 108, 138, 0), (1521, 118, 1520, 0), (562, 108, 561, 0), (559, 108, 558, 1), (555, 108, 553, 554), (1612, 118, 1610, 1611), (566, 108, 564, 565), (1619, 118, 1618, 0), (1616, 118, 1614, 1615), (634, 108, 633, 0), (868, 115, 867, 0), (864, 115, 863, 0), (888, 119, 886, 887), (884, 119, 882, 883), (898, 119, 896, 897), (909, 121, 908, 0), (904, 119, 903, 0), (901, 120, 900, 0), (894, 119, 892, 893), (880, 115, 879, 0), (875, 115, 874, 0), (872, 115, 871, 15), (861, 115, 859, 860), (857, 108, 856, 14), (582, 110, 580, 581), (593, 108, 592, 0), (590, 112, 588, 589), (600, 113, 598, 599), (586, 111, 584, 585), (606, 114, 604, 605), (578, 110, 576, 577), (941, 115, 939, 940), (948, 115, 946, 947), (958, 115, 956, 957), (954, 115, 952, 953), (967, 115, 965, 966), (974, 115, 972, 973), (716, 112, 714, 715), (980, 110, 978, 979), (963, 110, 962, 16), (987, 110, 986, 17), (1006, 115, 1004, 1005), (937, 110, 935, 936), (853, 108, 851, 852), (847, 107, 846, 0), (1627, 118, 1626, 33), (1631, 118, 1630, 34), (1643, 118, 1642, 37), (1639, 118, 1638, 36), (1647, 118, 1646, 38), (1656, 118, 1655, 40), (1668, 118, 1667, 42), (1664, 118, 1663, 41), (1686, 118, 1685, 46), (1701, 118, 1700, 49), (1697, 118, 1696, 48), (1690, 118, 1689, 47), (1681, 118, 1680, 45), (1677, 118, 1676, 44), (1673, 118, 1672, 43), (1651, 118, 1650, 39), (1723, 118, 1722, 52), (1732, 118, 1731, 53), (1736, 118, 1735, 54), (1718, 118, 1717, 51), (1745, 118, 1744, 56), (1753, 118, 1752, 58), (1749, 118, 1748, 57), (1757, 118, 1756, 59), (1740, 118, 1739, 55), (1714, 118, 1713, 50), (1635, 118, 1634, 35), (1761, 118, 1760, 60), (1623, 118, 1621, 1622), (1608, 118, 1606, 1607), (1140, 109, 1139, 22), (1146, 109, 1145, 23), (1131, 109, 1130, 21), (1127, 109, 1126, 20), (1112, 109, 1111, 19), (1105, 109, 1103, 1104), (833, 109, 831, 832), (1101, 108, 1099, 1100), (1097, 107, 1096, 0), (1765, 118, 1763, 1764), (570, 108, 568, 569), (1769, 118, 1767, 1768), (1170, 108, 1169, 24), (711, 112, 709, 710), (1190, 111, 1188, 1189), (707, 111, 705, 706), (1194, 111, 1192, 1193), (638, 113, 636, 637), (631, 111, 629, 630), (643, 111, 641, 642), (651, 112, 649, 650), (655, 110, 654, 4), (670, 109, 669, 0), (666, 109, 665, 5), (661, 109, 659, 660), (675, 114, 673, 674), (647, 110, 646, 3), (683, 108, 682, 0), (680, 113, 678, 679), (693, 111, 691, 692), (698, 112, 696, 697), (687, 111, 685, 686), (722, 111, 720, 721), (726, 111, 724, 725), (703, 110, 702, 6), (730, 110, 729, 7), (734, 110, 733, 8), (739, 113, 737, 738), (744, 113, 742, 743), (748, 110, 747, 9), (761, 111, 759, 760), (757, 110, 756, 10), (769, 108, 768, 0), (766, 112, 764, 765), (773, 112, 771, 772), (753, 110, 751, 752), (627, 110, 626, 2), (623, 110, 621, 622), (1199, 108, 1198, 25), (1203, 108, 1202, 26), (1166, 108, 1164, 1165), (1160, 107, 1159, 0), (1777, 118, 1776, 61), (1789, 118, 1788, 64), (1785, 118, 1784, 63), (1793, 118, 1792, 65), (1781, 118, 1780, 62), (1805, 118, 1804, 68), (1801, 118, 1800, 67), (1797, 118, 1796, 66), (1828, 118, 1827, 0), (1831, 118, 1830, 0), (1839, 118, 1838, 75), (1844, 118, 1843, 76), (1835, 118, 1834, 74), (1825, 118, 1824, 73), (1852, 118, 1851, 78), (1856, 118, 1855, 79), (1860, 118, 1859, 80), (1848, 118, 1847, 77), (1872, 118, 1871, 83), (1868, 118, 1867, 82), (1876, 118, 1875, 84), (1880, 118, 1879, 85), (1864, 118, 1863, 81), (1889, 118, 1888, 87), (1885, 118, 1884, 86), (1897, 118, 1896, 89), (1893, 118, 1892, 88), (1821, 118, 1820, 72), (1817, 118, 1816, 71), (1813, 118, 1812, 70), (1809, 118, 1808, 69), (1901, 118, 1900, 90), (1773, 118, 1771, 1772), (1226, 108, 1224, 1225), (1222, 107, 1221, 0), (1905, 118, 1903, 1904), (1236, 108, 1234, 1235), (1232, 107, 1231, 0), (1909, 118, 1907, 1908), (1245, 108, 1243, 1244), (1241, 107, 1240, 0), (1913, 118, 1911, 1912), (825, 108, 824, 13), (1257, 108, 1256, 27), (1252, 108, 1250, 1251), (1248, 107, 1247, 0), (1921, 118, 1920, 91), (1917, 118, 1915, 1916), (1265, 108, 1263, 1264), (1260, 107, 1259, 0), (1925, 118, 1923, 1924), (1295, 111, 1293, 1294), (794, 110, 792, 793), (797, 134, 796, 0), (1290, 108, 1288, 1289), (1286, 107, 1285, 0), (1933, 118, 1932, 92), (1936, 118, 1935, 0), (1929, 118, 1927, 1928), (1304, 108, 1302, 1303), (1300, 107, 1299, 0), (1940, 118, 1938, 1939), (1317, 108, 1316, 0), (1313, 108, 1311, 1312), (1309, 107, 1308, 0), (1947, 118, 1946, 0), (1950, 118, 1949, 0), (1944, 118, 1942, 1943), (1329, 110, 1327, 1328), (1325, 108, 1323, 1324), (1321, 107, 1320, 0), (1958, 118, 1957, 93), (1954, 118, 1952, 1953), (615, 110, 613, 614), (619, 110, 617, 618), (611, 110, 609, 610), (574, 108, 572, 573), (1966, 118, 1965, 94), (1962, 118, 1960, 1961), (786, 117, 785, 11), (804, 117, 803, 12), (782, 117, 780, 781), (808, 117, 806, 807), (778, 108, 776, 777), (1974, 118, 1973, 95), (1978, 118, 1977, 96), (1970, 118, 1968, 1969), (1336, 108, 1334, 1335), (1332, 107, 1331, 0), (1983, 118, 1981, 1982), (1357, 116, 1356, 0), (1364, 116, 1363, 0), (1361, 116, 1360, 29), (1352, 116, 1350, 1351), (1348, 108, 1347, 28), (1369, 116, 1367, 1368), (1344, 108, 1342, 1343), (1340, 107, 1339, 0), (1991, 118, 1990, 97), (1998, 118, 1997, 0), (2005, 118, 2004, 0), (2002, 118, 2001, 99), (1995, 118, 1994, 98), (1987, 118, 1985, 1986), (1380, 116, 1378, 1379), (1376, 108, 1374, 1375), (1372, 107, 1371, 0), (2009, 118, 2007, 2008), (1396, 116, 1395, 30), (1391, 116, 1389, 1390), (1387, 108, 1385, 1386), (1383, 107, 1382, 0), (2013, 118, 2011, 2012), (1411, 117, 1410, 31), (1407, 117, 1405, 1406), (1416, 117, 1414, 1415), (1403, 108, 1401, 1402), (1399, 107, 1398, 0), (2027, 118, 2026, 0), (2024, 118, 2023, 0), (2031, 118, 2030, 101), (2021, 118, 2020, 100), (2017, 118, 2015, 2016), (1429, 108, 1428, 32), (1423, 108, 1421, 1422), (1419, 107, 1418, 0), (2035, 118, 2033, 2034), (1439, 108, 1438, 0), (1442, 108, 1441, 0), (1436, 108, 1434, 1435), (1432, 107, 1431, 0), (2043, 118, 2042, 102), (2047, 118, 2046, 103), (2039, 118, 2037, 2038), (1454, 108, 1453, 0), (1449, 108, 1447, 1448), (1445, 107, 1444, 0), (2051, 118, 2049, 2050), (1462, 108, 1460, 1461), (1458, 107, 1457, 0), (2061, 118, 2060, 104), (2057, 118, 2055, 2056), (1470, 108, 1468, 1469), (1466, 107, 1465, 0), (2065, 118, 2063, 2064), (812, 108, 810, 811), (2069, 118, 2067, 2068), (1481, 108, 1480, 0), (1478, 108, 1476, 1477), (1474, 107, 1473, 0), (2073, 118, 2071, 2072), (1489, 108, 1487, 1488), (1485, 107, 1484, 0), (2077, 118, 2075, 2076), (1496, 108, 1494, 1495), (1492, 107, 1491, 0), (2081, 118, 2079, 2080), (1507, 114, 1505, 1506), (1503, 108, 1501, 1502), (1499, 107, 1498, 0), (2089, 118, 2088, 105), (2085, 118, 2083, 2084), (1515, 108, 1513, 1514), (1511, 107, 1510, 0), (2093, 118, 2091, 2092), (817, 108, 815, 816), (2097, 118, 2095, 2096), (821, 108, 819, 820), (2101, 118, 2099, 2100), (829, 108, 827, 828), (2105, 118, 2103, 2104), (838, 108, 836, 837), (2109, 118, 2107, 2108), (842, 108, 840, 841), (2117, 118, 2116, 106), (2113, 118, 2111, 2112), (0, 0, 0, 0)]
def zMs (j : Nat) : Bool := ([false, false, false, false, true, false, false, false, false, false, false, false, false, false, false, true, false, false, false, false, true, false, true, true, true, false, false, false, true, true, true, false, true, true, false, false, false, false, true, false, false, false, false, false, false, false, false, false, false, false, false, false, false, false, false, false, false, true, false, false, false, false, false, false, false, false, false, false, false, false, false, false, false, false, false, false, false, false, false, false, false, false, false, false, false, false, false, false, false, false, false, false, false, false, false, false, true, false, false, false, false, false, false, false, false, false, false, false, false, false, true, false, false, false, false, true, false, false, false, false, false, false, false, false, false, false, false, false, false, false, true, false, false, false, false, false, false, false, false, true, false, false, false, false, false, false, false, false, true, true, false, false, false, false, false, false, false, false, false, false, false, false, false, false, false, false, false, false, false, false, false, false, false, false, true, false, false, true, false, false, true, false, false, false, false, true, false, false, false, true, false, false, false, true, false, true, false, true, false, false, true, false, true, false, true, true, true, false, false, false, true, false, false, false, false, false, false, false, false, false, false, false, false, false, false, false, false, false, true, false, true, true, false, false, false, false, false, true, false, true, true, false, false, false, false, false, true, false, false, false, false, true, false, false, false, false, false, true, true, true, false, false, false, false, false, true, false, true, true, false, true, false, false, false, true, false, true, false, false, true, false, false, false, true, false, false, false, true, false, true, false, false, true, false, false, true, false, false, false, true, false, false, false, true, false, false, false, false, false, false, false, false, false, false, false, false, true] : List Bool).getD j false
def zFL : List (Nat × Nat × Nat × Bool × Nat) := [(0, 11, 128, false, 149), (0, 15, 129, false, 150), (0, 18, 130, false, 151), (0, 21, 131, false, 152), (0, 24, 132, false, 153), (0, 27, 133, false, 154), (0, 30, 134, false, 155), (1, 9, 384, false, 195), (1, 15, 385, false, 200), (1, 18, 386, false, 206), (1, 21, 387, false, 209), (2, 9, 0, false, 233), (2, 15, 1, false, 236), (2, 18, 2, false, 239), (2, 21, 3, false, 241), (2, 24, 4, false, 244), (4, 80, 204, false, 305), (4, 83, 205, false, 308), (4, 73, 202, false, 299), (4, 86, 206, false, 311), (4, 89, 207, false, 314), (4, 92, 208, false, 316), (4, 95, 209, false, 319), (4, 98, 210, false, 322), (4, 76, 203, false, 302), (4, 26, 194, false, 274), (4, 101, 0, true, 234), (4, 30, 195, false, 277), (4, 37, 196, false, 279), (4, 41, 197, false, 283), (4, 44, 198, false, 287), (4, 47, 199, false, 290), (4, 50, 200, false, 293), (4, 53, 201, false, 296), (4, 14, 192, false, 267), (4, 56, 388, true, 212), (4, 20, 193, false, 271), (5, 11, 64, false, 370), (6, 11, 512, false, 381), (6, 18, 513, false, 382), (6, 25, 514, false, 383), (6, 29, 515, false, 385), (6, 33, 522, false, 399), (7, 11, 320, false, 433), (7, 17, 321, false, 434), (7, 21, 322, false, 435), (7, 24, 325, false, 438), (8, 11, 256, false, 459), (8, 15, 257, false, 460), (8, 18, 258, false, 461), (9, 11, 448, false, 478), (9, 15, 449, false, 479), (9, 18, 450, false, 480), (9, 21, 451, false, 481), (9, 24, 452, false, 482), (3, 9, 576, false, 500), (3, 16, 577, false, 501), (3, 20, 578, false, 502), (3, 23, 579, false, 503), (3, 29, 580, false, 504), (3, 33, 581, false, 505), (3, 36, 582, false, 506), (3, 39, 583, false, 507), (3, 46, 584, false, 508), (3, 53, 585, false, 509), (3, 60, 586, false, 510), (3, 64, 587, false, 511), (3, 67, 589, false, 513), (10, 7, 641, false, 1524), (10, 13, 642, false, 1525), (10, 16, 644, false, 1527), (10, 19, 645, false, 1528), (10, 22, 647, false, 1530), (10, 25, 652, false, 1535), (10, 29, 654, false, 1537), (10, 32, 660, false, 1543), (10, 35, 661, false, 1544), (10, 38, 662, false, 1545), (10, 41, 663, false, 1546), (10, 44, 664, false, 1547), (10, 47, 665, false, 1548), (10, 50, 666, false, 1549), (3, 71, 588, false, 512), (10, 53, 640, false, 1523), (10, 82, 648, false, 1531), (11, 15, 1003, false, 2141), (11, 9, 1002, false, 2140), (7, 64, 1000, true, 2139), (7, 28, 323, false, 436), (7, 31, 324, false, 437), (1, 24, 388, false, 211), (5, 19, 65, false, 371), (5, 23, 66, false, 372), (6, 37, 516, false, 386), (6, 51, 517, false, 389), (6, 54, 518, false, 391), (6, 57, 519, false, 393), (6, 60, 520, false, 395), (6, 63, 521, false, 397), (6, 69, 192, true, 269), (6, 73, 388, true, 214), (6, 156, 197, true, 286), (6, 162, 198, true, 289), (6, 165, 199, true, 292), (6, 171, 200, true, 295), (6, 177, 201, true, 298), (6, 66, 196, true, 280), (3, 93, 325, true, 439), (3, 101, 517, true, 390), (3, 109, 592, false, 516), (10, 85, 649, false, 1532), (10, 91, 650, false, 1533), (10, 88, 651, false, 1534), (10, 163, 653, false, 1536), (10, 203, 655, false, 1538), (10, 209, 656, false, 1539), (10, 214, 657, false, 1540), (10, 246, 658, false, 1541), (10, 249, 659, false, 1542), (10, 189, 646, false, 1529), (0, 34, 135, false, 157), (0, 121, 1001, true, 2142), (3, 118, 134, true, 156), (3, 124, 516, true, 388), (4, 112, 385, true, 203), (4, 123, 384, true, 197), (4, 130, 3, true, 242), (6, 76, 193, true, 272), (6, 236, 206, true, 313), (6, 280, 203, true, 304), (6, 246, 205, true, 310), (6, 200, 194, true, 275), (6, 256, 2, true, 240), (6, 267, 387, true, 210), (6, 277, 1, true, 238), (6, 287, 384, true, 199), (6, 288, 385, true, 205), (6, 289, 204, true, 307), (6, 299, 202, true, 301), (2, 43, 384, true, 196), (2, 46, 385, true, 202), (2, 47, 386, true, 207), (6, 306, 208, true, 318), (6, 309, 209, true, 321), (6, 315, 210, true, 324), (3, 148, 199, true, 291), (3, 219, 519, true, 394), (3, 137, 196, true, 282), (3, 142, 197, true, 285), (3, 145, 198, true, 288), (3, 151, 200, true, 294), (3, 154, 201, true, 297), (3, 157, 192, true, 270), (3, 161, 388, true, 215), (3, 164, 193, true, 273), (3, 167, 202, true, 300), (3, 170, 203, true, 303), (3, 174, 204, true, 306), (3, 177, 205, true, 309), (3, 180, 206, true, 312), (3, 183, 207, true, 315), (3, 186, 208, true, 317), (3, 189, 209, true, 320), (3, 192, 210, true, 323), (3, 227, 384, true, 198), (3, 234, 385, true, 204), (3, 237, 386, true, 208), (3, 242, 194, true, 276), (3, 246, 0, true, 235), (3, 251, 1, true, 237), (3, 252, 3, true, 243), (3, 257, 195, true, 278), (3, 260, 591, false, 515), (9, 46, 453, false, 483), (9, 58, 516, true, 387), (9, 65, 192, true, 268), (9, 71, 388, true, 213), (9, 74, 385, true, 201), (9, 79, 196, true, 281), (8, 21, 259, false, 462), (9, 82, 454, false, 484), (9, 93, 197, true, 284), (3, 382, 522, true, 400), (3, 385, 514, true, 384), (3, 389, 66, true, 373), (3, 398, 590, false, 514), (10, 417, 643, false, 1526), (3, 401, 518, true, 392), (3, 404, 520, true, 396), (3, 413, 521, true, 398)]
def zML : List (Nat × Nat × Nat × Nat × Bool × Nat) := [(4, 104, 4, 1, true, 264), (4, 59, 5, 0, false, 260), (4, 11, 2, 2, false, 191), (4, 25, 3, 2, true, 229), (4, 34, 6, 0, false, 256), (6, 17, 7, 2, false, 185), (6, 24, 8, 2, true, 366), (3, 15, 1, 2, true, 145), (3, 28, 9, 2, false, 178), (3, 45, 10, 2, true, 427), (3, 52, 11, 2, true, 455), (3, 59, 12, 2, true, 474), (3, 78, 15, 1, false, 560), (3, 74, 16, 0, false, 556), (10, 64, 20, 1, false, 1617), (7, 38, 22, 1, true, 865), (7, 49, 23, 1, false, 866), (11, 335, 25, 0, false, 885), (11, 1059, 28, 1, false, 907), (13, 9, 29, 1, false, 902), (11, 492, 27, 0, false, 895), (11, 495, 30, 1, false, 899), (7, 75, 26, 0, false, 881), (7, 81, 31, 0, false, 891), (7, 68, 32, 1, false, 878), (7, 53, 33, 1, false, 873), (7, 46, 15, 1, true, 933), (7, 34, 24, 1, false, 862), (7, 42, 34, 0, false, 869), (3, 121, 35, 0, false, 858), (1, 28, 38, 1, true, 591), (2, 27, 38, 1, true, 601), (4, 62, 39, 0, false, 587), (4, 66, 40, 0, false, 597), (4, 69, 38, 1, true, 602), (5, 15, 38, 1, true, 607), (6, 40, 37, 0, false, 579), (6, 44, 41, 0, false, 583), (6, 48, 42, 0, false, 603), (7, 88, 46, 0, false, 955), (7, 92, 44, 0, false, 959), (7, 100, 45, 0, false, 968), (7, 96, 47, 0, false, 975), (1, 32, 15, 1, true, 717), (6, 86, 50, 0, false, 713), (6, 119, 48, 0, false, 964), (6, 133, 49, 0, false, 971), (6, 102, 45, 0, false, 945), (6, 137, 46, 0, false, 976), (6, 140, 51, 0, false, 977), (6, 90, 44, 0, false, 938), (6, 150, 6, 0, true, 990), (6, 108, 47, 0, false, 951), (6, 112, 52, 0, false, 960), (6, 123, 53, 0, false, 984), (6, 126, 54, 0, false, 1003), (3, 82, 36, 0, false, 854), (3, 85, 43, 0, false, 575), (3, 89, 55, 0, false, 934), (14, 7, 56, 0, false, 850), (10, 94, 60, 0, false, 1640), (10, 97, 61, 0, false, 1636), (10, 100, 26, 0, false, 1657), (10, 106, 31, 0, false, 1658), (10, 110, 64, 0, false, 1665), (10, 113, 62, 0, false, 1644), (10, 121, 65, 0, false, 1661), (10, 117, 63, 0, false, 1653), (10, 198, 67, 0, false, 1698), (10, 172, 66, 0, false, 1683), (10, 217, 68, 0, false, 1694), (10, 222, 69, 0, false, 1687), (10, 225, 70, 0, false, 1678), (10, 228, 72, 0, false, 1670), (10, 233, 71, 0, false, 1674), (10, 60, 75, 0, false, 1729), (10, 126, 74, 0, false, 1720), (10, 142, 76, 0, false, 1733), (10, 56, 78, 0, false, 1742), (10, 79, 79, 0, false, 1750), (10, 146, 80, 0, false, 1746), (10, 149, 81, 0, false, 1754), (10, 155, 77, 0, false, 1715), (10, 158, 82, 0, false, 1737), (10, 166, 73, 0, false, 1648), (10, 169, 83, 0, false, 1711), (10, 176, 58, 0, false, 1624), (10, 179, 59, 0, false, 1628), (10, 182, 84, 0, false, 1632), (10, 186, 85, 0, false, 1758), (0, 81, 15, 1, true, 667), (0, 41, 44, 0, false, 1106), (0, 102, 88, 0, false, 1137), (0, 67, 47, 0, false, 1115), (0, 85, 48, 0, false, 1121), (0, 115, 46, 0, false, 1136), (0, 53, 45, 0, false, 1108), (0, 96, 90, 0, false, 1128), (0, 92, 91, 0, false, 1124), (0, 77, 49, 0, false, 1120), (0, 124, 89, 0, false, 1143), (0, 56, 92, 0, false, 1109), (0, 60, 54, 0, false, 1157), (0, 37, 38, 1, true, 834), (3, 112, 93, 0, false, 1102), (3, 115, 94, 0, false, 830), (14, 17, 95, 0, false, 1098), (3, 130, 37, 0, false, 813), (1, 36, 22, 1, true, 712), (4, 108, 101, 0, false, 708), (4, 115, 22, 1, true, 632), (4, 119, 103, 0, false, 1195), (2, 35, 22, 1, true, 639), (4, 126, 105, 0, false, 635), (6, 263, 15, 1, true, 656), (0, 136, 22, 1, true, 662), (0, 144, 110, 1, false, 668), (0, 140, 111, 0, false, 663), (5, 26, 15, 1, true, 676), (6, 249, 108, 0, false, 648), (6, 252, 109, 0, false, 652), (6, 259, 22, 1, true, 657), (6, 270, 112, 0, false, 658), (6, 239, 113, 0, false, 672), (2, 31, 115, 1, true, 681), (4, 133, 108, 0, false, 694), (1, 48, 115, 1, true, 699), (4, 137, 115, 1, true, 688), (4, 140, 15, 1, true, 689), (4, 144, 117, 0, false, 690), (4, 147, 118, 0, false, 695), (6, 284, 103, 0, false, 704), (6, 292, 118, 0, false, 718), (6, 296, 120, 0, false, 719), (6, 302, 121, 0, false, 723), (2, 39, 15, 1, true, 740), (6, 312, 5, 0, false, 749), (6, 332, 128, 0, false, 758), (1, 44, 130, 1, true, 767), (1, 40, 50, 0, false, 774), (6, 318, 129, 0, false, 754), (6, 321, 117, 0, false, 762), (6, 324, 131, 0, false, 763), (6, 328, 132, 0, false, 770), (6, 190, 106, 0, false, 628), (6, 193, 107, 0, false, 640), (6, 196, 114, 0, false, 644), (6, 204, 116, 0, false, 677), (6, 209, 119, 0, false, 684), (6, 212, 122, 0, false, 700), (6, 216, 123, 0, false, 727), (6, 220, 124, 0, false, 731), (6, 224, 125, 0, false, 736), (6, 228, 126, 0, false, 741), (6, 232, 127, 0, false, 745), (6, 242, 133, 0, false, 750), (6, 186, 134, 0, false, 624), (3, 215, 135, 0, false, 620), (3, 195, 102, 0, false, 1187), (3, 134, 100, 0, false, 1167), (3, 199, 104, 0, false, 1191), (3, 202, 136, 0, false, 1196), (3, 206, 137, 0, false, 1200), (14, 20, 138, 0, false, 1163), (10, 68, 141, 0, false, 1786), (10, 72, 142, 0, false, 1782), (10, 76, 143, 0, false, 1790), (10, 279, 145, 0, false, 1802), (10, 285, 146, 0, false, 1798), (10, 251, 148, 1, false, 1826), (10, 254, 149, 1, false, 1829), (10, 258, 150, 0, false, 1836), (10, 263, 151, 0, false, 1841), (10, 266, 152, 0, false, 1832), (10, 269, 154, 0, false, 1849), (10, 272, 155, 0, false, 1853), (10, 276, 156, 0, false, 1857), (10, 282, 158, 0, false, 1869), (10, 288, 159, 0, false, 1865), (10, 291, 160, 0, false, 1873), (10, 294, 161, 0, false, 1877), (10, 300, 163, 0, false, 1886), (10, 297, 165, 0, false, 1894), (10, 303, 153, 0, false, 1822), (10, 306, 157, 0, false, 1845), (10, 309, 162, 0, false, 1861), (10, 313, 164, 0, false, 1882), (10, 316, 166, 0, false, 1890), (10, 319, 167, 0, false, 1818), (10, 322, 168, 0, false, 1814), (10, 329, 169, 0, false, 1810), (10, 326, 144, 0, false, 1778), (10, 333, 140, 0, false, 1774), (10, 336, 147, 0, false, 1794), (10, 339, 170, 0, false, 1806), (10, 342, 171, 0, false, 1898), (3, 224, 128, 0, false, 1228), (3, 230, 22, 1, false, 1229), (14, 28, 173, 0, false, 1223), (3, 253, 105, 0, false, 1238), (14, 32, 176, 0, false, 1233), (14, 35, 179, 0, false, 1242), (3, 263, 182, 0, false, 822), (3, 269, 183, 0, false, 1254), (14, 38, 184, 0, false, 1249), (10, 345, 186, 0, false, 1918), (3, 279, 51, 0, false, 1283), (14, 42, 188, 0, false, 1262), (3, 285, 191, 0, false, 1292), (3, 288, 192, 0, false, 1296), (3, 291, 193, 1, false, 1297), (14, 47, 194, 0, false, 1287), (10, 348, 196, 0, false, 1930), (10, 351, 197, 1, false, 1934), (3, 298, 133, 0, false, 1306), (14, 50, 199, 0, false, 1301), (3, 303, 202, 1, false, 1315), (14, 53, 203, 0, false, 1310), (10, 354, 205, 1, false, 1945), (10, 358, 206, 1, false, 1948), (3, 309, 208, 0, false, 1326), (14, 56, 209, 0, false, 1322), (10, 361, 211, 0, false, 1955), (6, 79, 213, 0, false, 612), (6, 83, 214, 0, false, 616), (3, 313, 215, 0, false, 608), (10, 364, 217, 0, false, 1963), (9, 61, 37, 0, false, 787), (9, 54, 22, 1, true, 788), (9, 75, 15, 1, true, 789), (9, 50, 220, 0, false, 801), (9, 27, 219, 0, false, 783), (9, 31, 4, 1, true, 790), (9, 35, 192, 0, false, 791), (9, 41, 193, 1, false, 795), (3, 317, 221, 0, false, 779), (3, 321, 222, 0, false, 805), (10, 368, 225, 0, false, 1975), (10, 371, 224, 0, false, 1971), (14, 59, 227, 0, false, 1333), (8, 25, 22, 1, true, 1353), (8, 41, 231, 1, false, 1362), (8, 29, 15, 1, true, 1354), (8, 33, 230, 1, false, 1355), (8, 37, 232, 0, false, 1358), (3, 326, 233, 0, false, 1349), (3, 331, 234, 0, false, 1345), (3, 334, 235, 0, false, 1366), (14, 63, 236, 0, false, 1341), (10, 374, 240, 1, false, 2003), (10, 377, 239, 1, false, 1996), (10, 380, 241, 0, false, 1999), (10, 383, 238, 0, false, 1988), (10, 386, 242, 0, false, 1992), (3, 337, 244, 0, false, 1377), (14, 66, 245, 0, false, 1373), (8, 45, 235, 0, false, 1392), (8, 49, 248, 0, false, 1393), (3, 340, 249, 0, false, 1388), (14, 69, 250, 0, false, 1384), (9, 89, 38, 1, true, 1412), (9, 85, 253, 0, false, 1408), (3, 343, 254, 0, false, 1404), (3, 346, 255, 0, false, 1413), (14, 72, 256, 0, false, 1400), (10, 389, 258, 1, false, 2025), (10, 392, 259, 1, false, 2022), (10, 395, 260, 0, false, 2028), (10, 398, 261, 0, false, 2018), (3, 351, 4, 1, false, 1425), (3, 354, 263, 0, false, 1426), (14, 75, 264, 0, false, 1420), (3, 357, 267, 1, false, 1437), (3, 360, 268, 1, false, 1440), (14, 78, 269, 0, false, 1433), (10, 401, 271, 0, false, 2040), (10, 404, 272, 0, false, 2044), (3, 367, 274, 1, false, 1452), (14, 81, 275, 0, false, 1446), (14, 84, 278, 0, false, 1459), (10, 411, 280, 0, false, 2058), (14, 87, 282, 0, false, 1467), (3, 377, 287, 1, false, 1479), (14, 90, 288, 0, false, 1475), (14, 93, 291, 0, false, 1486), (14, 97, 294, 0, false, 1493), (5, 30, 22, 1, true, 1508), (3, 392, 297, 0, false, 1504), (14, 100, 298, 0, false, 1500), (10, 414, 300, 0, false, 2086), (14, 103, 302, 0, false, 1512), (3, 407, 213, 0, false, 843), (3, 410, 214, 0, false, 844), (10, 420, 314, 0, false, 2114), (14, 106, 13, 2, false, 137), (14, 109, 14, 2, false, 1519), (14, 110, 17, 0, false, 552), (14, 114, 18, 0, false, 1609), (14, 115, 19, 0, false, 563), (14, 119, 21, 0, false, 1613), (14, 120, 57, 1, false, 845), (14, 125, 86, 0, false, 1620), (14, 126, 87, 0, false, 1605), (14, 129, 96, 1, false, 1095), (14, 131, 97, 0, false, 1762), (14, 132, 98, 0, false, 567), (14, 135, 99, 0, false, 1766), (14, 136, 139, 1, false, 1158), (14, 139, 172, 0, false, 1770), (14, 140, 174, 1, false, 1220), (14, 143, 175, 0, false, 1902), (14, 144, 177, 1, false, 1230), (14, 146, 178, 0, false, 1906), (14, 147, 180, 1, false, 1239), (14, 149, 181, 0, false, 1910), (14, 150, 185, 1, false, 1246), (14, 153, 187, 0, false, 1914), (14, 154, 189, 1, false, 1258), (14, 156, 190, 0, false, 1922), (14, 157, 195, 1, false, 1284), (14, 159, 198, 0, false, 1926), (14, 160, 200, 1, false, 1298), (14, 162, 201, 0, false, 1937), (14, 163, 204, 1, false, 1307), (14, 165, 207, 0, false, 1941), (14, 166, 210, 1, false, 1319), (14, 168, 212, 0, false, 1951), (14, 169, 216, 0, false, 571), (14, 172, 218, 0, false, 1959), (14, 173, 223, 0, false, 775), (14, 176, 226, 0, false, 1967), (14, 177, 228, 1, false, 1330), (14, 180, 229, 0, false, 1980), (14, 181, 237, 1, false, 1338), (14, 183, 243, 0, false, 1984), (14, 184, 246, 1, false, 1370), (14, 186, 247, 0, false, 2006), (14, 187, 251, 1, false, 1381), (14, 189, 252, 0, false, 2010), (14, 190, 257, 1, false, 1397), (14, 192, 262, 0, false, 2014), (14, 193, 265, 1, false, 1417), (14, 195, 266, 0, false, 2032), (14, 196, 270, 1, false, 1430), (14, 198, 273, 0, false, 2036), (14, 199, 276, 1, false, 1443), (14, 201, 277, 0, false, 2048), (14, 202, 279, 1, false, 1456), (14, 204, 281, 0, false, 2054), (14, 205, 283, 1, false, 1464), (14, 207, 284, 0, false, 2062), (14, 208, 285, 0, false, 809), (14, 211, 286, 0, false, 2066), (14, 212, 289, 1, false, 1472), (14, 214, 290, 0, false, 2070), (14, 215, 292, 1, false, 1483), (14, 218, 293, 0, false, 2074), (14, 219, 295, 1, false, 1490), (14, 221, 296, 0, false, 2078), (14, 222, 299, 1, false, 1497), (14, 224, 301, 0, false, 2082), (14, 225, 303, 1, false, 1509), (14, 227, 304, 0, false, 2090), (14, 228, 305, 0, false, 814), (14, 231, 306, 0, false, 2094), (14, 232, 307, 0, false, 818), (14, 236, 308, 0, false, 2098), (14, 237, 309, 0, false, 826), (14, 240, 310, 0, false, 2102), (14, 241, 311, 0, false, 835), (14, 244, 312, 0, false, 2106), (14, 245, 313, 0, false, 839), (14, 248, 315, 0, false, 2110)]
def zKI : List (Nat × Nat × Int × Nat) := [(6, 276, 99999, 671), (6, 305, 1103515245, 735), (10, 262, 99999, 1840), (10, 257, 1103515245, 1881), (15, 265, 1431655765, 798), (15, 266, 858993459, 799), (15, 267, 252645135, 800), (10, 367, 2000000000, 1979)]
def zKJ : List (Nat × Nat × Int × Nat) := [(3, 365, 100, 1451), (3, 371, 10000, 1455), (10, 407, 100, 2052), (10, 409, 10000, 2053)]
def zGL : List (Nat × Nat × Nat × Bool × Nat) := [(11, 38, 101, false, 889), (11, 1053, 102, false, 905), (7, 61, 100, true, 876), (7, 72, 1, false, 929), (7, 57, 2, false, 931), (7, 85, 0, false, 942), (6, 130, 17, false, 969), (6, 144, 2, false, 981), (6, 147, 9, false, 988), (6, 153, 10, false, 991), (6, 159, 11, false, 993), (6, 105, 12, false, 949), (6, 168, 13, false, 995), (6, 174, 14, false, 997), (6, 180, 15, false, 999), (6, 183, 16, false, 1001), (7, 103, 3, false, 1007), (6, 96, 0, false, 944), (6, 116, 18, false, 982), (0, 133, 8, false, 1147), (0, 109, 25, false, 1132), (0, 112, 4, false, 1134), (0, 118, 5, false, 1141), (0, 127, 6, false, 1149), (0, 130, 7, false, 1151), (0, 99, 24, false, 1153), (0, 106, 23, false, 1155), (0, 64, 20, false, 1113), (0, 71, 21, false, 1116), (0, 74, 19, false, 1118), (0, 89, 22, false, 1122), (0, 47, 0, false, 1107)]
def zNL9 : List (Nat × Nat × Nat × Nat) := [(4, 9, 6, 189), (4, 23, 0, 227), (6, 9, 3, 182), (6, 22, 1, 364), (3, 13, 2, 143), (3, 26, 8, 176), (3, 43, 5, 425), (3, 50, 4, 453), (3, 57, 7, 472), (14, 8, 9, 135), (14, 107, 10, 1517)]
def zAL : List (Nat × Nat × Nat × Nat) := [(6, 9, 32, 182), (7, 9, 34, 431), (3, 26, 33, 176)]
def zOL : List (Nat × Nat × Nat) := [(0, 3, 148), (1, 3, 194), (2, 3, 232), (4, 3, 188), (5, 3, 369), (6, 3, 181), (7, 3, 430), (8, 3, 458), (9, 3, 477), (3, 1, 140), (10, 1, 1522)]
def zCL : List (Nat × Nat × Nat) := [(3, 415, 594)]
def zSL : List (Nat × Nat × Nat) := [(10, 153, 8), (10, 192, 9), (10, 193, 10), (10, 194, 11), (10, 196, 12), (10, 130, 13), (10, 161, 14), (10, 201, 5), (10, 207, 6), (10, 212, 7), (10, 220, 4), (10, 231, 15), (10, 236, 16), (10, 238, 0), (10, 240, 1), (10, 242, 2), (10, 244, 3), (10, 124, 17), (10, 132, 18), (10, 134, 19), (10, 136, 20), (10, 138, 21), (10, 140, 22), (10, 145, 23)]
def zTT (c : Nat) : u_T := match c with
  | 0 => zT0
  | 1 => zT1
  | 2 => zT2
  | 3 => zT3
  | 4 => zT4
  | 5 => zT5
  | 6 => zT6
  | 7 => zT7
  | 8 => zT8
  | 9 => zT9
  | _ => zT10
def zYY (c : Nat) : Nat → FieldType := match c with
  | 0 => zY0
  | 1 => zY1
  | 2 => zY2
  | 3 => zY3
  | 4 => zY4
  | 5 => zY5
  | 6 => zY6
  | 7 => zY7
  | 8 => zY8
  | 9 => zY9
  | _ => zY10
/-- the class, name and descriptor of a field by its number -/
def zfn (k : Nat) : String × String × String := match Nat.ble 1000 k with
  | true => match k with
    | 1000 => ("CyclicLines$Word", "written", "Ljava/lang/String;")
    | 1001 => ("CyclicLines$Word", "fact", "I")
    | 1002 => ("java/lang/String", "value", "[B")
    | _ => ("java/lang/String", "coder", "B")
  | false => ((zTT (k / 64) (k % 64)).1, (zTT (k / 64) (k % 64)).2.1, (zTT (k / 64) (k % 64)).2.2.1)
def zWnm : List String := ["END", "WRONG", "NUMBER", "SEMICOLON", "OPEN", "CLOSE", "LESS", "MORE", "PLUS", "LINE", "NOISE", "DELAY", "UNITS", "OCTETS", "LIMIT", "IN_STATE", "PROVING_STATE", "OF", "TICK", "SPOIL_LINE", "MEND_LINE", "WORTH_LINE", "IF", "OR", "AND", "NOT", "FILLS", "FORCED", "REPEAT", "LENGTH", "KEPT", "QUEUE", "BUCKET"]
def zsn (k : Nat) : String × String × String := match Nat.ble 100 k with
  | false => ("CyclicLines$Word", zWnm.getD k "", "LCyclicLines$Word;")
  | true => match k with
    | 100 => ("CyclicLines", "WORDS", "[LCyclicLines$Word;")
    | 101 => ("java/lang/String", "COMPACT_STRINGS", "Z")
    | _ => ("jdk/internal/util/Preconditions", "SIOOBE_FORMATTER", "Ljava/util/function/BiFunction;")
def zgw (p : Nat) (w : Cond) : Bool := match lw_tbl[p]? with
  | some u => decide (u = w) && goodWord w
  | none => false
def zbw (p : Nat) (w : Cond) : Bool := match lw_tbl[p]? with
  | some u => decide (u = w)
  | none => false
theorem zgw_ok {p : Nat} {w : Cond} (h : zgw p w = true) : w ∈ lw_tbl ∧ goodWord w = true := by
  unfold zgw at h
  split at h
  · rename_i u hu
    simp only [Bool.and_eq_true, decide_eq_true_eq] at h
    rw [← h.1]
    exact ⟨List.mem_of_getElem? hu, by rw [h.1]; exact h.2⟩
  · cases h
theorem zbw_ok {p : Nat} {w : Cond} (h : zbw p w = true) : w ∈ lw_tbl := by
  unfold zbw at h
  split at h
  · rename_i u hu
    simp only [decide_eq_true_eq] at h
    rw [← h]
    exact List.mem_of_getElem? hu
  · cases h
def zFLc (e : Nat × Nat × Nat × Bool × Nat) : Bool := match e.2.2.2.1 with
  | false => zgw e.2.2.2.2 (.fieldLink (zcn e.1) e.2.1 (zfn e.2.2.1).1 (zfn e.2.2.1).2.1 (zfn e.2.2.1).2.2)
  | true => zbw e.2.2.2.2 (.fieldLinkNest (zcn e.1) e.2.1 (zfn e.2.2.1).1 (zfn e.2.2.1).2.1 (zfn e.2.2.1).2.2 "CyclicLines")
theorem zFL_ok : zFL.all zFLc = true := by decide +kernel
def zMLc (e : Nat × Nat × Nat × Nat × Bool × Nat) : Bool := match e.2.2.2.2.1 with
  | false => zgw e.2.2.2.2.2 (.methodLink (zcn e.1) e.2.1 (zmy e.2.2.1))
  | true => zbw e.2.2.2.2.2 (.methodLinkNest (zcn e.1) e.2.1 (zmy e.2.2.1) "CyclicLines")
theorem zML_ok : zML.all zMLc = true := by decide +kernel
theorem zKI_ok : zKI.all (fun e => zgw e.2.2.2 (.constant (zcn e.1) e.2.1 (Int32.ofInt e.2.2.1))) = true := by decide +kernel
theorem zKJ_ok : zKJ.all (fun e => zgw e.2.2.2 (.constantLong (zcn e.1) e.2.1 (Int64.ofInt e.2.2.1))) = true := by decide +kernel
def zGLc (e : Nat × Nat × Nat × Bool × Nat) : Bool := match e.2.2.2.1 with
  | false => zgw e.2.2.2.2 (.fieldLink (zcn e.1) e.2.1 (zsn e.2.2.1).1 (zsn e.2.2.1).2.1 (zsn e.2.2.1).2.2)
  | true => zbw e.2.2.2.2 (.fieldLinkNest (zcn e.1) e.2.1 (zsn e.2.2.1).1 (zsn e.2.2.1).2.1 (zsn e.2.2.1).2.2 "CyclicLines")
theorem zGL_ok : zGL.all zGLc = true := by decide +kernel
def zON (c : Nat) : String := ["CyclicLines$Air", "CyclicLines$Journal", "CyclicLines$Law", "CyclicLines$Line", "CyclicLines$Period", "CyclicLines$Text", "CyclicLines$Units", "CyclicLines$Ways", "CyclicLines$World", "CyclicLines", "CyclicLinesModel"].getD c ""
theorem zNL_ok : zNL9.all (fun e => zgw e.2.2.2 (.classLink (zcn e.1) e.2.1 (zON e.2.2.1))) = true := by decide +kernel
def zAN (t : Nat) : String := if t = 32 then "CyclicLines$Line" else if t = 33 then "CyclicLines$World" else "CyclicLines$Word"
theorem zAL_ok : zAL.all (fun e => zgw e.2.2.2 (.classLink (zcn e.1) e.2.1 (zAN e.2.2.1))) = true := by decide +kernel
theorem zOL_ok : zOL.all (fun e => zgw e.2.2 (.methodLink (zcn e.1) e.2.1 objectInit)) = true := by decide +kernel
theorem zCL_ok : zCL.all (fun e => zgw e.2.2 (.methodLink (zcn e.1) e.2.1 arraycopyName)) = true := by decide +kernel
/-- a method's words -/
def zcw (j : Nat) : Cond := match (zmh j).isEmpty with
    | true => .code (zmy j) (zmb j) (zml j) (zmr j)
    | false => .codeWith (zmy j) (zmb j) (zml j) (zmr j) (zmh j)
def zMcP (j : Nat) : Prop := lw_tbl[(zMp.getD j (0, 0, 0, 0)).1]? = some (zcw j)
def zMi (j : Nat) : Bool := zgw (zMp.getD j (0, 0, 0, 0)).2.1 (.initialized (zmy j).cls)
def zMk (j : Nat) : Bool := match zMs j with
    | true => zgw (zMp.getD j (0, 0, 0, 0)).2.2.1 (.static (zmy j))
    | false => zgw (zMp.getD j (0, 0, 0, 0)).2.2.1 (.instanceMethod (zmy j)) && (decide ((zmy j).name = "<init>") || zgw (zMp.getD j (0, 0, 0, 0)).2.2.2 (.selects (zmy j).cls (zmy j) (zmy j)))
def zMd (j : Nat) : Bool := decide ((parseMethodDescriptor (zmy j).desc).map (fun d => d.parameters.length) = some (if zMs j then zmn j else zmn j - 1)) && decide ((zmy j).cls ≠ "java/lang/invoke/MethodHandle" ∧ (zmy j).cls ≠ "java/lang/invoke/VarHandle") && plainName (zmy j).cls && decide (zcn (zmo j) = (zmy j).cls)
theorem zMi_1 : (List.range 64).all (fun i => zMi (1 + i)) = true := by decide +kernel
theorem zMi_65 : (List.range 64).all (fun i => zMi (65 + i)) = true := by decide +kernel
theorem zMi_129 : (List.range 64).all (fun i => zMi (129 + i)) = true := by decide +kernel
theorem zMi_193 : (List.range 64).all (fun i => zMi (193 + i)) = true := by decide +kernel
theorem zMi_257 : (List.range 59).all (fun i => zMi (257 + i)) = true := by decide +kernel
theorem zMi_ok {j : Nat} (h0 : 0 < j) (h : j < 316) : zMi j = true := by
  by_cases c0 : j < 65
  · have := List.all_eq_true.mp zMi_1 (j - 1) (List.mem_range.mpr (by omega))
    rwa [show 1 + (j - 1) = j by omega] at this
  · by_cases c1 : j < 129
    · have := List.all_eq_true.mp zMi_65 (j - 65) (List.mem_range.mpr (by omega))
      rwa [show 65 + (j - 65) = j by omega] at this
    · by_cases c2 : j < 193
      · have := List.all_eq_true.mp zMi_129 (j - 129) (List.mem_range.mpr (by omega))
        rwa [show 129 + (j - 129) = j by omega] at this
      · by_cases c3 : j < 257
        · have := List.all_eq_true.mp zMi_193 (j - 193) (List.mem_range.mpr (by omega))
          rwa [show 193 + (j - 193) = j by omega] at this
        · have := List.all_eq_true.mp zMi_257 (j - 257) (List.mem_range.mpr (by omega))
          rwa [show 257 + (j - 257) = j by omega] at this

theorem zMk_1 : (List.range 64).all (fun i => zMk (1 + i)) = true := by decide +kernel
theorem zMk_65 : (List.range 64).all (fun i => zMk (65 + i)) = true := by decide +kernel
theorem zMk_129 : (List.range 64).all (fun i => zMk (129 + i)) = true := by decide +kernel
theorem zMk_193 : (List.range 64).all (fun i => zMk (193 + i)) = true := by decide +kernel
theorem zMk_257 : (List.range 59).all (fun i => zMk (257 + i)) = true := by decide +kernel
theorem zMk_ok {j : Nat} (h0 : 0 < j) (h : j < 316) : zMk j = true := by
  by_cases c0 : j < 65
  · have := List.all_eq_true.mp zMk_1 (j - 1) (List.mem_range.mpr (by omega))
    rwa [show 1 + (j - 1) = j by omega] at this
  · by_cases c1 : j < 129
    · have := List.all_eq_true.mp zMk_65 (j - 65) (List.mem_range.mpr (by omega))
      rwa [show 65 + (j - 65) = j by omega] at this
    · by_cases c2 : j < 193
      · have := List.all_eq_true.mp zMk_129 (j - 129) (List.mem_range.mpr (by omega))
        rwa [show 129 + (j - 129) = j by omega] at this
      · by_cases c3 : j < 257
        · have := List.all_eq_true.mp zMk_193 (j - 193) (List.mem_range.mpr (by omega))
          rwa [show 193 + (j - 193) = j by omega] at this
        · have := List.all_eq_true.mp zMk_257 (j - 257) (List.mem_range.mpr (by omega))
          rwa [show 257 + (j - 257) = j by omega] at this

theorem zMd_1 : (List.range 64).all (fun i => zMd (1 + i)) = true := by decide +kernel
theorem zMd_65 : (List.range 64).all (fun i => zMd (65 + i)) = true := by decide +kernel
theorem zMd_129 : (List.range 64).all (fun i => zMd (129 + i)) = true := by decide +kernel
theorem zMd_193 : (List.range 64).all (fun i => zMd (193 + i)) = true := by decide +kernel
theorem zMd_257 : (List.range 59).all (fun i => zMd (257 + i)) = true := by decide +kernel
theorem zMd_ok {j : Nat} (h0 : 0 < j) (h : j < 316) : zMd j = true := by
  by_cases c0 : j < 65
  · have := List.all_eq_true.mp zMd_1 (j - 1) (List.mem_range.mpr (by omega))
    rwa [show 1 + (j - 1) = j by omega] at this
  · by_cases c1 : j < 129
    · have := List.all_eq_true.mp zMd_65 (j - 65) (List.mem_range.mpr (by omega))
      rwa [show 65 + (j - 65) = j by omega] at this
    · by_cases c2 : j < 193
      · have := List.all_eq_true.mp zMd_129 (j - 129) (List.mem_range.mpr (by omega))
        rwa [show 129 + (j - 129) = j by omega] at this
      · by_cases c3 : j < 257
        · have := List.all_eq_true.mp zMd_193 (j - 193) (List.mem_range.mpr (by omega))
          rwa [show 193 + (j - 193) = j by omega] at this
        · have := List.all_eq_true.mp zMd_257 (j - 257) (List.mem_range.mpr (by omega))
          rwa [show 257 + (j - 257) = j by omega] at this

set_option maxRecDepth 100000 in
theorem zcw_1 : zMcP 1 := rfl
set_option maxRecDepth 100000 in
theorem zcw_2 : zMcP 2 := rfl
set_option maxRecDepth 100000 in
theorem zcw_3 : zMcP 3 := rfl
set_option maxRecDepth 100000 in
theorem zcw_4 : zMcP 4 := rfl
set_option maxRecDepth 100000 in
theorem zcw_5 : zMcP 5 := rfl
set_option maxRecDepth 100000 in
theorem zcw_6 : zMcP 6 := rfl
set_option maxRecDepth 100000 in
theorem zcw_7 : zMcP 7 := rfl
set_option maxRecDepth 100000 in
theorem zcw_8 : zMcP 8 := rfl
set_option maxRecDepth 100000 in
theorem zcw_9 : zMcP 9 := rfl
set_option maxRecDepth 100000 in
theorem zcw_10 : zMcP 10 := rfl
set_option maxRecDepth 100000 in
theorem zcw_11 : zMcP 11 := rfl
set_option maxRecDepth 100000 in
theorem zcw_12 : zMcP 12 := rfl
set_option maxRecDepth 100000 in
theorem zcw_13 : zMcP 13 := rfl
set_option maxRecDepth 100000 in
theorem zcw_14 : zMcP 14 := rfl
set_option maxRecDepth 100000 in
theorem zcw_15 : zMcP 15 := rfl
set_option maxRecDepth 100000 in
theorem zcw_16 : zMcP 16 := rfl
set_option maxRecDepth 100000 in
theorem zcw_17 : zMcP 17 := rfl
set_option maxRecDepth 100000 in
theorem zcw_18 : zMcP 18 := rfl
set_option maxRecDepth 100000 in
theorem zcw_19 : zMcP 19 := rfl
set_option maxRecDepth 100000 in
theorem zcw_20 : zMcP 20 := rfl
set_option maxRecDepth 100000 in
theorem zcw_21 : zMcP 21 := rfl
set_option maxRecDepth 100000 in
theorem zcw_22 : zMcP 22 := rfl
set_option maxRecDepth 100000 in
theorem zcw_23 : zMcP 23 := rfl
set_option maxRecDepth 100000 in
theorem zcw_24 : zMcP 24 := rfl
set_option maxRecDepth 100000 in
theorem zcw_25 : zMcP 25 := rfl
set_option maxRecDepth 100000 in
theorem zcw_26 : zMcP 26 := rfl
set_option maxRecDepth 100000 in
theorem zcw_27 : zMcP 27 := rfl
set_option maxRecDepth 100000 in
theorem zcw_28 : zMcP 28 := rfl
set_option maxRecDepth 100000 in
theorem zcw_29 : zMcP 29 := rfl
set_option maxRecDepth 100000 in
theorem zcw_30 : zMcP 30 := rfl
set_option maxRecDepth 100000 in
theorem zcw_31 : zMcP 31 := rfl
set_option maxRecDepth 100000 in
theorem zcw_32 : zMcP 32 := rfl
set_option maxRecDepth 100000 in
theorem zcw_33 : zMcP 33 := rfl
set_option maxRecDepth 100000 in
theorem zcw_34 : zMcP 34 := rfl
set_option maxRecDepth 100000 in
theorem zcw_35 : zMcP 35 := rfl
set_option maxRecDepth 100000 in
theorem zcw_36 : zMcP 36 := rfl
set_option maxRecDepth 100000 in
theorem zcw_37 : zMcP 37 := rfl
set_option maxRecDepth 100000 in
theorem zcw_38 : zMcP 38 := rfl
set_option maxRecDepth 100000 in
theorem zcw_39 : zMcP 39 := rfl
set_option maxRecDepth 100000 in
theorem zcw_40 : zMcP 40 := rfl
set_option maxRecDepth 100000 in
theorem zcw_41 : zMcP 41 := rfl
set_option maxRecDepth 100000 in
theorem zcw_42 : zMcP 42 := rfl
set_option maxRecDepth 100000 in
theorem zcw_43 : zMcP 43 := rfl
set_option maxRecDepth 100000 in
theorem zcw_44 : zMcP 44 := rfl
set_option maxRecDepth 100000 in
theorem zcw_45 : zMcP 45 := rfl
set_option maxRecDepth 100000 in
theorem zcw_46 : zMcP 46 := rfl
set_option maxRecDepth 100000 in
theorem zcw_47 : zMcP 47 := rfl
set_option maxRecDepth 100000 in
theorem zcw_48 : zMcP 48 := rfl
set_option maxRecDepth 100000 in
theorem zcw_49 : zMcP 49 := rfl
set_option maxRecDepth 100000 in
theorem zcw_50 : zMcP 50 := rfl
set_option maxRecDepth 100000 in
theorem zcw_51 : zMcP 51 := rfl
set_option maxRecDepth 100000 in
theorem zcw_52 : zMcP 52 := rfl
set_option maxRecDepth 100000 in
theorem zcw_53 : zMcP 53 := rfl
set_option maxRecDepth 100000 in
theorem zcw_54 : zMcP 54 := rfl
set_option maxRecDepth 100000 in
theorem zcw_55 : zMcP 55 := rfl
set_option maxRecDepth 100000 in
theorem zcw_56 : zMcP 56 := rfl
set_option maxRecDepth 100000 in
theorem zcw_57 : zMcP 57 := rfl
set_option maxRecDepth 100000 in
theorem zcw_58 : zMcP 58 := rfl
set_option maxRecDepth 100000 in
theorem zcw_59 : zMcP 59 := rfl
set_option maxRecDepth 100000 in
theorem zcw_60 : zMcP 60 := rfl
set_option maxRecDepth 100000 in
theorem zcw_61 : zMcP 61 := rfl
set_option maxRecDepth 100000 in
theorem zcw_62 : zMcP 62 := rfl
set_option maxRecDepth 100000 in
theorem zcw_63 : zMcP 63 := rfl
set_option maxRecDepth 100000 in
theorem zcw_64 : zMcP 64 := rfl
set_option maxRecDepth 100000 in
theorem zcw_65 : zMcP 65 := rfl
set_option maxRecDepth 100000 in
theorem zcw_66 : zMcP 66 := rfl
set_option maxRecDepth 100000 in
theorem zcw_67 : zMcP 67 := rfl
set_option maxRecDepth 100000 in
theorem zcw_68 : zMcP 68 := rfl
set_option maxRecDepth 100000 in
theorem zcw_69 : zMcP 69 := rfl
set_option maxRecDepth 100000 in
theorem zcw_70 : zMcP 70 := rfl
set_option maxRecDepth 100000 in
theorem zcw_71 : zMcP 71 := rfl
set_option maxRecDepth 100000 in
theorem zcw_72 : zMcP 72 := rfl
set_option maxRecDepth 100000 in
theorem zcw_73 : zMcP 73 := rfl
set_option maxRecDepth 100000 in
theorem zcw_74 : zMcP 74 := rfl
set_option maxRecDepth 100000 in
theorem zcw_75 : zMcP 75 := rfl
set_option maxRecDepth 100000 in
theorem zcw_76 : zMcP 76 := rfl
set_option maxRecDepth 100000 in
theorem zcw_77 : zMcP 77 := rfl
set_option maxRecDepth 100000 in
theorem zcw_78 : zMcP 78 := rfl
set_option maxRecDepth 100000 in
theorem zcw_79 : zMcP 79 := rfl
set_option maxRecDepth 100000 in
theorem zcw_80 : zMcP 80 := rfl
set_option maxRecDepth 100000 in
theorem zcw_81 : zMcP 81 := rfl
set_option maxRecDepth 100000 in
theorem zcw_82 : zMcP 82 := rfl
set_option maxRecDepth 100000 in
theorem zcw_83 : zMcP 83 := rfl
set_option maxRecDepth 100000 in
theorem zcw_84 : zMcP 84 := rfl
set_option maxRecDepth 100000 in
theorem zcw_85 : zMcP 85 := rfl
set_option maxRecDepth 100000 in
theorem zcw_86 : zMcP 86 := rfl
set_option maxRecDepth 100000 in
theorem zcw_87 : zMcP 87 := rfl
set_option maxRecDepth 100000 in
theorem zcw_88 : zMcP 88 := rfl
set_option maxRecDepth 100000 in
theorem zcw_89 : zMcP 89 := rfl
set_option maxRecDepth 100000 in
theorem zcw_90 : zMcP 90 := rfl
set_option maxRecDepth 100000 in
theorem zcw_91 : zMcP 91 := rfl
set_option maxRecDepth 100000 in
theorem zcw_92 : zMcP 92 := rfl
set_option maxRecDepth 100000 in
theorem zcw_93 : zMcP 93 := rfl
set_option maxRecDepth 100000 in
theorem zcw_94 : zMcP 94 := rfl
set_option maxRecDepth 100000 in
theorem zcw_95 : zMcP 95 := rfl
set_option maxRecDepth 100000 in
theorem zcw_96 : zMcP 96 := rfl
set_option maxRecDepth 100000 in
theorem zcw_97 : zMcP 97 := rfl
set_option maxRecDepth 100000 in
theorem zcw_98 : zMcP 98 := rfl
set_option maxRecDepth 100000 in
theorem zcw_99 : zMcP 99 := rfl
set_option maxRecDepth 100000 in
theorem zcw_100 : zMcP 100 := rfl
set_option maxRecDepth 100000 in
theorem zcw_101 : zMcP 101 := rfl
set_option maxRecDepth 100000 in
theorem zcw_102 : zMcP 102 := rfl
set_option maxRecDepth 100000 in
theorem zcw_103 : zMcP 103 := rfl
set_option maxRecDepth 100000 in
theorem zcw_104 : zMcP 104 := rfl
set_option maxRecDepth 100000 in
theorem zcw_105 : zMcP 105 := rfl
set_option maxRecDepth 100000 in
theorem zcw_106 : zMcP 106 := rfl
set_option maxRecDepth 100000 in
theorem zcw_107 : zMcP 107 := rfl
set_option maxRecDepth 100000 in
theorem zcw_108 : zMcP 108 := rfl
set_option maxRecDepth 100000 in
theorem zcw_109 : zMcP 109 := rfl
set_option maxRecDepth 100000 in
theorem zcw_110 : zMcP 110 := rfl
set_option maxRecDepth 100000 in
theorem zcw_111 : zMcP 111 := rfl
set_option maxRecDepth 100000 in
theorem zcw_112 : zMcP 112 := rfl
set_option maxRecDepth 100000 in
theorem zcw_113 : zMcP 113 := rfl
set_option maxRecDepth 100000 in
theorem zcw_114 : zMcP 114 := rfl
set_option maxRecDepth 100000 in
theorem zcw_115 : zMcP 115 := rfl
set_option maxRecDepth 100000 in
theorem zcw_116 : zMcP 116 := rfl
set_option maxRecDepth 100000 in
theorem zcw_117 : zMcP 117 := rfl
set_option maxRecDepth 100000 in
theorem zcw_118 : zMcP 118 := rfl
set_option maxRecDepth 100000 in
theorem zcw_119 : zMcP 119 := rfl
set_option maxRecDepth 100000 in
theorem zcw_120 : zMcP 120 := rfl
set_option maxRecDepth 100000 in
theorem zcw_121 : zMcP 121 := rfl
set_option maxRecDepth 100000 in
theorem zcw_122 : zMcP 122 := rfl
set_option maxRecDepth 100000 in
theorem zcw_123 : zMcP 123 := rfl
set_option maxRecDepth 100000 in
theorem zcw_124 : zMcP 124 := rfl
set_option maxRecDepth 100000 in
theorem zcw_125 : zMcP 125 := rfl
set_option maxRecDepth 100000 in
theorem zcw_126 : zMcP 126 := rfl
set_option maxRecDepth 100000 in
theorem zcw_127 : zMcP 127 := rfl
set_option maxRecDepth 100000 in
theorem zcw_128 : zMcP 128 := rfl
set_option maxRecDepth 100000 in
theorem zcw_129 : zMcP 129 := rfl
set_option maxRecDepth 100000 in
theorem zcw_130 : zMcP 130 := rfl
set_option maxRecDepth 100000 in
theorem zcw_131 : zMcP 131 := rfl
set_option maxRecDepth 100000 in
theorem zcw_132 : zMcP 132 := rfl
set_option maxRecDepth 100000 in
theorem zcw_133 : zMcP 133 := rfl
set_option maxRecDepth 100000 in
theorem zcw_134 : zMcP 134 := rfl
set_option maxRecDepth 100000 in
theorem zcw_135 : zMcP 135 := rfl
set_option maxRecDepth 100000 in
theorem zcw_136 : zMcP 136 := rfl
set_option maxRecDepth 100000 in
theorem zcw_137 : zMcP 137 := rfl
set_option maxRecDepth 100000 in
theorem zcw_138 : zMcP 138 := rfl
set_option maxRecDepth 100000 in
theorem zcw_139 : zMcP 139 := rfl
set_option maxRecDepth 100000 in
theorem zcw_140 : zMcP 140 := rfl
set_option maxRecDepth 100000 in
theorem zcw_141 : zMcP 141 := rfl
set_option maxRecDepth 100000 in
theorem zcw_142 : zMcP 142 := rfl
set_option maxRecDepth 100000 in
theorem zcw_143 : zMcP 143 := rfl
set_option maxRecDepth 100000 in
theorem zcw_144 : zMcP 144 := rfl
set_option maxRecDepth 100000 in
theorem zcw_145 : zMcP 145 := rfl
set_option maxRecDepth 100000 in
theorem zcw_146 : zMcP 146 := rfl
set_option maxRecDepth 100000 in
theorem zcw_147 : zMcP 147 := rfl
set_option maxRecDepth 100000 in
theorem zcw_148 : zMcP 148 := rfl
set_option maxRecDepth 100000 in
theorem zcw_149 : zMcP 149 := rfl
set_option maxRecDepth 100000 in
theorem zcw_150 : zMcP 150 := rfl
set_option maxRecDepth 100000 in
theorem zcw_151 : zMcP 151 := rfl
set_option maxRecDepth 100000 in
theorem zcw_152 : zMcP 152 := rfl
set_option maxRecDepth 100000 in
theorem zcw_153 : zMcP 153 := rfl
set_option maxRecDepth 100000 in
theorem zcw_154 : zMcP 154 := rfl
set_option maxRecDepth 100000 in
theorem zcw_155 : zMcP 155 := rfl
set_option maxRecDepth 100000 in
theorem zcw_156 : zMcP 156 := rfl
set_option maxRecDepth 100000 in
theorem zcw_157 : zMcP 157 := rfl
set_option maxRecDepth 100000 in
theorem zcw_158 : zMcP 158 := rfl
set_option maxRecDepth 100000 in
theorem zcw_159 : zMcP 159 := rfl
set_option maxRecDepth 100000 in
theorem zcw_160 : zMcP 160 := rfl
set_option maxRecDepth 100000 in
theorem zcw_161 : zMcP 161 := rfl
set_option maxRecDepth 100000 in
theorem zcw_162 : zMcP 162 := rfl
set_option maxRecDepth 100000 in
theorem zcw_163 : zMcP 163 := rfl
set_option maxRecDepth 100000 in
theorem zcw_164 : zMcP 164 := rfl
set_option maxRecDepth 100000 in
theorem zcw_165 : zMcP 165 := rfl
set_option maxRecDepth 100000 in
theorem zcw_166 : zMcP 166 := rfl
set_option maxRecDepth 100000 in
theorem zcw_167 : zMcP 167 := rfl
set_option maxRecDepth 100000 in
theorem zcw_168 : zMcP 168 := rfl
set_option maxRecDepth 100000 in
theorem zcw_169 : zMcP 169 := rfl
set_option maxRecDepth 100000 in
theorem zcw_170 : zMcP 170 := rfl
set_option maxRecDepth 100000 in
theorem zcw_171 : zMcP 171 := rfl
set_option maxRecDepth 100000 in
theorem zcw_172 : zMcP 172 := rfl
set_option maxRecDepth 100000 in
theorem zcw_173 : zMcP 173 := rfl
set_option maxRecDepth 100000 in
theorem zcw_174 : zMcP 174 := rfl
set_option maxRecDepth 100000 in
theorem zcw_175 : zMcP 175 := rfl
set_option maxRecDepth 100000 in
theorem zcw_176 : zMcP 176 := rfl
set_option maxRecDepth 100000 in
theorem zcw_177 : zMcP 177 := rfl
set_option maxRecDepth 100000 in
theorem zcw_178 : zMcP 178 := rfl
set_option maxRecDepth 100000 in
theorem zcw_179 : zMcP 179 := rfl
set_option maxRecDepth 100000 in
theorem zcw_180 : zMcP 180 := rfl
set_option maxRecDepth 100000 in
theorem zcw_181 : zMcP 181 := rfl
set_option maxRecDepth 100000 in
theorem zcw_182 : zMcP 182 := rfl
set_option maxRecDepth 100000 in
theorem zcw_183 : zMcP 183 := rfl
set_option maxRecDepth 100000 in
theorem zcw_184 : zMcP 184 := rfl
set_option maxRecDepth 100000 in
theorem zcw_185 : zMcP 185 := rfl
set_option maxRecDepth 100000 in
theorem zcw_186 : zMcP 186 := rfl
set_option maxRecDepth 100000 in
theorem zcw_187 : zMcP 187 := rfl
set_option maxRecDepth 100000 in
theorem zcw_188 : zMcP 188 := rfl
set_option maxRecDepth 100000 in
theorem zcw_189 : zMcP 189 := rfl
set_option maxRecDepth 100000 in
theorem zcw_190 : zMcP 190 := rfl
set_option maxRecDepth 100000 in
theorem zcw_191 : zMcP 191 := rfl
set_option maxRecDepth 100000 in
theorem zcw_192 : zMcP 192 := rfl
set_option maxRecDepth 100000 in
theorem zcw_193 : zMcP 193 := rfl
set_option maxRecDepth 100000 in
theorem zcw_194 : zMcP 194 := rfl
set_option maxRecDepth 100000 in
theorem zcw_195 : zMcP 195 := rfl
set_option maxRecDepth 100000 in
theorem zcw_196 : zMcP 196 := rfl
set_option maxRecDepth 100000 in
theorem zcw_197 : zMcP 197 := rfl
set_option maxRecDepth 100000 in
theorem zcw_198 : zMcP 198 := rfl
set_option maxRecDepth 100000 in
theorem zcw_199 : zMcP 199 := rfl
set_option maxRecDepth 100000 in
theorem zcw_200 : zMcP 200 := rfl
set_option maxRecDepth 100000 in
theorem zcw_201 : zMcP 201 := rfl
set_option maxRecDepth 100000 in
theorem zcw_202 : zMcP 202 := rfl
set_option maxRecDepth 100000 in
theorem zcw_203 : zMcP 203 := rfl
set_option maxRecDepth 100000 in
theorem zcw_204 : zMcP 204 := rfl
set_option maxRecDepth 100000 in
theorem zcw_205 : zMcP 205 := rfl
set_option maxRecDepth 100000 in
theorem zcw_206 : zMcP 206 := rfl
set_option maxRecDepth 100000 in
theorem zcw_207 : zMcP 207 := rfl
set_option maxRecDepth 100000 in
theorem zcw_208 : zMcP 208 := rfl
set_option maxRecDepth 100000 in
theorem zcw_209 : zMcP 209 := rfl
set_option maxRecDepth 100000 in
theorem zcw_210 : zMcP 210 := rfl
set_option maxRecDepth 100000 in
theorem zcw_211 : zMcP 211 := rfl
set_option maxRecDepth 100000 in
theorem zcw_212 : zMcP 212 := rfl
set_option maxRecDepth 100000 in
theorem zcw_213 : zMcP 213 := rfl
set_option maxRecDepth 100000 in
theorem zcw_214 : zMcP 214 := rfl
set_option maxRecDepth 100000 in
theorem zcw_215 : zMcP 215 := rfl
set_option maxRecDepth 100000 in
theorem zcw_216 : zMcP 216 := rfl
set_option maxRecDepth 100000 in
theorem zcw_217 : zMcP 217 := rfl
set_option maxRecDepth 100000 in
theorem zcw_218 : zMcP 218 := rfl
set_option maxRecDepth 100000 in
theorem zcw_219 : zMcP 219 := rfl
set_option maxRecDepth 100000 in
theorem zcw_220 : zMcP 220 := rfl
set_option maxRecDepth 100000 in
theorem zcw_221 : zMcP 221 := rfl
set_option maxRecDepth 100000 in
theorem zcw_222 : zMcP 222 := rfl
set_option maxRecDepth 100000 in
theorem zcw_223 : zMcP 223 := rfl
set_option maxRecDepth 100000 in
theorem zcw_224 : zMcP 224 := rfl
set_option maxRecDepth 100000 in
theorem zcw_225 : zMcP 225 := rfl
set_option maxRecDepth 100000 in
theorem zcw_226 : zMcP 226 := rfl
set_option maxRecDepth 100000 in
theorem zcw_227 : zMcP 227 := rfl
set_option maxRecDepth 100000 in
theorem zcw_228 : zMcP 228 := rfl
set_option maxRecDepth 100000 in
theorem zcw_229 : zMcP 229 := rfl
set_option maxRecDepth 100000 in
theorem zcw_230 : zMcP 230 := rfl
set_option maxRecDepth 100000 in
theorem zcw_231 : zMcP 231 := rfl
set_option maxRecDepth 100000 in
theorem zcw_232 : zMcP 232 := rfl
set_option maxRecDepth 100000 in
theorem zcw_233 : zMcP 233 := rfl
set_option maxRecDepth 100000 in
theorem zcw_234 : zMcP 234 := rfl
set_option maxRecDepth 100000 in
theorem zcw_235 : zMcP 235 := rfl
set_option maxRecDepth 100000 in
theorem zcw_236 : zMcP 236 := rfl
set_option maxRecDepth 100000 in
theorem zcw_237 : zMcP 237 := rfl
set_option maxRecDepth 100000 in
theorem zcw_238 : zMcP 238 := rfl
set_option maxRecDepth 100000 in
theorem zcw_239 : zMcP 239 := rfl
set_option maxRecDepth 100000 in
theorem zcw_240 : zMcP 240 := rfl
set_option maxRecDepth 100000 in
theorem zcw_241 : zMcP 241 := rfl
set_option maxRecDepth 100000 in
theorem zcw_242 : zMcP 242 := rfl
set_option maxRecDepth 100000 in
theorem zcw_243 : zMcP 243 := rfl
set_option maxRecDepth 100000 in
theorem zcw_244 : zMcP 244 := rfl
set_option maxRecDepth 100000 in
theorem zcw_245 : zMcP 245 := rfl
set_option maxRecDepth 100000 in
theorem zcw_246 : zMcP 246 := rfl
set_option maxRecDepth 100000 in
theorem zcw_247 : zMcP 247 := rfl
set_option maxRecDepth 100000 in
theorem zcw_248 : zMcP 248 := rfl
set_option maxRecDepth 100000 in
theorem zcw_249 : zMcP 249 := rfl
set_option maxRecDepth 100000 in
theorem zcw_250 : zMcP 250 := rfl
set_option maxRecDepth 100000 in
theorem zcw_251 : zMcP 251 := rfl
set_option maxRecDepth 100000 in
theorem zcw_252 : zMcP 252 := rfl
set_option maxRecDepth 100000 in
theorem zcw_253 : zMcP 253 := rfl
set_option maxRecDepth 100000 in
theorem zcw_254 : zMcP 254 := rfl
set_option maxRecDepth 100000 in
theorem zcw_255 : zMcP 255 := rfl
set_option maxRecDepth 100000 in
theorem zcw_256 : zMcP 256 := rfl
set_option maxRecDepth 100000 in
theorem zcw_257 : zMcP 257 := rfl
set_option maxRecDepth 100000 in
theorem zcw_258 : zMcP 258 := rfl
set_option maxRecDepth 100000 in
theorem zcw_259 : zMcP 259 := rfl
set_option maxRecDepth 100000 in
theorem zcw_260 : zMcP 260 := rfl
set_option maxRecDepth 100000 in
theorem zcw_261 : zMcP 261 := rfl
set_option maxRecDepth 100000 in
theorem zcw_262 : zMcP 262 := rfl
set_option maxRecDepth 100000 in
theorem zcw_263 : zMcP 263 := rfl
set_option maxRecDepth 100000 in
theorem zcw_264 : zMcP 264 := rfl
set_option maxRecDepth 100000 in
theorem zcw_265 : zMcP 265 := rfl
set_option maxRecDepth 100000 in
theorem zcw_266 : zMcP 266 := rfl
set_option maxRecDepth 100000 in
theorem zcw_267 : zMcP 267 := rfl
set_option maxRecDepth 100000 in
theorem zcw_268 : zMcP 268 := rfl
set_option maxRecDepth 100000 in
theorem zcw_269 : zMcP 269 := rfl
set_option maxRecDepth 100000 in
theorem zcw_270 : zMcP 270 := rfl
set_option maxRecDepth 100000 in
theorem zcw_271 : zMcP 271 := rfl
set_option maxRecDepth 100000 in
theorem zcw_272 : zMcP 272 := rfl
set_option maxRecDepth 100000 in
theorem zcw_273 : zMcP 273 := rfl
set_option maxRecDepth 100000 in
theorem zcw_274 : zMcP 274 := rfl
set_option maxRecDepth 100000 in
theorem zcw_275 : zMcP 275 := rfl
set_option maxRecDepth 100000 in
theorem zcw_276 : zMcP 276 := rfl
set_option maxRecDepth 100000 in
theorem zcw_277 : zMcP 277 := rfl
set_option maxRecDepth 100000 in
theorem zcw_278 : zMcP 278 := rfl
set_option maxRecDepth 100000 in
theorem zcw_279 : zMcP 279 := rfl
set_option maxRecDepth 100000 in
theorem zcw_280 : zMcP 280 := rfl
set_option maxRecDepth 100000 in
theorem zcw_281 : zMcP 281 := rfl
set_option maxRecDepth 100000 in
theorem zcw_282 : zMcP 282 := rfl
set_option maxRecDepth 100000 in
theorem zcw_283 : zMcP 283 := rfl
set_option maxRecDepth 100000 in
theorem zcw_284 : zMcP 284 := rfl
set_option maxRecDepth 100000 in
theorem zcw_285 : zMcP 285 := rfl
set_option maxRecDepth 100000 in
theorem zcw_286 : zMcP 286 := rfl
set_option maxRecDepth 100000 in
theorem zcw_287 : zMcP 287 := rfl
set_option maxRecDepth 100000 in
theorem zcw_288 : zMcP 288 := rfl
set_option maxRecDepth 100000 in
theorem zcw_289 : zMcP 289 := rfl
set_option maxRecDepth 100000 in
theorem zcw_290 : zMcP 290 := rfl
set_option maxRecDepth 100000 in
theorem zcw_291 : zMcP 291 := rfl
set_option maxRecDepth 100000 in
theorem zcw_292 : zMcP 292 := rfl
set_option maxRecDepth 100000 in
theorem zcw_293 : zMcP 293 := rfl
set_option maxRecDepth 100000 in
theorem zcw_294 : zMcP 294 := rfl
set_option maxRecDepth 100000 in
theorem zcw_295 : zMcP 295 := rfl
set_option maxRecDepth 100000 in
theorem zcw_296 : zMcP 296 := rfl
set_option maxRecDepth 100000 in
theorem zcw_297 : zMcP 297 := rfl
set_option maxRecDepth 100000 in
theorem zcw_298 : zMcP 298 := rfl
set_option maxRecDepth 100000 in
theorem zcw_299 : zMcP 299 := rfl
set_option maxRecDepth 100000 in
theorem zcw_300 : zMcP 300 := rfl
set_option maxRecDepth 100000 in
theorem zcw_301 : zMcP 301 := rfl
set_option maxRecDepth 100000 in
theorem zcw_302 : zMcP 302 := rfl
set_option maxRecDepth 100000 in
theorem zcw_303 : zMcP 303 := rfl
set_option maxRecDepth 100000 in
theorem zcw_304 : zMcP 304 := rfl
set_option maxRecDepth 100000 in
theorem zcw_305 : zMcP 305 := rfl
set_option maxRecDepth 100000 in
theorem zcw_306 : zMcP 306 := rfl
set_option maxRecDepth 100000 in
theorem zcw_307 : zMcP 307 := rfl
set_option maxRecDepth 100000 in
theorem zcw_308 : zMcP 308 := rfl
set_option maxRecDepth 100000 in
theorem zcw_309 : zMcP 309 := rfl
set_option maxRecDepth 100000 in
theorem zcw_310 : zMcP 310 := rfl
set_option maxRecDepth 100000 in
theorem zcw_311 : zMcP 311 := rfl
set_option maxRecDepth 100000 in
theorem zcw_312 : zMcP 312 := rfl
set_option maxRecDepth 100000 in
theorem zcw_313 : zMcP 313 := rfl
set_option maxRecDepth 100000 in
theorem zcw_314 : zMcP 314 := rfl
set_option maxRecDepth 100000 in
theorem zcw_315 : zMcP 315 := rfl
theorem zcw_lt1 : ∀ a, a < 1 → 0 < a → zMcP a := fun a h h0 => absurd h0 (by omega)
theorem zcw_lt2 : ∀ a, a < 2 → 0 < a → zMcP a := lt_s zcw_lt1 (fun _ => zcw_1)
theorem zcw_lt3 : ∀ a, a < 3 → 0 < a → zMcP a := lt_s zcw_lt2 (fun _ => zcw_2)
theorem zcw_lt4 : ∀ a, a < 4 → 0 < a → zMcP a := lt_s zcw_lt3 (fun _ => zcw_3)
theorem zcw_lt5 : ∀ a, a < 5 → 0 < a → zMcP a := lt_s zcw_lt4 (fun _ => zcw_4)
theorem zcw_lt6 : ∀ a, a < 6 → 0 < a → zMcP a := lt_s zcw_lt5 (fun _ => zcw_5)
theorem zcw_lt7 : ∀ a, a < 7 → 0 < a → zMcP a := lt_s zcw_lt6 (fun _ => zcw_6)
theorem zcw_lt8 : ∀ a, a < 8 → 0 < a → zMcP a := lt_s zcw_lt7 (fun _ => zcw_7)
theorem zcw_lt9 : ∀ a, a < 9 → 0 < a → zMcP a := lt_s zcw_lt8 (fun _ => zcw_8)
theorem zcw_lt10 : ∀ a, a < 10 → 0 < a → zMcP a := lt_s zcw_lt9 (fun _ => zcw_9)
theorem zcw_lt11 : ∀ a, a < 11 → 0 < a → zMcP a := lt_s zcw_lt10 (fun _ => zcw_10)
theorem zcw_lt12 : ∀ a, a < 12 → 0 < a → zMcP a := lt_s zcw_lt11 (fun _ => zcw_11)
theorem zcw_lt13 : ∀ a, a < 13 → 0 < a → zMcP a := lt_s zcw_lt12 (fun _ => zcw_12)
theorem zcw_lt14 : ∀ a, a < 14 → 0 < a → zMcP a := lt_s zcw_lt13 (fun _ => zcw_13)
theorem zcw_lt15 : ∀ a, a < 15 → 0 < a → zMcP a := lt_s zcw_lt14 (fun _ => zcw_14)
theorem zcw_lt16 : ∀ a, a < 16 → 0 < a → zMcP a := lt_s zcw_lt15 (fun _ => zcw_15)
theorem zcw_lt17 : ∀ a, a < 17 → 0 < a → zMcP a := lt_s zcw_lt16 (fun _ => zcw_16)
theorem zcw_lt18 : ∀ a, a < 18 → 0 < a → zMcP a := lt_s zcw_lt17 (fun _ => zcw_17)
theorem zcw_lt19 : ∀ a, a < 19 → 0 < a → zMcP a := lt_s zcw_lt18 (fun _ => zcw_18)
theorem zcw_lt20 : ∀ a, a < 20 → 0 < a → zMcP a := lt_s zcw_lt19 (fun _ => zcw_19)
theorem zcw_lt21 : ∀ a, a < 21 → 0 < a → zMcP a := lt_s zcw_lt20 (fun _ => zcw_20)
theorem zcw_lt22 : ∀ a, a < 22 → 0 < a → zMcP a := lt_s zcw_lt21 (fun _ => zcw_21)
theorem zcw_lt23 : ∀ a, a < 23 → 0 < a → zMcP a := lt_s zcw_lt22 (fun _ => zcw_22)
theorem zcw_lt24 : ∀ a, a < 24 → 0 < a → zMcP a := lt_s zcw_lt23 (fun _ => zcw_23)
theorem zcw_lt25 : ∀ a, a < 25 → 0 < a → zMcP a := lt_s zcw_lt24 (fun _ => zcw_24)
theorem zcw_lt26 : ∀ a, a < 26 → 0 < a → zMcP a := lt_s zcw_lt25 (fun _ => zcw_25)
theorem zcw_lt27 : ∀ a, a < 27 → 0 < a → zMcP a := lt_s zcw_lt26 (fun _ => zcw_26)
theorem zcw_lt28 : ∀ a, a < 28 → 0 < a → zMcP a := lt_s zcw_lt27 (fun _ => zcw_27)
theorem zcw_lt29 : ∀ a, a < 29 → 0 < a → zMcP a := lt_s zcw_lt28 (fun _ => zcw_28)
theorem zcw_lt30 : ∀ a, a < 30 → 0 < a → zMcP a := lt_s zcw_lt29 (fun _ => zcw_29)
theorem zcw_lt31 : ∀ a, a < 31 → 0 < a → zMcP a := lt_s zcw_lt30 (fun _ => zcw_30)
theorem zcw_lt32 : ∀ a, a < 32 → 0 < a → zMcP a := lt_s zcw_lt31 (fun _ => zcw_31)
theorem zcw_lt33 : ∀ a, a < 33 → 0 < a → zMcP a := lt_s zcw_lt32 (fun _ => zcw_32)
theorem zcw_lt34 : ∀ a, a < 34 → 0 < a → zMcP a := lt_s zcw_lt33 (fun _ => zcw_33)
theorem zcw_lt35 : ∀ a, a < 35 → 0 < a → zMcP a := lt_s zcw_lt34 (fun _ => zcw_34)
theorem zcw_lt36 : ∀ a, a < 36 → 0 < a → zMcP a := lt_s zcw_lt35 (fun _ => zcw_35)
theorem zcw_lt37 : ∀ a, a < 37 → 0 < a → zMcP a := lt_s zcw_lt36 (fun _ => zcw_36)
theorem zcw_lt38 : ∀ a, a < 38 → 0 < a → zMcP a := lt_s zcw_lt37 (fun _ => zcw_37)
theorem zcw_lt39 : ∀ a, a < 39 → 0 < a → zMcP a := lt_s zcw_lt38 (fun _ => zcw_38)
theorem zcw_lt40 : ∀ a, a < 40 → 0 < a → zMcP a := lt_s zcw_lt39 (fun _ => zcw_39)
theorem zcw_lt41 : ∀ a, a < 41 → 0 < a → zMcP a := lt_s zcw_lt40 (fun _ => zcw_40)
theorem zcw_lt42 : ∀ a, a < 42 → 0 < a → zMcP a := lt_s zcw_lt41 (fun _ => zcw_41)
theorem zcw_lt43 : ∀ a, a < 43 → 0 < a → zMcP a := lt_s zcw_lt42 (fun _ => zcw_42)
theorem zcw_lt44 : ∀ a, a < 44 → 0 < a → zMcP a := lt_s zcw_lt43 (fun _ => zcw_43)
theorem zcw_lt45 : ∀ a, a < 45 → 0 < a → zMcP a := lt_s zcw_lt44 (fun _ => zcw_44)
theorem zcw_lt46 : ∀ a, a < 46 → 0 < a → zMcP a := lt_s zcw_lt45 (fun _ => zcw_45)
theorem zcw_lt47 : ∀ a, a < 47 → 0 < a → zMcP a := lt_s zcw_lt46 (fun _ => zcw_46)
theorem zcw_lt48 : ∀ a, a < 48 → 0 < a → zMcP a := lt_s zcw_lt47 (fun _ => zcw_47)
theorem zcw_lt49 : ∀ a, a < 49 → 0 < a → zMcP a := lt_s zcw_lt48 (fun _ => zcw_48)
theorem zcw_lt50 : ∀ a, a < 50 → 0 < a → zMcP a := lt_s zcw_lt49 (fun _ => zcw_49)
theorem zcw_lt51 : ∀ a, a < 51 → 0 < a → zMcP a := lt_s zcw_lt50 (fun _ => zcw_50)
theorem zcw_lt52 : ∀ a, a < 52 → 0 < a → zMcP a := lt_s zcw_lt51 (fun _ => zcw_51)
theorem zcw_lt53 : ∀ a, a < 53 → 0 < a → zMcP a := lt_s zcw_lt52 (fun _ => zcw_52)
theorem zcw_lt54 : ∀ a, a < 54 → 0 < a → zMcP a := lt_s zcw_lt53 (fun _ => zcw_53)
theorem zcw_lt55 : ∀ a, a < 55 → 0 < a → zMcP a := lt_s zcw_lt54 (fun _ => zcw_54)
theorem zcw_lt56 : ∀ a, a < 56 → 0 < a → zMcP a := lt_s zcw_lt55 (fun _ => zcw_55)
theorem zcw_lt57 : ∀ a, a < 57 → 0 < a → zMcP a := lt_s zcw_lt56 (fun _ => zcw_56)
theorem zcw_lt58 : ∀ a, a < 58 → 0 < a → zMcP a := lt_s zcw_lt57 (fun _ => zcw_57)
theorem zcw_lt59 : ∀ a, a < 59 → 0 < a → zMcP a := lt_s zcw_lt58 (fun _ => zcw_58)
theorem zcw_lt60 : ∀ a, a < 60 → 0 < a → zMcP a := lt_s zcw_lt59 (fun _ => zcw_59)
theorem zcw_lt61 : ∀ a, a < 61 → 0 < a → zMcP a := lt_s zcw_lt60 (fun _ => zcw_60)
theorem zcw_lt62 : ∀ a, a < 62 → 0 < a → zMcP a := lt_s zcw_lt61 (fun _ => zcw_61)
theorem zcw_lt63 : ∀ a, a < 63 → 0 < a → zMcP a := lt_s zcw_lt62 (fun _ => zcw_62)
theorem zcw_lt64 : ∀ a, a < 64 → 0 < a → zMcP a := lt_s zcw_lt63 (fun _ => zcw_63)
theorem zcw_lt65 : ∀ a, a < 65 → 0 < a → zMcP a := lt_s zcw_lt64 (fun _ => zcw_64)
theorem zcw_lt66 : ∀ a, a < 66 → 0 < a → zMcP a := lt_s zcw_lt65 (fun _ => zcw_65)
theorem zcw_lt67 : ∀ a, a < 67 → 0 < a → zMcP a := lt_s zcw_lt66 (fun _ => zcw_66)
theorem zcw_lt68 : ∀ a, a < 68 → 0 < a → zMcP a := lt_s zcw_lt67 (fun _ => zcw_67)
theorem zcw_lt69 : ∀ a, a < 69 → 0 < a → zMcP a := lt_s zcw_lt68 (fun _ => zcw_68)
theorem zcw_lt70 : ∀ a, a < 70 → 0 < a → zMcP a := lt_s zcw_lt69 (fun _ => zcw_69)
theorem zcw_lt71 : ∀ a, a < 71 → 0 < a → zMcP a := lt_s zcw_lt70 (fun _ => zcw_70)
theorem zcw_lt72 : ∀ a, a < 72 → 0 < a → zMcP a := lt_s zcw_lt71 (fun _ => zcw_71)
theorem zcw_lt73 : ∀ a, a < 73 → 0 < a → zMcP a := lt_s zcw_lt72 (fun _ => zcw_72)
theorem zcw_lt74 : ∀ a, a < 74 → 0 < a → zMcP a := lt_s zcw_lt73 (fun _ => zcw_73)
theorem zcw_lt75 : ∀ a, a < 75 → 0 < a → zMcP a := lt_s zcw_lt74 (fun _ => zcw_74)
theorem zcw_lt76 : ∀ a, a < 76 → 0 < a → zMcP a := lt_s zcw_lt75 (fun _ => zcw_75)
theorem zcw_lt77 : ∀ a, a < 77 → 0 < a → zMcP a := lt_s zcw_lt76 (fun _ => zcw_76)
theorem zcw_lt78 : ∀ a, a < 78 → 0 < a → zMcP a := lt_s zcw_lt77 (fun _ => zcw_77)
theorem zcw_lt79 : ∀ a, a < 79 → 0 < a → zMcP a := lt_s zcw_lt78 (fun _ => zcw_78)
theorem zcw_lt80 : ∀ a, a < 80 → 0 < a → zMcP a := lt_s zcw_lt79 (fun _ => zcw_79)
theorem zcw_lt81 : ∀ a, a < 81 → 0 < a → zMcP a := lt_s zcw_lt80 (fun _ => zcw_80)
theorem zcw_lt82 : ∀ a, a < 82 → 0 < a → zMcP a := lt_s zcw_lt81 (fun _ => zcw_81)
theorem zcw_lt83 : ∀ a, a < 83 → 0 < a → zMcP a := lt_s zcw_lt82 (fun _ => zcw_82)
theorem zcw_lt84 : ∀ a, a < 84 → 0 < a → zMcP a := lt_s zcw_lt83 (fun _ => zcw_83)
theorem zcw_lt85 : ∀ a, a < 85 → 0 < a → zMcP a := lt_s zcw_lt84 (fun _ => zcw_84)
theorem zcw_lt86 : ∀ a, a < 86 → 0 < a → zMcP a := lt_s zcw_lt85 (fun _ => zcw_85)
theorem zcw_lt87 : ∀ a, a < 87 → 0 < a → zMcP a := lt_s zcw_lt86 (fun _ => zcw_86)
theorem zcw_lt88 : ∀ a, a < 88 → 0 < a → zMcP a := lt_s zcw_lt87 (fun _ => zcw_87)
theorem zcw_lt89 : ∀ a, a < 89 → 0 < a → zMcP a := lt_s zcw_lt88 (fun _ => zcw_88)
theorem zcw_lt90 : ∀ a, a < 90 → 0 < a → zMcP a := lt_s zcw_lt89 (fun _ => zcw_89)
theorem zcw_lt91 : ∀ a, a < 91 → 0 < a → zMcP a := lt_s zcw_lt90 (fun _ => zcw_90)
theorem zcw_lt92 : ∀ a, a < 92 → 0 < a → zMcP a := lt_s zcw_lt91 (fun _ => zcw_91)
theorem zcw_lt93 : ∀ a, a < 93 → 0 < a → zMcP a := lt_s zcw_lt92 (fun _ => zcw_92)
theorem zcw_lt94 : ∀ a, a < 94 → 0 < a → zMcP a := lt_s zcw_lt93 (fun _ => zcw_93)
theorem zcw_lt95 : ∀ a, a < 95 → 0 < a → zMcP a := lt_s zcw_lt94 (fun _ => zcw_94)
theorem zcw_lt96 : ∀ a, a < 96 → 0 < a → zMcP a := lt_s zcw_lt95 (fun _ => zcw_95)
theorem zcw_lt97 : ∀ a, a < 97 → 0 < a → zMcP a := lt_s zcw_lt96 (fun _ => zcw_96)
theorem zcw_lt98 : ∀ a, a < 98 → 0 < a → zMcP a := lt_s zcw_lt97 (fun _ => zcw_97)
theorem zcw_lt99 : ∀ a, a < 99 → 0 < a → zMcP a := lt_s zcw_lt98 (fun _ => zcw_98)
theorem zcw_lt100 : ∀ a, a < 100 → 0 < a → zMcP a := lt_s zcw_lt99 (fun _ => zcw_99)
theorem zcw_lt101 : ∀ a, a < 101 → 0 < a → zMcP a := lt_s zcw_lt100 (fun _ => zcw_100)
theorem zcw_lt102 : ∀ a, a < 102 → 0 < a → zMcP a := lt_s zcw_lt101 (fun _ => zcw_101)
theorem zcw_lt103 : ∀ a, a < 103 → 0 < a → zMcP a := lt_s zcw_lt102 (fun _ => zcw_102)
theorem zcw_lt104 : ∀ a, a < 104 → 0 < a → zMcP a := lt_s zcw_lt103 (fun _ => zcw_103)
theorem zcw_lt105 : ∀ a, a < 105 → 0 < a → zMcP a := lt_s zcw_lt104 (fun _ => zcw_104)
theorem zcw_lt106 : ∀ a, a < 106 → 0 < a → zMcP a := lt_s zcw_lt105 (fun _ => zcw_105)
theorem zcw_lt107 : ∀ a, a < 107 → 0 < a → zMcP a := lt_s zcw_lt106 (fun _ => zcw_106)
theorem zcw_lt108 : ∀ a, a < 108 → 0 < a → zMcP a := lt_s zcw_lt107 (fun _ => zcw_107)
theorem zcw_lt109 : ∀ a, a < 109 → 0 < a → zMcP a := lt_s zcw_lt108 (fun _ => zcw_108)
theorem zcw_lt110 : ∀ a, a < 110 → 0 < a → zMcP a := lt_s zcw_lt109 (fun _ => zcw_109)
theorem zcw_lt111 : ∀ a, a < 111 → 0 < a → zMcP a := lt_s zcw_lt110 (fun _ => zcw_110)
theorem zcw_lt112 : ∀ a, a < 112 → 0 < a → zMcP a := lt_s zcw_lt111 (fun _ => zcw_111)
theorem zcw_lt113 : ∀ a, a < 113 → 0 < a → zMcP a := lt_s zcw_lt112 (fun _ => zcw_112)
theorem zcw_lt114 : ∀ a, a < 114 → 0 < a → zMcP a := lt_s zcw_lt113 (fun _ => zcw_113)
theorem zcw_lt115 : ∀ a, a < 115 → 0 < a → zMcP a := lt_s zcw_lt114 (fun _ => zcw_114)
theorem zcw_lt116 : ∀ a, a < 116 → 0 < a → zMcP a := lt_s zcw_lt115 (fun _ => zcw_115)
theorem zcw_lt117 : ∀ a, a < 117 → 0 < a → zMcP a := lt_s zcw_lt116 (fun _ => zcw_116)
theorem zcw_lt118 : ∀ a, a < 118 → 0 < a → zMcP a := lt_s zcw_lt117 (fun _ => zcw_117)
theorem zcw_lt119 : ∀ a, a < 119 → 0 < a → zMcP a := lt_s zcw_lt118 (fun _ => zcw_118)
theorem zcw_lt120 : ∀ a, a < 120 → 0 < a → zMcP a := lt_s zcw_lt119 (fun _ => zcw_119)
theorem zcw_lt121 : ∀ a, a < 121 → 0 < a → zMcP a := lt_s zcw_lt120 (fun _ => zcw_120)
theorem zcw_lt122 : ∀ a, a < 122 → 0 < a → zMcP a := lt_s zcw_lt121 (fun _ => zcw_121)
theorem zcw_lt123 : ∀ a, a < 123 → 0 < a → zMcP a := lt_s zcw_lt122 (fun _ => zcw_122)
theorem zcw_lt124 : ∀ a, a < 124 → 0 < a → zMcP a := lt_s zcw_lt123 (fun _ => zcw_123)
theorem zcw_lt125 : ∀ a, a < 125 → 0 < a → zMcP a := lt_s zcw_lt124 (fun _ => zcw_124)
theorem zcw_lt126 : ∀ a, a < 126 → 0 < a → zMcP a := lt_s zcw_lt125 (fun _ => zcw_125)
theorem zcw_lt127 : ∀ a, a < 127 → 0 < a → zMcP a := lt_s zcw_lt126 (fun _ => zcw_126)
theorem zcw_lt128 : ∀ a, a < 128 → 0 < a → zMcP a := lt_s zcw_lt127 (fun _ => zcw_127)
theorem zcw_lt129 : ∀ a, a < 129 → 0 < a → zMcP a := lt_s zcw_lt128 (fun _ => zcw_128)
theorem zcw_lt130 : ∀ a, a < 130 → 0 < a → zMcP a := lt_s zcw_lt129 (fun _ => zcw_129)
theorem zcw_lt131 : ∀ a, a < 131 → 0 < a → zMcP a := lt_s zcw_lt130 (fun _ => zcw_130)
theorem zcw_lt132 : ∀ a, a < 132 → 0 < a → zMcP a := lt_s zcw_lt131 (fun _ => zcw_131)
theorem zcw_lt133 : ∀ a, a < 133 → 0 < a → zMcP a := lt_s zcw_lt132 (fun _ => zcw_132)
theorem zcw_lt134 : ∀ a, a < 134 → 0 < a → zMcP a := lt_s zcw_lt133 (fun _ => zcw_133)
theorem zcw_lt135 : ∀ a, a < 135 → 0 < a → zMcP a := lt_s zcw_lt134 (fun _ => zcw_134)
theorem zcw_lt136 : ∀ a, a < 136 → 0 < a → zMcP a := lt_s zcw_lt135 (fun _ => zcw_135)
theorem zcw_lt137 : ∀ a, a < 137 → 0 < a → zMcP a := lt_s zcw_lt136 (fun _ => zcw_136)
theorem zcw_lt138 : ∀ a, a < 138 → 0 < a → zMcP a := lt_s zcw_lt137 (fun _ => zcw_137)
theorem zcw_lt139 : ∀ a, a < 139 → 0 < a → zMcP a := lt_s zcw_lt138 (fun _ => zcw_138)
theorem zcw_lt140 : ∀ a, a < 140 → 0 < a → zMcP a := lt_s zcw_lt139 (fun _ => zcw_139)
theorem zcw_lt141 : ∀ a, a < 141 → 0 < a → zMcP a := lt_s zcw_lt140 (fun _ => zcw_140)
theorem zcw_lt142 : ∀ a, a < 142 → 0 < a → zMcP a := lt_s zcw_lt141 (fun _ => zcw_141)
theorem zcw_lt143 : ∀ a, a < 143 → 0 < a → zMcP a := lt_s zcw_lt142 (fun _ => zcw_142)
theorem zcw_lt144 : ∀ a, a < 144 → 0 < a → zMcP a := lt_s zcw_lt143 (fun _ => zcw_143)
theorem zcw_lt145 : ∀ a, a < 145 → 0 < a → zMcP a := lt_s zcw_lt144 (fun _ => zcw_144)
theorem zcw_lt146 : ∀ a, a < 146 → 0 < a → zMcP a := lt_s zcw_lt145 (fun _ => zcw_145)
theorem zcw_lt147 : ∀ a, a < 147 → 0 < a → zMcP a := lt_s zcw_lt146 (fun _ => zcw_146)
theorem zcw_lt148 : ∀ a, a < 148 → 0 < a → zMcP a := lt_s zcw_lt147 (fun _ => zcw_147)
theorem zcw_lt149 : ∀ a, a < 149 → 0 < a → zMcP a := lt_s zcw_lt148 (fun _ => zcw_148)
theorem zcw_lt150 : ∀ a, a < 150 → 0 < a → zMcP a := lt_s zcw_lt149 (fun _ => zcw_149)
theorem zcw_lt151 : ∀ a, a < 151 → 0 < a → zMcP a := lt_s zcw_lt150 (fun _ => zcw_150)
theorem zcw_lt152 : ∀ a, a < 152 → 0 < a → zMcP a := lt_s zcw_lt151 (fun _ => zcw_151)
theorem zcw_lt153 : ∀ a, a < 153 → 0 < a → zMcP a := lt_s zcw_lt152 (fun _ => zcw_152)
theorem zcw_lt154 : ∀ a, a < 154 → 0 < a → zMcP a := lt_s zcw_lt153 (fun _ => zcw_153)
theorem zcw_lt155 : ∀ a, a < 155 → 0 < a → zMcP a := lt_s zcw_lt154 (fun _ => zcw_154)
theorem zcw_lt156 : ∀ a, a < 156 → 0 < a → zMcP a := lt_s zcw_lt155 (fun _ => zcw_155)
theorem zcw_lt157 : ∀ a, a < 157 → 0 < a → zMcP a := lt_s zcw_lt156 (fun _ => zcw_156)
theorem zcw_lt158 : ∀ a, a < 158 → 0 < a → zMcP a := lt_s zcw_lt157 (fun _ => zcw_157)
theorem zcw_lt159 : ∀ a, a < 159 → 0 < a → zMcP a := lt_s zcw_lt158 (fun _ => zcw_158)
theorem zcw_lt160 : ∀ a, a < 160 → 0 < a → zMcP a := lt_s zcw_lt159 (fun _ => zcw_159)
theorem zcw_lt161 : ∀ a, a < 161 → 0 < a → zMcP a := lt_s zcw_lt160 (fun _ => zcw_160)
theorem zcw_lt162 : ∀ a, a < 162 → 0 < a → zMcP a := lt_s zcw_lt161 (fun _ => zcw_161)
theorem zcw_lt163 : ∀ a, a < 163 → 0 < a → zMcP a := lt_s zcw_lt162 (fun _ => zcw_162)
theorem zcw_lt164 : ∀ a, a < 164 → 0 < a → zMcP a := lt_s zcw_lt163 (fun _ => zcw_163)
theorem zcw_lt165 : ∀ a, a < 165 → 0 < a → zMcP a := lt_s zcw_lt164 (fun _ => zcw_164)
theorem zcw_lt166 : ∀ a, a < 166 → 0 < a → zMcP a := lt_s zcw_lt165 (fun _ => zcw_165)
theorem zcw_lt167 : ∀ a, a < 167 → 0 < a → zMcP a := lt_s zcw_lt166 (fun _ => zcw_166)
theorem zcw_lt168 : ∀ a, a < 168 → 0 < a → zMcP a := lt_s zcw_lt167 (fun _ => zcw_167)
theorem zcw_lt169 : ∀ a, a < 169 → 0 < a → zMcP a := lt_s zcw_lt168 (fun _ => zcw_168)
theorem zcw_lt170 : ∀ a, a < 170 → 0 < a → zMcP a := lt_s zcw_lt169 (fun _ => zcw_169)
theorem zcw_lt171 : ∀ a, a < 171 → 0 < a → zMcP a := lt_s zcw_lt170 (fun _ => zcw_170)
theorem zcw_lt172 : ∀ a, a < 172 → 0 < a → zMcP a := lt_s zcw_lt171 (fun _ => zcw_171)
theorem zcw_lt173 : ∀ a, a < 173 → 0 < a → zMcP a := lt_s zcw_lt172 (fun _ => zcw_172)
theorem zcw_lt174 : ∀ a, a < 174 → 0 < a → zMcP a := lt_s zcw_lt173 (fun _ => zcw_173)
theorem zcw_lt175 : ∀ a, a < 175 → 0 < a → zMcP a := lt_s zcw_lt174 (fun _ => zcw_174)
theorem zcw_lt176 : ∀ a, a < 176 → 0 < a → zMcP a := lt_s zcw_lt175 (fun _ => zcw_175)
theorem zcw_lt177 : ∀ a, a < 177 → 0 < a → zMcP a := lt_s zcw_lt176 (fun _ => zcw_176)
theorem zcw_lt178 : ∀ a, a < 178 → 0 < a → zMcP a := lt_s zcw_lt177 (fun _ => zcw_177)
theorem zcw_lt179 : ∀ a, a < 179 → 0 < a → zMcP a := lt_s zcw_lt178 (fun _ => zcw_178)
theorem zcw_lt180 : ∀ a, a < 180 → 0 < a → zMcP a := lt_s zcw_lt179 (fun _ => zcw_179)
theorem zcw_lt181 : ∀ a, a < 181 → 0 < a → zMcP a := lt_s zcw_lt180 (fun _ => zcw_180)
theorem zcw_lt182 : ∀ a, a < 182 → 0 < a → zMcP a := lt_s zcw_lt181 (fun _ => zcw_181)
theorem zcw_lt183 : ∀ a, a < 183 → 0 < a → zMcP a := lt_s zcw_lt182 (fun _ => zcw_182)
theorem zcw_lt184 : ∀ a, a < 184 → 0 < a → zMcP a := lt_s zcw_lt183 (fun _ => zcw_183)
theorem zcw_lt185 : ∀ a, a < 185 → 0 < a → zMcP a := lt_s zcw_lt184 (fun _ => zcw_184)
theorem zcw_lt186 : ∀ a, a < 186 → 0 < a → zMcP a := lt_s zcw_lt185 (fun _ => zcw_185)
theorem zcw_lt187 : ∀ a, a < 187 → 0 < a → zMcP a := lt_s zcw_lt186 (fun _ => zcw_186)
theorem zcw_lt188 : ∀ a, a < 188 → 0 < a → zMcP a := lt_s zcw_lt187 (fun _ => zcw_187)
theorem zcw_lt189 : ∀ a, a < 189 → 0 < a → zMcP a := lt_s zcw_lt188 (fun _ => zcw_188)
theorem zcw_lt190 : ∀ a, a < 190 → 0 < a → zMcP a := lt_s zcw_lt189 (fun _ => zcw_189)
theorem zcw_lt191 : ∀ a, a < 191 → 0 < a → zMcP a := lt_s zcw_lt190 (fun _ => zcw_190)
theorem zcw_lt192 : ∀ a, a < 192 → 0 < a → zMcP a := lt_s zcw_lt191 (fun _ => zcw_191)
theorem zcw_lt193 : ∀ a, a < 193 → 0 < a → zMcP a := lt_s zcw_lt192 (fun _ => zcw_192)
theorem zcw_lt194 : ∀ a, a < 194 → 0 < a → zMcP a := lt_s zcw_lt193 (fun _ => zcw_193)
theorem zcw_lt195 : ∀ a, a < 195 → 0 < a → zMcP a := lt_s zcw_lt194 (fun _ => zcw_194)
theorem zcw_lt196 : ∀ a, a < 196 → 0 < a → zMcP a := lt_s zcw_lt195 (fun _ => zcw_195)
theorem zcw_lt197 : ∀ a, a < 197 → 0 < a → zMcP a := lt_s zcw_lt196 (fun _ => zcw_196)
theorem zcw_lt198 : ∀ a, a < 198 → 0 < a → zMcP a := lt_s zcw_lt197 (fun _ => zcw_197)
theorem zcw_lt199 : ∀ a, a < 199 → 0 < a → zMcP a := lt_s zcw_lt198 (fun _ => zcw_198)
theorem zcw_lt200 : ∀ a, a < 200 → 0 < a → zMcP a := lt_s zcw_lt199 (fun _ => zcw_199)
theorem zcw_lt201 : ∀ a, a < 201 → 0 < a → zMcP a := lt_s zcw_lt200 (fun _ => zcw_200)
theorem zcw_lt202 : ∀ a, a < 202 → 0 < a → zMcP a := lt_s zcw_lt201 (fun _ => zcw_201)
theorem zcw_lt203 : ∀ a, a < 203 → 0 < a → zMcP a := lt_s zcw_lt202 (fun _ => zcw_202)
theorem zcw_lt204 : ∀ a, a < 204 → 0 < a → zMcP a := lt_s zcw_lt203 (fun _ => zcw_203)
theorem zcw_lt205 : ∀ a, a < 205 → 0 < a → zMcP a := lt_s zcw_lt204 (fun _ => zcw_204)
theorem zcw_lt206 : ∀ a, a < 206 → 0 < a → zMcP a := lt_s zcw_lt205 (fun _ => zcw_205)
theorem zcw_lt207 : ∀ a, a < 207 → 0 < a → zMcP a := lt_s zcw_lt206 (fun _ => zcw_206)
theorem zcw_lt208 : ∀ a, a < 208 → 0 < a → zMcP a := lt_s zcw_lt207 (fun _ => zcw_207)
theorem zcw_lt209 : ∀ a, a < 209 → 0 < a → zMcP a := lt_s zcw_lt208 (fun _ => zcw_208)
theorem zcw_lt210 : ∀ a, a < 210 → 0 < a → zMcP a := lt_s zcw_lt209 (fun _ => zcw_209)
theorem zcw_lt211 : ∀ a, a < 211 → 0 < a → zMcP a := lt_s zcw_lt210 (fun _ => zcw_210)
theorem zcw_lt212 : ∀ a, a < 212 → 0 < a → zMcP a := lt_s zcw_lt211 (fun _ => zcw_211)
theorem zcw_lt213 : ∀ a, a < 213 → 0 < a → zMcP a := lt_s zcw_lt212 (fun _ => zcw_212)
theorem zcw_lt214 : ∀ a, a < 214 → 0 < a → zMcP a := lt_s zcw_lt213 (fun _ => zcw_213)
theorem zcw_lt215 : ∀ a, a < 215 → 0 < a → zMcP a := lt_s zcw_lt214 (fun _ => zcw_214)
theorem zcw_lt216 : ∀ a, a < 216 → 0 < a → zMcP a := lt_s zcw_lt215 (fun _ => zcw_215)
theorem zcw_lt217 : ∀ a, a < 217 → 0 < a → zMcP a := lt_s zcw_lt216 (fun _ => zcw_216)
theorem zcw_lt218 : ∀ a, a < 218 → 0 < a → zMcP a := lt_s zcw_lt217 (fun _ => zcw_217)
theorem zcw_lt219 : ∀ a, a < 219 → 0 < a → zMcP a := lt_s zcw_lt218 (fun _ => zcw_218)
theorem zcw_lt220 : ∀ a, a < 220 → 0 < a → zMcP a := lt_s zcw_lt219 (fun _ => zcw_219)
theorem zcw_lt221 : ∀ a, a < 221 → 0 < a → zMcP a := lt_s zcw_lt220 (fun _ => zcw_220)
theorem zcw_lt222 : ∀ a, a < 222 → 0 < a → zMcP a := lt_s zcw_lt221 (fun _ => zcw_221)
theorem zcw_lt223 : ∀ a, a < 223 → 0 < a → zMcP a := lt_s zcw_lt222 (fun _ => zcw_222)
theorem zcw_lt224 : ∀ a, a < 224 → 0 < a → zMcP a := lt_s zcw_lt223 (fun _ => zcw_223)
theorem zcw_lt225 : ∀ a, a < 225 → 0 < a → zMcP a := lt_s zcw_lt224 (fun _ => zcw_224)
theorem zcw_lt226 : ∀ a, a < 226 → 0 < a → zMcP a := lt_s zcw_lt225 (fun _ => zcw_225)
theorem zcw_lt227 : ∀ a, a < 227 → 0 < a → zMcP a := lt_s zcw_lt226 (fun _ => zcw_226)
theorem zcw_lt228 : ∀ a, a < 228 → 0 < a → zMcP a := lt_s zcw_lt227 (fun _ => zcw_227)
theorem zcw_lt229 : ∀ a, a < 229 → 0 < a → zMcP a := lt_s zcw_lt228 (fun _ => zcw_228)
theorem zcw_lt230 : ∀ a, a < 230 → 0 < a → zMcP a := lt_s zcw_lt229 (fun _ => zcw_229)
theorem zcw_lt231 : ∀ a, a < 231 → 0 < a → zMcP a := lt_s zcw_lt230 (fun _ => zcw_230)
theorem zcw_lt232 : ∀ a, a < 232 → 0 < a → zMcP a := lt_s zcw_lt231 (fun _ => zcw_231)
theorem zcw_lt233 : ∀ a, a < 233 → 0 < a → zMcP a := lt_s zcw_lt232 (fun _ => zcw_232)
theorem zcw_lt234 : ∀ a, a < 234 → 0 < a → zMcP a := lt_s zcw_lt233 (fun _ => zcw_233)
theorem zcw_lt235 : ∀ a, a < 235 → 0 < a → zMcP a := lt_s zcw_lt234 (fun _ => zcw_234)
theorem zcw_lt236 : ∀ a, a < 236 → 0 < a → zMcP a := lt_s zcw_lt235 (fun _ => zcw_235)
theorem zcw_lt237 : ∀ a, a < 237 → 0 < a → zMcP a := lt_s zcw_lt236 (fun _ => zcw_236)
theorem zcw_lt238 : ∀ a, a < 238 → 0 < a → zMcP a := lt_s zcw_lt237 (fun _ => zcw_237)
theorem zcw_lt239 : ∀ a, a < 239 → 0 < a → zMcP a := lt_s zcw_lt238 (fun _ => zcw_238)
theorem zcw_lt240 : ∀ a, a < 240 → 0 < a → zMcP a := lt_s zcw_lt239 (fun _ => zcw_239)
theorem zcw_lt241 : ∀ a, a < 241 → 0 < a → zMcP a := lt_s zcw_lt240 (fun _ => zcw_240)
theorem zcw_lt242 : ∀ a, a < 242 → 0 < a → zMcP a := lt_s zcw_lt241 (fun _ => zcw_241)
theorem zcw_lt243 : ∀ a, a < 243 → 0 < a → zMcP a := lt_s zcw_lt242 (fun _ => zcw_242)
theorem zcw_lt244 : ∀ a, a < 244 → 0 < a → zMcP a := lt_s zcw_lt243 (fun _ => zcw_243)
theorem zcw_lt245 : ∀ a, a < 245 → 0 < a → zMcP a := lt_s zcw_lt244 (fun _ => zcw_244)
theorem zcw_lt246 : ∀ a, a < 246 → 0 < a → zMcP a := lt_s zcw_lt245 (fun _ => zcw_245)
theorem zcw_lt247 : ∀ a, a < 247 → 0 < a → zMcP a := lt_s zcw_lt246 (fun _ => zcw_246)
theorem zcw_lt248 : ∀ a, a < 248 → 0 < a → zMcP a := lt_s zcw_lt247 (fun _ => zcw_247)
theorem zcw_lt249 : ∀ a, a < 249 → 0 < a → zMcP a := lt_s zcw_lt248 (fun _ => zcw_248)
theorem zcw_lt250 : ∀ a, a < 250 → 0 < a → zMcP a := lt_s zcw_lt249 (fun _ => zcw_249)
theorem zcw_lt251 : ∀ a, a < 251 → 0 < a → zMcP a := lt_s zcw_lt250 (fun _ => zcw_250)
theorem zcw_lt252 : ∀ a, a < 252 → 0 < a → zMcP a := lt_s zcw_lt251 (fun _ => zcw_251)
theorem zcw_lt253 : ∀ a, a < 253 → 0 < a → zMcP a := lt_s zcw_lt252 (fun _ => zcw_252)
theorem zcw_lt254 : ∀ a, a < 254 → 0 < a → zMcP a := lt_s zcw_lt253 (fun _ => zcw_253)
theorem zcw_lt255 : ∀ a, a < 255 → 0 < a → zMcP a := lt_s zcw_lt254 (fun _ => zcw_254)
theorem zcw_lt256 : ∀ a, a < 256 → 0 < a → zMcP a := lt_s zcw_lt255 (fun _ => zcw_255)
theorem zcw_lt257 : ∀ a, a < 257 → 0 < a → zMcP a := lt_s zcw_lt256 (fun _ => zcw_256)
theorem zcw_lt258 : ∀ a, a < 258 → 0 < a → zMcP a := lt_s zcw_lt257 (fun _ => zcw_257)
theorem zcw_lt259 : ∀ a, a < 259 → 0 < a → zMcP a := lt_s zcw_lt258 (fun _ => zcw_258)
theorem zcw_lt260 : ∀ a, a < 260 → 0 < a → zMcP a := lt_s zcw_lt259 (fun _ => zcw_259)
theorem zcw_lt261 : ∀ a, a < 261 → 0 < a → zMcP a := lt_s zcw_lt260 (fun _ => zcw_260)
theorem zcw_lt262 : ∀ a, a < 262 → 0 < a → zMcP a := lt_s zcw_lt261 (fun _ => zcw_261)
theorem zcw_lt263 : ∀ a, a < 263 → 0 < a → zMcP a := lt_s zcw_lt262 (fun _ => zcw_262)
theorem zcw_lt264 : ∀ a, a < 264 → 0 < a → zMcP a := lt_s zcw_lt263 (fun _ => zcw_263)
theorem zcw_lt265 : ∀ a, a < 265 → 0 < a → zMcP a := lt_s zcw_lt264 (fun _ => zcw_264)
theorem zcw_lt266 : ∀ a, a < 266 → 0 < a → zMcP a := lt_s zcw_lt265 (fun _ => zcw_265)
theorem zcw_lt267 : ∀ a, a < 267 → 0 < a → zMcP a := lt_s zcw_lt266 (fun _ => zcw_266)
theorem zcw_lt268 : ∀ a, a < 268 → 0 < a → zMcP a := lt_s zcw_lt267 (fun _ => zcw_267)
theorem zcw_lt269 : ∀ a, a < 269 → 0 < a → zMcP a := lt_s zcw_lt268 (fun _ => zcw_268)
theorem zcw_lt270 : ∀ a, a < 270 → 0 < a → zMcP a := lt_s zcw_lt269 (fun _ => zcw_269)
theorem zcw_lt271 : ∀ a, a < 271 → 0 < a → zMcP a := lt_s zcw_lt270 (fun _ => zcw_270)
theorem zcw_lt272 : ∀ a, a < 272 → 0 < a → zMcP a := lt_s zcw_lt271 (fun _ => zcw_271)
theorem zcw_lt273 : ∀ a, a < 273 → 0 < a → zMcP a := lt_s zcw_lt272 (fun _ => zcw_272)
theorem zcw_lt274 : ∀ a, a < 274 → 0 < a → zMcP a := lt_s zcw_lt273 (fun _ => zcw_273)
theorem zcw_lt275 : ∀ a, a < 275 → 0 < a → zMcP a := lt_s zcw_lt274 (fun _ => zcw_274)
theorem zcw_lt276 : ∀ a, a < 276 → 0 < a → zMcP a := lt_s zcw_lt275 (fun _ => zcw_275)
theorem zcw_lt277 : ∀ a, a < 277 → 0 < a → zMcP a := lt_s zcw_lt276 (fun _ => zcw_276)
theorem zcw_lt278 : ∀ a, a < 278 → 0 < a → zMcP a := lt_s zcw_lt277 (fun _ => zcw_277)
theorem zcw_lt279 : ∀ a, a < 279 → 0 < a → zMcP a := lt_s zcw_lt278 (fun _ => zcw_278)
theorem zcw_lt280 : ∀ a, a < 280 → 0 < a → zMcP a := lt_s zcw_lt279 (fun _ => zcw_279)
theorem zcw_lt281 : ∀ a, a < 281 → 0 < a → zMcP a := lt_s zcw_lt280 (fun _ => zcw_280)
theorem zcw_lt282 : ∀ a, a < 282 → 0 < a → zMcP a := lt_s zcw_lt281 (fun _ => zcw_281)
theorem zcw_lt283 : ∀ a, a < 283 → 0 < a → zMcP a := lt_s zcw_lt282 (fun _ => zcw_282)
theorem zcw_lt284 : ∀ a, a < 284 → 0 < a → zMcP a := lt_s zcw_lt283 (fun _ => zcw_283)
theorem zcw_lt285 : ∀ a, a < 285 → 0 < a → zMcP a := lt_s zcw_lt284 (fun _ => zcw_284)
theorem zcw_lt286 : ∀ a, a < 286 → 0 < a → zMcP a := lt_s zcw_lt285 (fun _ => zcw_285)
theorem zcw_lt287 : ∀ a, a < 287 → 0 < a → zMcP a := lt_s zcw_lt286 (fun _ => zcw_286)
theorem zcw_lt288 : ∀ a, a < 288 → 0 < a → zMcP a := lt_s zcw_lt287 (fun _ => zcw_287)
theorem zcw_lt289 : ∀ a, a < 289 → 0 < a → zMcP a := lt_s zcw_lt288 (fun _ => zcw_288)
theorem zcw_lt290 : ∀ a, a < 290 → 0 < a → zMcP a := lt_s zcw_lt289 (fun _ => zcw_289)
theorem zcw_lt291 : ∀ a, a < 291 → 0 < a → zMcP a := lt_s zcw_lt290 (fun _ => zcw_290)
theorem zcw_lt292 : ∀ a, a < 292 → 0 < a → zMcP a := lt_s zcw_lt291 (fun _ => zcw_291)
theorem zcw_lt293 : ∀ a, a < 293 → 0 < a → zMcP a := lt_s zcw_lt292 (fun _ => zcw_292)
theorem zcw_lt294 : ∀ a, a < 294 → 0 < a → zMcP a := lt_s zcw_lt293 (fun _ => zcw_293)
theorem zcw_lt295 : ∀ a, a < 295 → 0 < a → zMcP a := lt_s zcw_lt294 (fun _ => zcw_294)
theorem zcw_lt296 : ∀ a, a < 296 → 0 < a → zMcP a := lt_s zcw_lt295 (fun _ => zcw_295)
theorem zcw_lt297 : ∀ a, a < 297 → 0 < a → zMcP a := lt_s zcw_lt296 (fun _ => zcw_296)
theorem zcw_lt298 : ∀ a, a < 298 → 0 < a → zMcP a := lt_s zcw_lt297 (fun _ => zcw_297)
theorem zcw_lt299 : ∀ a, a < 299 → 0 < a → zMcP a := lt_s zcw_lt298 (fun _ => zcw_298)
theorem zcw_lt300 : ∀ a, a < 300 → 0 < a → zMcP a := lt_s zcw_lt299 (fun _ => zcw_299)
theorem zcw_lt301 : ∀ a, a < 301 → 0 < a → zMcP a := lt_s zcw_lt300 (fun _ => zcw_300)
theorem zcw_lt302 : ∀ a, a < 302 → 0 < a → zMcP a := lt_s zcw_lt301 (fun _ => zcw_301)
theorem zcw_lt303 : ∀ a, a < 303 → 0 < a → zMcP a := lt_s zcw_lt302 (fun _ => zcw_302)
theorem zcw_lt304 : ∀ a, a < 304 → 0 < a → zMcP a := lt_s zcw_lt303 (fun _ => zcw_303)
theorem zcw_lt305 : ∀ a, a < 305 → 0 < a → zMcP a := lt_s zcw_lt304 (fun _ => zcw_304)
theorem zcw_lt306 : ∀ a, a < 306 → 0 < a → zMcP a := lt_s zcw_lt305 (fun _ => zcw_305)
theorem zcw_lt307 : ∀ a, a < 307 → 0 < a → zMcP a := lt_s zcw_lt306 (fun _ => zcw_306)
theorem zcw_lt308 : ∀ a, a < 308 → 0 < a → zMcP a := lt_s zcw_lt307 (fun _ => zcw_307)
theorem zcw_lt309 : ∀ a, a < 309 → 0 < a → zMcP a := lt_s zcw_lt308 (fun _ => zcw_308)
theorem zcw_lt310 : ∀ a, a < 310 → 0 < a → zMcP a := lt_s zcw_lt309 (fun _ => zcw_309)
theorem zcw_lt311 : ∀ a, a < 311 → 0 < a → zMcP a := lt_s zcw_lt310 (fun _ => zcw_310)
theorem zcw_lt312 : ∀ a, a < 312 → 0 < a → zMcP a := lt_s zcw_lt311 (fun _ => zcw_311)
theorem zcw_lt313 : ∀ a, a < 313 → 0 < a → zMcP a := lt_s zcw_lt312 (fun _ => zcw_312)
theorem zcw_lt314 : ∀ a, a < 314 → 0 < a → zMcP a := lt_s zcw_lt313 (fun _ => zcw_313)
theorem zcw_lt315 : ∀ a, a < 315 → 0 < a → zMcP a := lt_s zcw_lt314 (fun _ => zcw_314)
theorem zcw_lt316 : ∀ a, a < 316 → 0 < a → zMcP a := lt_s zcw_lt315 (fun _ => zcw_315)
