/-! ===== THE PROGRAM AS DATA (printed by wip/gen/out.py from the words and the bytes of the Statement): owners, fields, methods, resolution ===== -/
def onL : List String := ["GriefWood", "GriefWood$Whole", "GriefWood$Law", "GriefWood$Lines", "GriefWood$Told", "GriefWood$Row", "GriefWood$Scene", "GriefWood$Wishes", "GriefWood$LawReader", "GriefWood$Tokens", "GriefWoodModel", "GriefWood$Thought", "GriefWood$WoodThought", "GriefWoodLaw", "java/lang/String", "java/lang/StringLatin1", "jdk/internal/util/Preconditions", "java/lang/Integer", "java/lang/Long"]
def on (o : Nat) : String := onL.getD o ""
def fTL_0 : List (String × String × String × Bool) := [("GriefWood", "now", "LGriefWood$Whole;", true), ("GriefWood", "pictured", "LGriefWood$Whole;", true), ("GriefWood", "hasImage", "Z", false), ("GriefWood", "thought", "LGriefWood$Scene;", true), ("GriefWood", "kept", "[LGriefWood$Scene;", true), ("GriefWood", "keptCount", "I", false), ("GriefWood", "keptNext", "I", false), ("GriefWood", "tape", "[C", true), ("GriefWood", "tapeLength", "I", false), ("GriefWood", "lawReader", "LGriefWood$LawReader;", true), ("GriefWood", "toldLines", "LGriefWood$Lines;", true), ("GriefWood", "latestFault", "I", false), ("GriefWood", "latestPlace", "I", false)]
def fyL_0 : List FieldType := [(.object "GriefWood$Whole"), (.object "GriefWood$Whole"), .boolean, (.object "GriefWood$Scene"), (.array (.object "GriefWood$Scene")), .int, .int, (.array .char), .int, (.object "GriefWood$LawReader"), (.object "GriefWood$Lines"), .int, .int]
def fTL_1 : List (String × String × String × Bool) := [("GriefWood$Whole", "scene", "LGriefWood$Scene;", true), ("GriefWood$Whole", "law", "LGriefWood$Law;", true), ("GriefWood$Whole", "plan", "LGriefWood$Lines;", true), ("GriefWood$Whole", "tables", "LGriefWood$Lines;", true), ("GriefWood$Whole", "told", "LGriefWood$Told;", true), ("GriefWood$Whole", "woodLines", "I", false), ("GriefWood$Whole", "bookRows", "[I", true)]
def fyL_1 : List FieldType := [(.object "GriefWood$Scene"), (.object "GriefWood$Law"), (.object "GriefWood$Lines"), (.object "GriefWood$Lines"), (.object "GriefWood$Told"), .int, (.array .int)]
def fTL_2 : List (String × String × String × Bool) := [("GriefWood$Law", "code", "[I", true), ("GriefWood$Law", "word", "[I", true), ("GriefWood$Law", "from", "[I", true), ("GriefWood$Law", "when", "[I", true), ("GriefWood$Law", "until", "[I", true), ("GriefWood$Law", "lines", "I", false), ("GriefWood$Law", "used", "I", false), ("GriefWood$Law", "sight", "[I", true), ("GriefWood$Law", "stack", "[I", true)]
def fyL_2 : List FieldType := [(.array .int), (.array .int), (.array .int), (.array .int), (.array .int), .int, .int, (.array .int), (.array .int)]
def fTL_3 : List (String × String × String × Bool) := [("GriefWood$Lines", "on", "[I", true), ("GriefWood$Lines", "who", "[I", true), ("GriefWood$Lines", "verb", "[I", true), ("GriefWood$Lines", "n", "[I", true), ("GriefWood$Lines", "m", "[I", true), ("GriefWood$Lines", "weight", "[I", true), ("GriefWood$Lines", "count", "I", false)]
def fyL_3 : List FieldType := [(.array .int), (.array .int), (.array .int), (.array .int), (.array .int), (.array .int), .int]
def fTL_4 : List (String × String × String × Bool) := [("GriefWood$Told", "finds", "[I", true), ("GriefWood$Told", "parts", "LGriefWood$Row;", true), ("GriefWood$Told", "heights", "LGriefWood$Row;", true), ("GriefWood$Told", "thirds", "LGriefWood$Row;", true), ("GriefWood$Told", "spades", "LGriefWood$Row;", true), ("GriefWood$Told", "wishes", "LGriefWood$Wishes;", true), ("GriefWood$Told", "sums", "I", false), ("GriefWood$Told", "drams", "I", false)]
def fyL_4 : List FieldType := [(.array .int), (.object "GriefWood$Row"), (.object "GriefWood$Row"), (.object "GriefWood$Row"), (.object "GriefWood$Row"), (.object "GriefWood$Wishes"), .int, .int]
def fTL_5 : List (String × String × String × Bool) := [("GriefWood$Row", "v", "[I", true), ("GriefWood$Row", "least", "I", true), ("GriefWood$Row", "most", "I", true), ("GriefWood$Row", "count", "I", false)]
def fyL_5 : List FieldType := [(.array .int), .int, .int, .int]
def fTL_6 : List (String × String × String × Bool) := [("GriefWood$Scene", "inThought", "Z", true), ("GriefWood$Scene", "oak", "[I", true), ("GriefWood$Scene", "truffle", "[I", true), ("GriefWood$Scene", "dug", "[I", true), ("GriefWood$Scene", "loss", "[I", true), ("GriefWood$Scene", "at", "[I", true), ("GriefWood$Scene", "solace", "[I", true), ("GriefWood$Scene", "found", "[I", true), ("GriefWood$Scene", "stops", "[I", true), ("GriefWood$Scene", "seekers", "I", false), ("GriefWood$Scene", "basket", "I", false), ("GriefWood$Scene", "coins", "I", false), ("GriefWood$Scene", "morning", "I", false), ("GriefWood$Scene", "draws", "I", false), ("GriefWood$Scene", "bookLines", "I", false)]
def fyL_6 : List FieldType := [.boolean, (.array .int), (.array .int), (.array .int), (.array .int), (.array .int), (.array .int), (.array .int), (.array .int), .int, .int, .int, .int, .int, .int]
def fTL_7 : List (String × String × String × Bool) := [("GriefWood$Wishes", "rank", "[[I", true)]
def fyL_7 : List FieldType := [(.array (.array .int))]
def fTL_8 : List (String × String × String × Bool) := [("GriefWood$LawReader", "tokens", "LGriefWood$Tokens;", true), ("GriefWood$LawReader", "law", "LGriefWood$Law;", true), ("GriefWood$LawReader", "waiting", "[I", true), ("GriefWood$LawReader", "waits", "I", false), ("GriefWood$LawReader", "open", "I", false), ("GriefWood$LawReader", "brackets", "I", false)]
def fyL_8 : List FieldType := [(.object "GriefWood$Tokens"), (.object "GriefWood$Law"), (.array .int), .int, .int, .int]
def fTL_9 : List (String × String × String × Bool) := [("GriefWood$Tokens", "token", "[I", true), ("GriefWood$Tokens", "place", "[I", true), ("GriefWood$Tokens", "count", "I", false), ("GriefWood$Tokens", "at", "I", false), ("GriefWood$Tokens", "fault", "I", false), ("GriefWood$Tokens", "faultPlace", "I", false)]
def fyL_9 : List FieldType := [(.array .int), (.array .int), .int, .int, .int, .int]
def fTL_10 : List (String × String × String × Bool) := [("GriefWoodModel", "told", "I", false), ("GriefWoodModel", "now", "[I", true), ("GriefWoodModel", "rows", "[I", true), ("GriefWoodModel", "undoable", "I", false), ("GriefWoodModel", "waiting", "[I", true), ("GriefWoodModel", "isThought", "Z", false), ("GriefWoodModel", "seekers", "I", false), ("GriefWoodModel", "loss", "[I", true), ("GriefWoodModel", "book", "[I", true), ("GriefWoodModel", "tape", "[I", true), ("GriefWoodModel", "taped", "I", false), ("GriefWoodModel", "spot", "I", false), ("GriefWoodModel", "from", "I", false), ("GriefWoodModel", "token", "I", false), ("GriefWoodModel", "value", "I", false), ("GriefWoodModel", "words", "[I", true), ("GriefWoodModel", "lineMany", "[I", true), ("GriefWoodModel", "lineWord", "[I", true), ("GriefWoodModel", "lineFrom", "[I", true), ("GriefWoodModel", "lineWhen", "[I", true), ("GriefWoodModel", "lineTo", "[I", true), ("GriefWoodModel", "op", "[I", true), ("GriefWoodModel", "arg", "[I", true), ("GriefWoodModel", "which", "I", false), ("GriefWoodModel", "codes", "I", false), ("GriefWoodModel", "open", "I", false), ("GriefWoodModel", "pending", "[I", true), ("GriefWoodModel", "pendings", "I", false), ("GriefWoodModel", "readFault", "I", false), ("GriefWoodModel", "readPlace", "I", false), ("GriefWoodModel", "faultKind", "I", false), ("GriefWoodModel", "faultPlace", "I", false), ("GriefWoodModel", "deedMany", "I", false), ("GriefWoodModel", "deeds", "[I", true), ("GriefWoodModel", "woodMany", "I", false), ("GriefWoodModel", "woodCell", "[I", true), ("GriefWoodModel", "woodWhat", "[I", true), ("GriefWoodModel", "tableMany", "I", false), ("GriefWoodModel", "tables", "[I", true), ("GriefWoodModel", "asked", "[I", true), ("GriefWoodModel", "stack", "[I", true), ("GriefWoodModel", "weightBy", "[I", true), ("GriefWoodModel", "waysBy", "[I", true), ("GriefWoodModel", "standOf", "[I", true), ("GriefWoodModel", "standMany", "[I", true), ("GriefWoodModel", "findsBy", "[I", true), ("GriefWoodModel", "partMany", "I", false), ("GriefWoodModel", "partWeights", "[I", true), ("GriefWoodModel", "cutWays", "[I", true), ("GriefWoodModel", "wishBut", "[I", true), ("GriefWoodModel", "boyOf", "[I", true), ("GriefWoodModel", "seekerOf", "[I", true), ("GriefWoodModel", "askedMany", "[I", true), ("GriefWoodModel", "eggsBy", "[I", true), ("GriefWoodModel", "heightMany", "I", false), ("GriefWoodModel", "heights", "[I", true), ("GriefWoodModel", "thirdMany", "I", false), ("GriefWoodModel", "thirds", "[I", true), ("GriefWoodModel", "whoseNow", "[I", true), ("GriefWoodModel", "sumMany", "I", false), ("GriefWoodModel", "sums", "[I", true), ("GriefWoodModel", "spadeMany", "I", false), ("GriefWoodModel", "spadesTold", "[I", true), ("GriefWoodModel", "doesWin", "[I", true), ("GriefWoodModel", "rowNow", "[I", true), ("GriefWoodModel", "isTaking", "Z", false), ("GriefWoodModel", "hasImage", "Z", false), ("GriefWoodModel", "keptAt", "I", false), ("GriefWoodModel", "images", "[I", true)]
def fyL_10 : List FieldType := [.int, (.array .int), (.array .int), .int, (.array .int), .boolean, .int, (.array .int), (.array .int), (.array .int), .int, .int, .int, .int, .int, (.array .int), (.array .int), (.array .int), (.array .int), (.array .int), (.array .int), (.array .int), (.array .int), .int, .int, .int, (.array .int), .int, .int, .int, .int, .int, .int, (.array .int), .int, (.array .int), (.array .int), .int, (.array .int), (.array .int), (.array .int), (.array .int), (.array .int), (.array .int), (.array .int), (.array .int), .int, (.array .int), (.array .int), (.array .int), (.array .int), (.array .int), (.array .int), (.array .int), .int, (.array .int), .int, (.array .int), (.array .int), .int, (.array .int), .int, (.array .int), (.array .int), (.array .int), .boolean, .boolean, .int, (.array .int)]
def fTL_50 : List (String × String × String × Bool) := [("java/lang/String", "value", "[B", true), ("java/lang/String", "coder", "B", true)]
def fyL_50 : List FieldType := [(.array .byte), .byte]
def fTL : List (List (String × String × String × Bool)) := [fTL_0, fTL_1, fTL_2, fTL_3, fTL_4, fTL_5, fTL_6, fTL_7, fTL_8, fTL_9, fTL_10]
def fyLL : List (List FieldType) := [fyL_0, fyL_1, fyL_2, fyL_3, fyL_4, fyL_5, fyL_6, fyL_7, fyL_8, fyL_9, fyL_10]
def fT (t : Nat) : u_T := fun k => (if t = 50 then fTL_50 else fTL.getD t []).getD k ("", "", "", false)
def fy (t k : Nat) : FieldType := (if t = 50 then fyL_50 else fyLL.getD t []).getD k .int
def cN (t : Nat) : Nat := ([13, 7, 9, 7, 8, 4, 15, 1, 6, 6, 69] : List Nat).getD t 0
def clsL : List vw_C := [(on 0, fT 0, 13), (on 1, fT 1, 7), (on 2, fT 2, 9), (on 3, fT 3, 7), (on 4, fT 4, 8), (on 5, fT 5, 4), (on 6, fT 6, 15), (on 7, fT 7, 1), (on 8, fT 8, 6), (on 9, fT 9, 6), (on 10, fT 10, 69)]
def isRefT : FieldType → Bool
  | .object _ => true
  | .array _ => true
  | _ => false
def ynL : List MethodName := [⟨"GriefWoodLaw", "law", "([I)Z"⟩,
  ⟨"GriefWood", "<init>", "()V"⟩,
  ⟨"GriefWood$Whole", "<init>", "()V"⟩,
  ⟨"GriefWood$Scene", "<init>", "(Z)V"⟩,
  ⟨"GriefWood$Law", "<init>", "()V"⟩,
  ⟨"GriefWood$Lines", "<init>", "()V"⟩,
  ⟨"GriefWood$Told", "<init>", "()V"⟩,
  ⟨"GriefWood$Row", "<init>", "(III)V"⟩,
  ⟨"GriefWood$Wishes", "<init>", "()V"⟩,
  ⟨"GriefWood$LawReader", "<init>", "()V"⟩,
  ⟨"GriefWood$Tokens", "<init>", "()V"⟩,
  ⟨"GriefWood", "state", "(I)I"⟩,
  ⟨"GriefWood", "forget", "()V"⟩,
  ⟨"GriefWood", "seeker", "(III)I"⟩,
  ⟨"GriefWood", "within", "(III)Z"⟩,
  ⟨"GriefWood", "isCell", "(II)Z"⟩,
  ⟨"GriefWood", "set", "(III)Z"⟩,
  ⟨"GriefWood", "isSeeker", "(I)Z"⟩,
  ⟨"GriefWood", "act", "(II)Z"⟩,
  ⟨"GriefWood", "keep", "()V"⟩,
  ⟨"GriefWood$Scene", "copyFrom", "(LGriefWood$Scene;)V"⟩,
  ⟨"GriefWood$Whole", "step", "(LGriefWood$Scene;I)I"⟩,
  ⟨"GriefWood$Whole", "sideOf", "(LGriefWood$Scene;I)I"⟩,
  ⟨"GriefWood$Scene", "beside", "(II)I"⟩,
  ⟨"GriefWood$Law", "ask", "(ILGriefWood$Scene;II)I"⟩,
  ⟨"GriefWood$Law", "see", "(LGriefWood$Scene;II)V"⟩,
  ⟨"GriefWood$Law", "reckon", "(II)I"⟩,
  ⟨"GriefWood$LawReader", "isOperand", "(I)Z"⟩,
  ⟨"GriefWood$Law", "joined", "(III)I"⟩,
  ⟨"GriefWood$Law", "held", "(II)I"⟩,
  ⟨"GriefWood$Law", "untold", "(I)I"⟩,
  ⟨"GriefWood$Scene", "drawOf", "(I)I"⟩,
  ⟨"GriefWood$Whole", "dig", "(LGriefWood$Scene;I)I"⟩,
  ⟨"GriefWood$Whole", "write", "(LGriefWood$Scene;III)V"⟩,
  ⟨"GriefWood", "mornings", "(I)I"⟩,
  ⟨"GriefWood$Whole", "passMorning", "(LGriefWood$Scene;)I"⟩,
  ⟨"GriefWood$Whole", "follow", "(LGriefWood$Scene;I)I"⟩,
  ⟨"GriefWood", "feed", "(IIIII)I"⟩,
  ⟨"GriefWood", "feedOne", "(I)V"⟩,
  ⟨"GriefWood", "end", "(I)Z"⟩,
  ⟨"GriefWood", "text", "(I)I"⟩,
  ⟨"GriefWood$Tokens", "split", "([CILjava/lang/String;)V"⟩,
  ⟨"GriefWood$Tokens", "behindToken", "([CII)I"⟩,
  ⟨"GriefWood$Tokens", "kindOf", "(C)I"⟩,
  ⟨"GriefWood$Tokens", "tokenOf", "([CIILjava/lang/String;)I"⟩,
  ⟨"GriefWood$Tokens", "keyword", "(Ljava/lang/String;[CII)I"⟩,
  ⟨"java/lang/String", "length", "()I"⟩,
  ⟨"java/lang/String", "coder", "()B"⟩,
  ⟨"java/lang/String", "charAt", "(I)C"⟩,
  ⟨"java/lang/String", "isLatin1", "()Z"⟩,
  ⟨"java/lang/StringLatin1", "charAt", "([BI)C"⟩,
  ⟨"java/lang/String", "checkIndex", "(II)V"⟩,
  ⟨"jdk/internal/util/Preconditions", "checkIndex", "(IILjava/util/function/BiFunction;)I"⟩,
  ⟨"GriefWood$Tokens", "isThere", "(Ljava/lang/String;II[CII)Z"⟩,
  ⟨"java/lang/String", "indexOf", "(I)I"⟩,
  ⟨"java/lang/String", "indexOf", "(II)I"⟩,
  ⟨"java/lang/StringLatin1", "indexOf", "([BIII)I"⟩,
  ⟨"java/lang/StringLatin1", "canEncode", "(I)Z"⟩,
  ⟨"java/lang/StringLatin1", "indexOfChar", "([BIII)I"⟩,
  ⟨"GriefWood$Tokens", "put", "(II)V"⟩,
  ⟨"GriefWood$LawReader", "readAll", "()V"⟩,
  ⟨"GriefWood$Tokens", "goOn", "()Z"⟩,
  ⟨"GriefWood$Tokens", "next", "()I"⟩,
  ⟨"GriefWood$Tokens", "refuse", "(I)V"⟩,
  ⟨"GriefWood$LawReader", "readLine", "(II)V"⟩,
  ⟨"GriefWood$Tokens", "take", "(I)Z"⟩,
  ⟨"GriefWood$LawReader", "expression", "()V"⟩,
  ⟨"GriefWood$LawReader", "operand", "()V"⟩,
  ⟨"GriefWood$Law", "put", "(I)V"⟩,
  ⟨"GriefWood$Tokens", "number", "(II)I"⟩,
  ⟨"GriefWood$LawReader", "condition", "()V"⟩,
  ⟨"GriefWood$LawReader", "openAll", "()V"⟩,
  ⟨"GriefWood$LawReader", "hold", "(I)V"⟩,
  ⟨"GriefWood$LawReader", "comparing", "()I"⟩,
  ⟨"GriefWood$Tokens", "need", "(I)V"⟩,
  ⟨"GriefWood$LawReader", "closeAll", "()V"⟩,
  ⟨"GriefWood$LawReader", "settleNots", "()V"⟩,
  ⟨"GriefWood$LawReader", "settle", "(II)V"⟩,
  ⟨"GriefWood$LawReader", "joins", "()Z"⟩,
  ⟨"GriefWood$Lines", "readAll", "(LGriefWood$Tokens;II)V"⟩,
  ⟨"GriefWood$Lines", "readLine", "(LGriefWood$Tokens;III)V"⟩,
  ⟨"GriefWood$Lines", "readMorning", "(LGriefWood$Tokens;II)V"⟩,
  ⟨"GriefWood$Lines", "readCell", "(LGriefWood$Tokens;I)V"⟩,
  ⟨"GriefWood$Lines", "readTable", "(LGriefWood$Tokens;I)V"⟩,
  ⟨"GriefWood", "accept", "(I)I"⟩,
  ⟨"GriefWood$Law", "copyFrom", "(LGriefWood$Law;)V"⟩,
  ⟨"GriefWood$Lines", "copyFrom", "(LGriefWood$Lines;)V"⟩,
  ⟨"GriefWood$Scene", "grow", "(LGriefWood$Lines;)V"⟩,
  ⟨"GriefWood", "fault", "(I)I"⟩,
  ⟨"GriefWood", "of", "(III)I"⟩,
  ⟨"GriefWood$Scene", "whoIsOn", "(I)I"⟩,
  ⟨"GriefWood", "toldOf", "(II)I"⟩,
  ⟨"GriefWood", "who", "(II)I"⟩,
  ⟨"GriefWood", "book", "(II)I"⟩,
  ⟨"GriefWood", "goes", "(II)I"⟩,
  ⟨"GriefWood$Scene", "ofAll", "([I)I"⟩,
  ⟨"GriefWood$Scene", "countOf", "([I)I"⟩,
  ⟨"GriefWood", "led", "(III)I"⟩,
  ⟨"GriefWood", "through", "(I)I"⟩,
  ⟨"GriefWood$WoodThought", "wayThrough", "([II)I"⟩,
  ⟨"GriefWood", "meeting", "(I)I"⟩,
  ⟨"GriefWood$WoodThought", "meetingPlace", "(LGriefWood$Scene;I)I"⟩,
  ⟨"GriefWood$WoodThought", "stepsTo", "(LGriefWood$Scene;I)I"⟩,
  ⟨"GriefWood", "stands", "(I)I"⟩,
  ⟨"GriefWood$WoodThought", "oaksTogether", "([II)I"⟩,
  ⟨"java/lang/Long", "bitCount", "(J)I"⟩,
  ⟨"GriefWood$WoodThought", "standAround", "(JJ)J"⟩,
  ⟨"GriefWood", "finds", "(II)Z"⟩,
  ⟨"GriefWood", "share", "(II)I"⟩,
  ⟨"GriefWood$Thought", "justShare", "([III)I"⟩,
  ⟨"GriefWood$Thought", "commonPart", "(JJ)J"⟩,
  ⟨"GriefWood", "part", "(I)I"⟩,
  ⟨"GriefWood$Row", "tell", "(I)I"⟩,
  ⟨"GriefWood", "cut", "(II)I"⟩,
  ⟨"GriefWood$Thought", "cutRow", "(LGriefWood$Row;II)I"⟩,
  ⟨"GriefWood$Row", "greatest", "(II)I"⟩,
  ⟨"GriefWood$Row", "total", "()I"⟩,
  ⟨"GriefWood$Thought", "partsWithin", "(LGriefWood$Row;I)I"⟩,
  ⟨"GriefWood$Thought", "waysToCut", "(LGriefWood$Row;II)I"⟩,
  ⟨"GriefWood$Thought", "waysWithLastPart", "(LGriefWood$Row;[III)I"⟩,
  ⟨"GriefWood", "wish", "(III)Z"⟩,
  ⟨"GriefWood$Wishes", "isRow", "(I)Z"⟩,
  ⟨"GriefWood$Wishes", "tell", "(III)V"⟩,
  ⟨"GriefWood$Wishes", "digit", "(II)I"⟩,
  ⟨"GriefWood", "pairs", "(I)I"⟩,
  ⟨"GriefWood$Wishes", "asked", "()I"⟩,
  ⟨"GriefWood$Wishes", "atRank", "(II)I"⟩,
  ⟨"GriefWood$Wishes", "keptBy", "([II)I"⟩,
  ⟨"GriefWood$Wishes", "steadyWays", "()I"⟩,
  ⟨"GriefWood$Wishes", "isSteady", "([I)Z"⟩,
  ⟨"GriefWood", "eggs", "(III)I"⟩,
  ⟨"GriefWood$Thought", "throwEggs", "(III)I"⟩,
  ⟨"GriefWood", "season", "(IIII)I"⟩,
  ⟨"GriefWood$Thought", "isChance", "(I)Z"⟩,
  ⟨"GriefWood$Thought", "goodSeason", "(IIII)I"⟩,
  ⟨"GriefWood", "height", "(I)I"⟩,
  ⟨"GriefWood", "hollow", "(I)I"⟩,
  ⟨"GriefWood$Thought", "allRain", "(LGriefWood$Row;)I"⟩,
  ⟨"GriefWood$Thought", "rainOn", "(LGriefWood$Row;I)I"⟩,
  ⟨"GriefWood$Thought", "pools", "(LGriefWood$Row;)I"⟩,
  ⟨"GriefWood$Thought", "seenFrom", "(LGriefWood$Row;II)I"⟩,
  ⟨"GriefWood$Thought", "couples", "(LGriefWood$Row;)I"⟩,
  ⟨"GriefWood", "third", "(I)I"⟩,
  ⟨"GriefWood", "three", "(I)I"⟩,
  ⟨"GriefWood$Thought", "waysAmongThree", "(LGriefWood$Row;)I"⟩,
  ⟨"GriefWood$Thought", "waysFrom", "(LGriefWood$Row;IIII)I"⟩,
  ⟨"GriefWood", "sum", "(III)I"⟩,
  ⟨"GriefWood$Told", "tellSum", "(III)I"⟩,
  ⟨"GriefWood", "pounds", "(I)I"⟩,
  ⟨"GriefWood", "round", "(III)I"⟩,
  ⟨"GriefWood$WoodThought", "cellInRound", "(III)I"⟩,
  ⟨"GriefWood$WoodThought", "beforeRing", "(III)I"⟩,
  ⟨"GriefWood", "rounds", "(IIII)I"⟩,
  ⟨"GriefWood$WoodThought", "numberInRound", "(IIII)I"⟩,
  ⟨"GriefWood", "halves", "(II)I"⟩,
  ⟨"GriefWood$Thought", "probes", "(II)I"⟩,
  ⟨"GriefWood", "song", "(II)I"⟩,
  ⟨"GriefWood$Thought", "songLines", "(II)I"⟩,
  ⟨"GriefWood", "spade", "(I)I"⟩,
  ⟨"GriefWood", "spades", "(I)I"⟩,
  ⟨"GriefWood$Row", "laidOnOneAnother", "()I"⟩,
  ⟨"GriefWood$Row", "has", "(I)Z"⟩,
  ⟨"GriefWood", "game", "(I)I"⟩,
  ⟨"GriefWood$WoodThought", "isGame", "(I)Z"⟩,
  ⟨"GriefWood$WoodThought", "winningStart", "(I)I"⟩,
  ⟨"GriefWood$WoodThought", "numberOf", "(I)I"⟩,
  ⟨"java/lang/Integer", "bitCount", "(I)I"⟩,
  ⟨"GriefWood$WoodThought", "tellLengths", "(I[I)V"⟩,
  ⟨"GriefWood$WoodThought", "winningBite", "([I[J)I"⟩,
  ⟨"GriefWood$WoodThought", "bitten", "([III)I"⟩,
  ⟨"GriefWood", "undo", "()Z"⟩,
  ⟨"GriefWood", "image", "(Z)Z"⟩,
  ⟨"GriefWood$Whole", "copyFrom", "(LGriefWood$Whole;)V"⟩,
  ⟨"GriefWood$Told", "copyFrom", "(LGriefWood$Told;)V"⟩,
  ⟨"GriefWood$Row", "copyFrom", "(LGriefWood$Row;)V"⟩,
  ⟨"GriefWood$Wishes", "copyFrom", "(LGriefWood$Wishes;)V"⟩,
  ⟨"GriefWood", "look", "(I)I"⟩,
  ⟨"GriefWoodModel", "<init>", "()V"⟩,
  ⟨"GriefWoodModel", "undo", "()Z"⟩,
  ⟨"GriefWoodModel", "state", "(I)I"⟩,
  ⟨"GriefWoodModel", "seeker", "(III)I"⟩,
  ⟨"GriefWoodModel", "isIn", "(III)Z"⟩,
  ⟨"GriefWoodModel", "isCell", "(II)Z"⟩,
  ⟨"GriefWoodModel", "set", "(III)Z"⟩,
  ⟨"GriefWoodModel", "isSeeker", "(I)Z"⟩,
  ⟨"GriefWoodModel", "feed", "(IIIII)I"⟩,
  ⟨"GriefWoodModel", "types", "(I)V"⟩,
  ⟨"GriefWoodModel", "end", "(I)Z"⟩,
  ⟨"GriefWoodModel", "text", "(I)I"⟩,
  ⟨"GriefWoodModel", "readsText", "(I)I"⟩,
  ⟨"GriefWoodModel", "reads", "()V"⟩,
  ⟨"GriefWoodModel", "raw", "(I)I"⟩,
  ⟨"GriefWoodModel", "isLetter", "(I)Z"⟩,
  ⟨"GriefWoodModel", "wordAt", "(II)I"⟩,
  ⟨"GriefWoodModel", "isDigit", "(I)Z"⟩,
  ⟨"GriefWoodModel", "isMarkSign", "(I)Z"⟩,
  ⟨"GriefWoodModel", "readMornings", "()I"⟩,
  ⟨"GriefWoodModel", "isWord", "(I)Z"⟩,
  ⟨"GriefWoodModel", "errs", "(I)I"⟩,
  ⟨"GriefWoodModel", "readDeed", "(I)I"⟩,
  ⟨"GriefWoodModel", "readTold", "(III)I"⟩,
  ⟨"GriefWoodModel", "readNumber", "(II)I"⟩,
  ⟨"GriefWoodModel", "readCell", "()I"⟩,
  ⟨"GriefWoodModel", "readMark", "(I)I"⟩,
  ⟨"GriefWoodModel", "isSign", "(I)Z"⟩,
  ⟨"GriefWoodModel", "readWood", "()I"⟩,
  ⟨"GriefWoodModel", "readWoodLine", "(I)I"⟩,
  ⟨"GriefWoodModel", "readTables", "()I"⟩,
  ⟨"GriefWoodModel", "readTable", "(I)I"⟩,
  ⟨"GriefWoodModel", "readLaw", "()I"⟩,
  ⟨"GriefWoodModel", "isLineWord", "()Z"⟩,
  ⟨"GriefWoodModel", "readSum", "()I"⟩,
  ⟨"GriefWoodModel", "readProduct", "()I"⟩,
  ⟨"GriefWoodModel", "readUnit", "()I"⟩,
  ⟨"GriefWoodModel", "canAsk", "(I)Z"⟩,
  ⟨"GriefWoodModel", "emits", "(II)V"⟩,
  ⟨"GriefWoodModel", "readAny", "()I"⟩,
  ⟨"GriefWoodModel", "waits", "(I)V"⟩,
  ⟨"GriefWoodModel", "readCompared", "()I"⟩,
  ⟨"GriefWoodModel", "settles", "(I)V"⟩,
  ⟨"GriefWoodModel", "takesLaw", "(I)V"⟩,
  ⟨"GriefWoodModel", "takesOther", "(II)V"⟩,
  ⟨"GriefWoodModel", "takesWood", "(I)V"⟩,
  ⟨"GriefWoodModel", "fault", "(I)I"⟩,
  ⟨"GriefWoodModel", "act", "(II)Z"⟩,
  ⟨"GriefWoodModel", "canAct", "(II)Z"⟩,
  ⟨"GriefWoodModel", "keepsAhead", "()V"⟩,
  ⟨"GriefWoodModel", "isLed", "(I)I"⟩,
  ⟨"GriefWoodModel", "wayOf", "(I)I"⟩,
  ⟨"GriefWoodModel", "xTo", "(I)I"⟩,
  ⟨"GriefWoodModel", "yTo", "(I)I"⟩,
  ⟨"GriefWoodModel", "drawsTo", "(II)I"⟩,
  ⟨"GriefWoodModel", "asks", "(II)V"⟩,
  ⟨"GriefWoodModel", "held", "(III)I"⟩,
  ⟨"GriefWoodModel", "lawTells", "(IIII)I"⟩,
  ⟨"GriefWoodModel", "lineOf", "(I)I"⟩,
  ⟨"GriefWoodModel", "runs", "(III)I"⟩,
  ⟨"GriefWoodModel", "twoOf", "(III)I"⟩,
  ⟨"GriefWoodModel", "cellOf", "(I)I"⟩,
  ⟨"GriefWoodModel", "stopsOn", "(II)I"⟩,
  ⟨"GriefWoodModel", "happens", "(I)Z"⟩,
  ⟨"GriefWoodModel", "draw", "(I)I"⟩,
  ⟨"GriefWoodModel", "digs", "(I)I"⟩,
  ⟨"GriefWoodModel", "notes", "(III)V"⟩,
  ⟨"GriefWoodModel", "paysFor", "(II)I"⟩,
  ⟨"GriefWoodModel", "mornings", "(I)I"⟩,
  ⟨"GriefWoodModel", "goesBy", "()I"⟩,
  ⟨"GriefWoodModel", "does", "(I)I"⟩,
  ⟨"GriefWoodModel", "lesser", "(II)I"⟩,
  ⟨"GriefWoodModel", "greater", "(II)I"⟩,
  ⟨"GriefWoodModel", "of", "(III)I"⟩,
  ⟨"GriefWoodModel", "whoIsOn", "(I)I"⟩,
  ⟨"GriefWoodModel", "who", "(II)I"⟩,
  ⟨"GriefWoodModel", "book", "(II)I"⟩,
  ⟨"GriefWoodModel", "goes", "(II)I"⟩,
  ⟨"GriefWoodModel", "thinks", "()V"⟩,
  ⟨"GriefWoodModel", "sumOf", "(II)I"⟩,
  ⟨"GriefWoodModel", "trufflesThere", "()I"⟩,
  ⟨"GriefWoodModel", "endsThought", "()V"⟩,
  ⟨"GriefWoodModel", "led", "(III)I"⟩,
  ⟨"GriefWoodModel", "through", "(I)I"⟩,
  ⟨"GriefWoodModel", "meeting", "(I)I"⟩,
  ⟨"GriefWoodModel", "stepsTo", "(I)I"⟩,
  ⟨"GriefWoodModel", "plain", "(I)I"⟩,
  ⟨"GriefWoodModel", "stands", "(I)I"⟩,
  ⟨"GriefWoodModel", "openSides", "()I"⟩,
  ⟨"GriefWoodModel", "isOak", "(II)Z"⟩,
  ⟨"GriefWoodModel", "findsStands", "()V"⟩,
  ⟨"GriefWoodModel", "finds", "(II)Z"⟩,
  ⟨"GriefWoodModel", "share", "(II)I"⟩,
  ⟨"GriefWoodModel", "has", "(II)Z"⟩,
  ⟨"GriefWoodModel", "common", "(II)I"⟩,
  ⟨"GriefWoodModel", "part", "(I)I"⟩,
  ⟨"GriefWoodModel", "cut", "(II)I"⟩,
  ⟨"GriefWoodModel", "waysToCut", "(II)I"⟩,
  ⟨"GriefWoodModel", "wish", "(III)Z"⟩,
  ⟨"GriefWoodModel", "pairs", "(I)I"⟩,
  ⟨"GriefWoodModel", "waysToPair", "()I"⟩,
  ⟨"GriefWoodModel", "doesHold", "()Z"⟩,
  ⟨"GriefWoodModel", "rankOf", "(II)I"⟩,
  ⟨"GriefWoodModel", "wished", "(II)I"⟩,
  ⟨"GriefWoodModel", "findsPairs", "()V"⟩,
  ⟨"GriefWoodModel", "eggs", "(III)I"⟩,
  ⟨"GriefWoodModel", "findsEggs", "(I)V"⟩,
  ⟨"GriefWoodModel", "eggsAt", "(III)I"⟩,
  ⟨"GriefWoodModel", "season", "(IIII)I"⟩,
  ⟨"GriefWoodModel", "height", "(I)I"⟩,
  ⟨"GriefWoodModel", "hollow", "(I)I"⟩,
  ⟨"GriefWoodModel", "couplesSeen", "()I"⟩,
  ⟨"GriefWoodModel", "highest", "(II)I"⟩,
  ⟨"GriefWoodModel", "rainOn", "(I)I"⟩,
  ⟨"GriefWoodModel", "third", "(I)I"⟩,
  ⟨"GriefWoodModel", "three", "(I)I"⟩,
  ⟨"GriefWoodModel", "waysAmongThree", "()I"⟩,
  ⟨"GriefWoodModel", "sum", "(III)I"⟩,
  ⟨"GriefWoodModel", "pounds", "(I)I"⟩,
  ⟨"GriefWoodModel", "rounds", "(IIII)I"⟩,
  ⟨"GriefWoodModel", "placeInRound", "(IIII)I"⟩,
  ⟨"GriefWoodModel", "round", "(III)I"⟩,
  ⟨"GriefWoodModel", "halves", "(II)I"⟩,
  ⟨"GriefWoodModel", "probesFor", "(II)I"⟩,
  ⟨"GriefWoodModel", "song", "(II)I"⟩,
  ⟨"GriefWoodModel", "spade", "(I)I"⟩,
  ⟨"GriefWoodModel", "spades", "(I)I"⟩,
  ⟨"GriefWoodModel", "game", "(I)I"⟩,
  ⟨"GriefWoodModel", "takesRows", "(I)V"⟩,
  ⟨"GriefWoodModel", "areRows", "()Z"⟩,
  ⟨"GriefWoodModel", "goodTaking", "()I"⟩,
  ⟨"GriefWoodModel", "behind", "(II)I"⟩,
  ⟨"GriefWoodModel", "image", "(Z)Z"⟩,
  ⟨"GriefWoodModel", "keeps", "(I)I"⟩,
  ⟨"GriefWoodModel", "keepsTold", "()V"⟩,
  ⟨"GriefWoodModel", "keepsLaw", "()V"⟩,
  ⟨"GriefWoodModel", "look", "(I)I"⟩]
def yn (j : Nat) : MethodName := ynL.getD j ⟨"", "", ""⟩
def bcL : List ByteArray := [code, prog_1_method_1_code, prog_10_method_1_code, prog_6_method_1_code, prog_2_method_1_code, prog_4_method_1_code, prog_9_method_1_code, prog_5_method_1_code, prog_11_method_1_code, prog_3_method_1_code, prog_8_method_1_code, prog_1_method_2_code, prog_1_method_47_code, prog_1_method_3_code, prog_1_method_43_code, prog_1_method_44_code, prog_1_method_4_code, prog_1_method_45_code, prog_1_method_5_code, prog_1_method_46_code, prog_6_method_2_code, prog_10_method_6_code, prog_10_method_8_code, prog_6_method_3_code, prog_2_method_4_code, prog_2_method_5_code, prog_2_method_8_code, prog_3_method_2_code, prog_2_method_9_code, prog_2_method_7_code, prog_2_method_6_code, prog_6_method_7_code, prog_10_method_7_code, prog_10_method_3_code, prog_1_method_6_code, prog_10_method_4_code, prog_10_method_5_code, prog_1_method_7_code, prog_1_method_48_code, prog_1_method_8_code, prog_1_method_9_code, prog_8_method_2_code, prog_8_method_4_code, prog_8_method_5_code, prog_8_method_6_code, prog_8_method_7_code, prog_19_method_54_code, prog_19_method_152_code, prog_19_method_56_code, prog_19_method_154_code, prog_20_method_2_code, prog_19_method_155_code, prog_23_method_11_code, prog_8_method_8_code, prog_19_method_79_code, prog_19_method_80_code, prog_20_method_22_code, prog_20_method_4_code, prog_20_method_23_code, prog_8_method_3_code, prog_3_method_3_code, prog_8_method_10_code, prog_8_method_9_code, prog_8_method_11_code, prog_3_method_4_code, prog_8_method_12_code, prog_3_method_5_code, prog_3_method_6_code, prog_2_method_3_code, prog_8_method_14_code, prog_3_method_7_code, prog_3_method_8_code, prog_3_method_12_code, prog_3_method_9_code, prog_8_method_13_code, prog_3_method_10_code, prog_3_method_14_code, prog_3_method_13_code, prog_3_method_11_code, prog_4_method_3_code, prog_4_method_4_code, prog_4_method_5_code, prog_4_method_6_code, prog_4_method_7_code, prog_1_method_49_code, prog_2_method_2_code, prog_4_method_2_code, prog_6_method_8_code, prog_1_method_10_code, prog_1_method_11_code, prog_6_method_6_code, prog_1_method_50_code, prog_1_method_12_code, prog_1_method_13_code, prog_1_method_14_code, prog_6_method_5_code, prog_6_method_4_code, prog_1_method_15_code, prog_1_method_16_code, prog_12_method_2_code, prog_1_method_17_code, prog_12_method_3_code, prog_12_method_4_code, prog_1_method_18_code, prog_12_method_5_code, prog_17_method_50_code, prog_12_method_6_code, prog_1_method_19_code, prog_1_method_20_code, prog_7_method_3_code, prog_7_method_2_code, prog_1_method_21_code, prog_5_method_2_code, prog_1_method_22_code, prog_7_method_4_code, prog_5_method_4_code, prog_5_method_5_code, prog_7_method_5_code, prog_7_method_6_code, prog_7_method_7_code, prog_1_method_23_code, prog_11_method_2_code, prog_11_method_4_code, prog_11_method_3_code, prog_1_method_24_code, prog_11_method_6_code, prog_11_method_7_code, prog_11_method_8_code, prog_11_method_9_code, prog_11_method_10_code, prog_1_method_25_code, prog_7_method_8_code, prog_1_method_26_code, prog_7_method_9_code, prog_7_method_10_code, prog_1_method_27_code, prog_1_method_28_code, prog_7_method_12_code, prog_7_method_11_code, prog_7_method_13_code, prog_7_method_14_code, prog_7_method_15_code, prog_1_method_29_code, prog_1_method_30_code, prog_7_method_16_code, prog_7_method_17_code, prog_1_method_31_code, prog_9_method_3_code, prog_1_method_32_code, prog_1_method_33_code, prog_12_method_8_code, prog_12_method_7_code, prog_1_method_34_code, prog_12_method_9_code, prog_1_method_35_code, prog_7_method_18_code, prog_1_method_36_code, prog_7_method_19_code, prog_1_method_37_code, prog_1_method_38_code, prog_5_method_6_code, prog_5_method_7_code, prog_1_method_39_code, prog_12_method_10_code, prog_12_method_11_code, prog_12_method_12_code, prog_16_method_49_code, prog_12_method_13_code, prog_12_method_14_code, prog_12_method_15_code, prog_1_method_40_code, prog_1_method_41_code, prog_10_method_2_code, prog_9_method_2_code, prog_5_method_3_code, prog_11_method_5_code, prog_1_method_42_code, prog_14_method_1_code, prog_14_method_11_code, prog_14_method_14_code, prog_14_method_19_code, prog_14_method_3_code, prog_14_method_17_code, prog_14_method_20_code, prog_14_method_16_code, prog_14_method_22_code, prog_14_method_21_code, prog_14_method_23_code, prog_14_method_58_code, prog_14_method_55_code, prog_14_method_29_code, prog_14_method_24_code, prog_14_method_25_code, prog_14_method_28_code, prog_14_method_26_code, prog_14_method_27_code, prog_14_method_50_code, prog_14_method_31_code, prog_14_method_30_code, prog_14_method_49_code, prog_14_method_47_code, prog_14_method_45_code, prog_14_method_48_code, prog_14_method_46_code, prog_14_method_32_code, prog_14_method_52_code, prog_14_method_51_code, prog_14_method_54_code, prog_14_method_53_code, prog_14_method_43_code, prog_14_method_42_code, prog_14_method_37_code, prog_14_method_36_code, prog_14_method_35_code, prog_14_method_34_code, prog_14_method_33_code, prog_14_method_41_code, prog_14_method_39_code, prog_14_method_38_code, prog_14_method_40_code, prog_14_method_44_code, prog_14_method_57_code, prog_14_method_56_code, prog_14_method_59_code, prog_14_method_76_code, prog_14_method_75_code, prog_14_method_10_code, prog_14_method_74_code, prog_14_method_71_code, prog_14_method_69_code, prog_14_method_70_code, prog_14_method_65_code, prog_14_method_63_code, prog_14_method_4_code, prog_14_method_64_code, prog_14_method_62_code, prog_14_method_61_code, prog_14_method_60_code, prog_14_method_18_code, prog_14_method_66_code, prog_14_method_73_code, prog_14_method_15_code, prog_14_method_72_code, prog_14_method_68_code, prog_14_method_67_code, prog_14_method_79_code, prog_14_method_78_code, prog_14_method_77_code, prog_14_method_6_code, prog_14_method_5_code, prog_14_method_81_code, prog_14_method_80_code, prog_14_method_82_code, prog_14_method_83_code, prog_14_method_86_code, prog_14_method_12_code, prog_14_method_84_code, prog_14_method_85_code, prog_14_method_13_code, prog_14_method_87_code, prog_14_method_88_code, prog_14_method_90_code, prog_14_method_89_code, prog_14_method_7_code, prog_14_method_94_code, prog_14_method_93_code, prog_14_method_91_code, prog_14_method_92_code, prog_14_method_95_code, prog_14_method_96_code, prog_14_method_9_code, prog_14_method_8_code, prog_14_method_97_code, prog_14_method_99_code, prog_14_method_98_code, prog_14_method_102_code, prog_14_method_106_code, prog_14_method_105_code, prog_14_method_104_code, prog_14_method_101_code, prog_14_method_100_code, prog_14_method_103_code, prog_14_method_109_code, prog_14_method_108_code, prog_14_method_107_code, prog_14_method_110_code, prog_14_method_111_code, prog_14_method_115_code, prog_14_method_114_code, prog_14_method_112_code, prog_14_method_113_code, prog_14_method_116_code, prog_14_method_118_code, prog_14_method_117_code, prog_14_method_119_code, prog_14_method_120_code, prog_14_method_122_code, prog_14_method_121_code, prog_14_method_123_code, prog_14_method_125_code, prog_14_method_124_code, prog_14_method_126_code, prog_14_method_127_code, prog_14_method_128_code, prog_14_method_133_code, prog_14_method_129_code, prog_14_method_130_code, prog_14_method_132_code, prog_14_method_131_code, prog_14_method_137_code, prog_14_method_134_code, prog_14_method_136_code, prog_14_method_135_code, prog_14_method_138_code]
def bc (j : Nat) : ByteArray := bcL.getD j ByteArray.empty
def mlL : List Nat := [4, 2, 1, 2, 1, 1, 1, 4, 3, 1, 1, 3, 1, 6, 3, 2, 5, 2, 4, 1, 2, 6, 8, 4, 6, 4, 6, 1, 3, 2, 2, 2, 5, 6, 4, 4, 7, 6, 3, 2, 4, 6, 5, 1, 7, 7, 1, 1, 2, 1, 2, 2, 3, 7, 2, 3, 4, 1, 6, 3, 3, 1, 1, 2, 3, 2, 4, 2, 2, 4, 4, 3, 2, 2, 2, 2, 1, 3, 1, 6, 5, 4, 3, 3, 2, 2, 2, 4, 2, 6, 4, 5, 4, 3, 4, 4, 6, 5, 2, 10, 2, 6, 4, 2, 11, 2, 9, 3, 3, 8, 11, 2, 2, 3, 7, 5, 3, 5, 7, 7, 4, 4, 5, 4, 2, 8, 4, 3, 6, 5, 4, 7, 5, 1, 15, 2, 3, 3, 2, 5, 7, 4, 2, 3, 2, 6, 4, 4, 3, 4, 9, 3, 5, 10, 3, 6, 3, 7, 2, 3, 3, 3, 2, 5, 5, 5, 1, 4, 5, 6, 1, 2, 2, 2, 2, 3, 3, 1, 2, 3, 5, 4, 3, 5, 2, 6, 3, 2, 3, 2, 2, 2, 2, 6, 2, 2, 2, 2, 2, 3, 4, 4, 3, 2, 2, 2, 3, 2, 2, 3, 1, 2, 2, 2, 2, 3, 4, 2, 2, 2, 3, 4, 4, 2, 3, 3, 2, 3, 8, 2, 2, 3, 3, 4, 6, 3, 6, 4, 2, 3, 2, 2, 4, 5, 3, 4, 3, 7, 3, 3, 5, 4, 3, 3, 4, 2, 5, 3, 2, 6, 6, 4, 4, 2, 5, 4, 3, 6, 3, 6, 3, 6, 2, 4, 8, 6, 2, 5, 3, 4, 5, 4, 5, 6, 4, 12, 2, 4, 4, 5, 2, 2, 3, 6, 4, 4, 5, 11, 6, 5, 7, 8, 2, 4, 9, 4, 2, 3, 5, 3, 2, 2, 2, 2]
def ml (j : Nat) : Nat := mlL.getD j 0
def rtL : List (Option FieldType) := [(some .boolean), none, none, none, none, none, none, none, none, none, none, (some .int), none, (some .int), (some .boolean), (some .boolean), (some .boolean), (some .boolean), (some .boolean), none, none, (some .int), (some .int), (some .int), (some .int), none, (some .int), (some .boolean), (some .int), (some .int), (some .int), (some .int), (some .int), none, (some .int), (some .int), (some .int), (some .int), none, (some .boolean), (some .int), none, (some .int), (some .int), (some .int), (some .int), (some .int), (some .byte), (some .char), (some .boolean), (some .char), none, (some .int), (some .boolean), (some .int), (some .int), (some .int), (some .boolean), (some .int), none, none, (some .boolean), (some .int), none, none, (some .boolean), none, none, none, (some .int), none, none, none, (some .int), none, none, none, none, (some .boolean), none, none, none, none, none, (some .int), none, none, none, (some .int), (some .int), (some .int), (some .int), (some .int), (some .int), (some .int), (some .int), (some .int), (some .int), (some .int), (some .int), (some .int), (some .int), (some .int), (some .int), (some .int), (some .int), (some .long), (some .boolean), (some .int), (some .int), (some .long), (some .int), (some .int), (some .int), (some .int), (some .int), (some .int), (some .int), (some .int), (some .int), (some .boolean), (some .boolean), none, (some .int), (some .int), (some .int), (some .int), (some .int), (some .int), (some .boolean), (some .int), (some .int), (some .int), (some .boolean), (some .int), (some .int), (some .int), (some .int), (some .int), (some .int), (some .int), (some .int), (some .int), (some .int), (some .int), (some .int), (some .int), (some .int), (some .int), (some .int), (some .int), (some .int), (some .int), (some .int), (some .int), (some .int), (some .int), (some .int), (some .int), (some .int), (some .int), (some .boolean), (some .int), (some .boolean), (some .int), (some .int), (some .int), none, (some .int), (some .int), (some .boolean), (some .boolean), none, none, none, none, (some .int), none, (some .boolean), (some .int), (some .int), (some .boolean), (some .boolean), (some .boolean), (some .boolean), (some .int), none, (some .boolean), (some .int), (some .int), none, (some .int), (some .boolean), (some .int), (some .boolean), (some .boolean), (some .int), (some .boolean), (some .int), (some .int), (some .int), (some .int), (some .int), (some .int), (some .boolean), (some .int), (some .int), (some .int), (some .int), (some .int), (some .boolean), (some .int), (some .int), (some .int), (some .boolean), none, (some .int), none, (some .int), none, none, none, none, (some .int), (some .boolean), (some .boolean), none, (some .int), (some .int), (some .int), (some .int), (some .int), none, (some .int), (some .int), (some .int), (some .int), (some .int), (some .int), (some .int), (some .boolean), (some .int), (some .int), none, (some .int), (some .int), (some .int), (some .int), (some .int), (some .int), (some .int), (some .int), (some .int), (some .int), (some .int), none, (some .int), (some .int), none, (some .int), (some .int), (some .int), (some .int), (some .int), (some .int), (some .int), (some .boolean), none, (some .boolean), (some .int), (some .boolean), (some .int), (some .int), (some .int), (some .int), (some .boolean), (some .int), (some .int), (some .boolean), (some .int), (some .int), none, (some .int), none, (some .int), (some .int), (some .int), (some .int), (some .int), (some .int), (some .int), (some .int), (some .int), (some .int), (some .int), (some .int), (some .int), (some .int), (some .int), (some .int), (some .int), (some .int), (some .int), (some .int), (some .int), none, (some .boolean), (some .int), (some .int), (some .boolean), (some .int), none, none, (some .int)]
def rt (j : Nat) : Option FieldType := rtL.getD j none
def owL : List Nat := [13, 0, 1, 6, 2, 3, 4, 5, 7, 8, 9, 0, 0, 0, 0, 0, 0, 0, 0, 0, 6, 1, 1, 6, 2, 2, 2, 8, 2, 2, 2, 6, 1, 1, 0, 1, 1, 0, 0, 0, 0, 9, 9, 9, 9, 9, 14, 14, 14, 14, 15, 14, 16, 9, 14, 14, 15, 15, 15, 9, 8, 9, 9, 9, 8, 9, 8, 8, 2, 9, 8, 8, 8, 8, 9, 8, 8, 8, 8, 3, 3, 3, 3, 3, 0, 2, 3, 6, 0, 0, 6, 0, 0, 0, 0, 6, 6, 0, 0, 12, 0, 12, 12, 0, 12, 18, 12, 0, 0, 11, 11, 0, 5, 0, 11, 5, 5, 11, 11, 11, 0, 7, 7, 7, 0, 7, 7, 7, 7, 7, 0, 11, 0, 11, 11, 0, 0, 11, 11, 11, 11, 11, 0, 0, 11, 11, 0, 4, 0, 0, 12, 12, 0, 12, 0, 11, 0, 11, 0, 0, 5, 5, 0, 12, 12, 12, 17, 12, 12, 12, 0, 0, 1, 4, 5, 7, 0, 10, 10, 10, 10, 10, 10, 10, 10, 10, 10, 10, 10, 10, 10, 10, 10, 10, 10, 10, 10, 10, 10, 10, 10, 10, 10, 10, 10, 10, 10, 10, 10, 10, 10, 10, 10, 10, 10, 10, 10, 10, 10, 10, 10, 10, 10, 10, 10, 10, 10, 10, 10, 10, 10, 10, 10, 10, 10, 10, 10, 10, 10, 10, 10, 10, 10, 10, 10, 10, 10, 10, 10, 10, 10, 10, 10, 10, 10, 10, 10, 10, 10, 10, 10, 10, 10, 10, 10, 10, 10, 10, 10, 10, 10, 10, 10, 10, 10, 10, 10, 10, 10, 10, 10, 10, 10, 10, 10, 10, 10, 10, 10, 10, 10, 10, 10, 10, 10, 10, 10, 10, 10, 10, 10, 10, 10, 10, 10, 10, 10, 10, 10, 10, 10, 10, 10, 10]
def ow (j : Nat) : Nat := owL.getD j 0
def mS (j : Nat) : Bool := ([true, false, false, false, false, false, false, false, false, false, false, false, false, false, true, true, false, false, false, false, false, false, false, true, false, false, false, true, true, true, false, false, false, false, false, false, false, false, false, false, false, false, true, true, true, true, false, false, false, false, true, true, true, true, false, false, true, true, true, false, false, false, false, false, false, false, false, false, false, false, false, false, false, false, false, false, false, false, false, false, false, false, false, false, false, false, false, false, false, false, false, false, false, false, false, false, true, false, false, true, false, true, true, false, true, true, true, false, false, true, true, false, false, false, true, false, false, true, true, true, false, true, false, true, false, false, false, true, false, false, false, true, false, true, true, false, false, true, true, true, true, true, false, false, true, true, false, false, false, false, true, true, false, true, false, true, false, true, false, false, false, false, false, true, true, true, true, true, true, true, false, false, false, false, false, false, false, false, false, false, false, false, false, false, false, false, false, false, false, false, false, false, false, false, false, false, false, false, false, false, false, false, false, false, false, false, false, false, false, false, false, false, false, false, false, false, false, false, false, false, false, false, false, false, false, false, false, false, false, false, false, false, false, false, false, false, false, false, false, false, false, false, false, false, false, false, false, false, false, false, false, false, false, false, false, false, false, false, false, false, false, false, false, false, false, false, false, false, false, false, false, false, false, false, false, false, false, false, false, false, false, false, false, false, false, false, false, false, false, false, false, false, false, false, false, false, false, false, false, false, false, false, false, false, false, false, false, false, false, false, false, false, false, false] : List Bool).getD j false
def tF : List (Nat × Nat × (Nat × Nat)) := [(0, 12, (0, 0)), (0, 16, (0, 1)), (0, 24, (0, 3)), (0, 28, (0, 4)), (0, 32, (0, 7)), (0, 39, (0, 9)), (0, 46, (0, 10)), (0, 50, (0, 12)), (1, 14, (1, 0)), (1, 23, (1, 1)), (1, 30, (1, 2)), (1, 34, (1, 3)), (1, 40, (1, 4)), (1, 44, (1, 6)), (6, 9, (6, 1)), (6, 15, (6, 2)), (6, 18, (6, 3)), (6, 21, (6, 4)), (6, 24, (6, 5)), (6, 27, (6, 6)), (6, 30, (6, 7)), (6, 33, (6, 8)), (6, 36, (6, 0)), (2, 9, (2, 0)), (2, 15, (2, 1)), (2, 18, (2, 2)), (2, 21, (2, 3)), (2, 24, (2, 4)), (2, 27, (2, 7)), (2, 30, (2, 8)), (3, 11, (3, 0)), (3, 17, (3, 1)), (3, 20, (3, 2)), (3, 23, (3, 3)), (3, 26, (3, 4)), (3, 29, (3, 5)), (4, 9, (4, 0)), (4, 20, (4, 1)), (4, 24, (4, 2)), (4, 27, (4, 3)), (4, 30, (4, 4)), (4, 36, (4, 5)), (5, 15, (5, 0)), (5, 21, (5, 1)), (5, 25, (5, 2)), (7, 13, (7, 0)), (8, 12, (8, 0)), (8, 21, (8, 1)), (8, 25, (8, 2)), (9, 11, (9, 0)), (9, 15, (9, 1)), (0, 54, (1, 0)), (0, 57, (6, 13)), (0, 326, (0, 5)), (0, 71, (6, 9)), (0, 74, (6, 4)), (0, 78, (6, 5)), (0, 81, (6, 6)), (0, 84, (6, 7)), (0, 87, (6, 8)), (0, 94, (6, 10)), (0, 329, (0, 6)), (6, 46, (6, 9)), (6, 50, (6, 10)), (6, 53, (6, 11)), (6, 56, (6, 12)), (6, 59, (6, 13)), (6, 62, (6, 14)), (1, 131, (6, 5)), (1, 71, (6, 0)), (2, 43, (2, 5)), (2, 61, (6, 4)), (2, 66, (6, 6)), (2, 69, (6, 1)), (2, 72, (6, 2)), (2, 75, (6, 3)), (2, 78, (6, 7)), (2, 81, (6, 10)), (2, 92, (6, 12)), (2, 33, (2, 6)), (1, 153, (6, 8)), (1, 156, (6, 3)), (1, 159, (6, 2)), (1, 103, (6, 11)), (1, 162, (6, 7)), (1, 97, (6, 10)), (1, 75, (6, 14)), (1, 78, (6, 12)), (0, 107, (6, 12)), (1, 81, (3, 6)), (1, 84, (3, 0)), (1, 87, (3, 1)), (1, 90, (6, 9)), (1, 100, (3, 3)), (1, 106, (3, 4)), (1, 113, (3, 2)), (1, 119, (6, 6)), (0, 114, (0, 8)), (0, 121, (0, 11)), (0, 124, (8, 0)), (0, 144, (9, 4)), (0, 147, (9, 5)), (9, 18, (9, 2)), (9, 22, (9, 3)), (9, 25, (9, 4)), (9, 28, (9, 5)), (14, 9, (50, 0)), (14, 15, (50, 1)), (8, 29, (2, 5)), (8, 33, (2, 6)), (8, 60, (2, 1)), (8, 63, (2, 2)), (8, 69, (2, 3)), (8, 75, (2, 4)), (8, 94, (8, 3)), (8, 97, (8, 4)), (8, 100, (8, 5)), (3, 38, (3, 6)), (0, 339, (1, 1)), (0, 359, (8, 1)), (0, 343, (2, 5)), (0, 348, (1, 2)), (0, 355, (1, 3)), (0, 351, (3, 6)), (0, 352, (1, 5)), (6, 83, (3, 6)), (6, 88, (3, 4)), (6, 91, (3, 3)), (6, 94, (3, 2)), (6, 97, (3, 5)), (0, 154, (6, 1)), (0, 157, (6, 2)), (0, 160, (6, 3)), (0, 173, (6, 14)), (0, 176, (1, 6)), (0, 187, (6, 11)), (12, 15, (6, 9)), (12, 27, (6, 5)), (0, 205, (1, 4)), (0, 209, (4, 0)), (0, 220, (4, 1)), (5, 28, (5, 3)), (11, 26, (5, 3)), (11, 50, (5, 0)), (0, 238, (4, 5)), (0, 263, (4, 2)), (0, 276, (5, 3)), (0, 282, (4, 3)), (4, 53, (4, 6)), (4, 57, (4, 7)), (0, 296, (4, 7)), (0, 311, (4, 4)), (0, 335, (0, 2)), (1, 61, (1, 5)), (10, 7, (10, 1)), (10, 13, (10, 2)), (10, 16, (10, 4)), (10, 19, (10, 7)), (10, 22, (10, 8)), (10, 25, (10, 9)), (10, 28, (10, 15)), (10, 31, (10, 16)), (10, 34, (10, 17)), (10, 37, (10, 18)), (10, 40, (10, 19)), (10, 43, (10, 20)), (10, 46, (10, 21)), (10, 49, (10, 22)), (10, 52, (10, 26)), (10, 55, (10, 31)), (10, 59, (10, 33)), (10, 62, (10, 35)), (10, 65, (10, 36)), (10, 68, (10, 38)), (10, 71, (10, 39)), (10, 74, (10, 40)), (10, 77, (10, 41)), (10, 80, (10, 42)), (10, 83, (10, 43)), (10, 86, (10, 44)), (10, 89, (10, 45)), (10, 92, (10, 47)), (10, 95, (10, 48)), (10, 98, (10, 49)), (10, 101, (10, 50)), (10, 104, (10, 51)), (10, 107, (10, 52)), (10, 110, (10, 53)), (10, 113, (10, 55)), (10, 116, (10, 57)), (10, 119, (10, 58)), (10, 122, (10, 60)), (10, 125, (10, 62)), (10, 128, (10, 63)), (10, 131, (10, 64)), (10, 134, (10, 68)), (10, 137, (10, 0)), (10, 144, (10, 3)), (10, 153, (10, 6)), (10, 168, (10, 10)), (10, 312, (10, 30)), (10, 175, (10, 11)), (10, 209, (10, 24)), (10, 241, (10, 25)), (10, 203, (10, 28)), (10, 206, (10, 29)), (10, 263, (10, 23)), (10, 181, (10, 12)), (10, 184, (10, 13)), (10, 187, (10, 14)), (10, 238, (10, 27)), (10, 303, (10, 32)), (10, 309, (10, 37)), (10, 300, (10, 34)), (10, 147, (10, 5)), (10, 432, (10, 46)), (10, 459, (10, 54)), (10, 471, (10, 56)), (10, 477, (10, 59)), (10, 486, (10, 61)), (10, 511, (10, 66)), (10, 505, (10, 65)), (10, 502, (10, 67))]
def tS : List (Nat × Nat × (String × String × String × (Int ⊕ Nat))) := [(6, 65, ("GriefWood$Scene", "RIGHTWARDS", "[I", .inr 1)), (6, 68, ("GriefWood$Scene", "DOWNWARDS", "[I", .inr 2)), (14, 38, ("java/lang/String", "COMPACT_STRINGS", "Z", .inl 1)), (14, 1053, ("jdk/internal/util/Preconditions", "SIOOBE_FORMATTER", "Ljava/util/function/BiFunction;", .inr 9))]
def tM : List (Nat × Nat × (Nat × Nat × Nat)) := [(13, 9, (4, 1, 1002)), (13, 12, (4, 177, 11002)), (13, 13, (2, 11, 1005)), (13, 17, (2, 179, 11005)), (13, 18, (2, 13, 1009)), (13, 22, (2, 180, 11009)), (13, 23, (2, 16, 1009)), (13, 27, (2, 183, 11009)), (13, 28, (2, 18, 1007)), (13, 32, (2, 224, 11007)), (13, 33, (2, 34, 1005)), (13, 36, (2, 245, 11005)), (13, 37, (2, 37, 1013)), (13, 42, (2, 39, 1005)), (13, 46, (2, 187, 11005)), (13, 47, (2, 40, 1005)), (13, 50, (2, 188, 11005)), (13, 51, (2, 88, 1005)), (13, 54, (2, 223, 11005)), (13, 55, (2, 89, 1009)), (13, 58, (2, 250, 11009)), (13, 59, (2, 92, 1007)), (13, 63, (2, 252, 11007)), (13, 64, (2, 93, 1007)), (13, 67, (2, 253, 11007)), (13, 68, (2, 94, 1007)), (13, 71, (2, 254, 11007)), (13, 72, (2, 97, 1009)), (13, 75, (2, 259, 11009)), (13, 76, (2, 98, 1005)), (13, 79, (2, 260, 11005)), (13, 80, (2, 100, 1005)), (13, 83, (2, 261, 11005)), (13, 84, (2, 103, 1005)), (13, 87, (2, 264, 11005)), (13, 88, (2, 107, 1007)), (13, 91, (2, 268, 11007)), (13, 92, (2, 108, 1007)), (13, 95, (2, 269, 11007)), (13, 96, (2, 111, 1005)), (13, 99, (2, 272, 11005)), (13, 100, (2, 113, 1007)), (13, 103, (2, 273, 11007)), (13, 104, (2, 120, 1009)), (13, 107, (2, 275, 11009)), (13, 108, (2, 124, 1005)), (13, 111, (2, 276, 11005)), (13, 112, (2, 130, 1009)), (13, 115, (2, 282, 11009)), (13, 116, (2, 132, 1011)), (13, 121, (2, 135, 1005)), (13, 124, (2, 286, 11005)), (13, 125, (2, 136, 1005)), (13, 128, (2, 287, 11005)), (13, 129, (2, 142, 1005)), (13, 132, (2, 291, 11005)), (13, 133, (2, 143, 1005)), (13, 136, (2, 292, 11005)), (13, 137, (2, 146, 1009)), (13, 140, (2, 294, 11009)), (13, 141, (2, 148, 1005)), (13, 144, (2, 295, 11005)), (13, 145, (2, 149, 1009)), (13, 148, (2, 298, 11009)), (13, 149, (2, 152, 1011)), (13, 153, (2, 154, 1007)), (13, 156, (2, 299, 11007)), (13, 157, (2, 156, 1007)), (13, 160, (2, 301, 11007)), (13, 161, (2, 158, 1005)), (13, 164, (2, 302, 11005)), (13, 165, (2, 159, 1005)), (13, 168, (2, 303, 11005)), (13, 169, (2, 162, 1005)), (13, 172, (2, 304, 11005)), (13, 173, (2, 170, 1003)), (13, 177, (2, 178, 11003)), (13, 178, (2, 171, 1005)), (13, 182, (2, 309, 11005)), (13, 183, (2, 176, 1005)), (13, 186, (2, 313, 11005)), (13, 41, (2, 185, 11013)), (13, 120, (2, 285, 11011)), (13, 152, (2, 296, 11011)), (0, 3, (0, 0, 0)), (0, 11, (7, 2, 2002)), (0, 21, (4, 3, 7004)), (0, 38, (7, 9, 9002)), (0, 45, (7, 5, 4002)), (1, 3, (0, 0, 0)), (1, 11, (4, 3, 7004)), (1, 22, (7, 4, 3002)), (1, 29, (7, 5, 4002)), (1, 39, (7, 6, 5002)), (6, 3, (0, 0, 0)), (2, 3, (0, 0, 0)), (3, 5, (0, 0, 0)), (4, 3, (0, 0, 0)), (4, 17, (4, 7, 6008)), (4, 35, (4, 8, 8002)), (5, 3, (0, 0, 0)), (5, 9, (10, 0, 0)), (7, 3, (0, 0, 0)), (8, 5, (0, 0, 0)), (8, 11, (7, 10, 10002)), (8, 20, (7, 4, 3002)), (9, 5, (0, 0, 0)), (0, 60, (2, 12, 1002)), (0, 63, (3, 14, 7)), (0, 67, (3, 15, 5)), (0, 90, (2, 17, 1005)), (0, 97, (2, 19, 1002)), (0, 100, (2, 21, 2007)), (0, 104, (2, 32, 2007)), (0, 179, (2, 20, 7004)), (0, 288, (11, 0, 0)), (6, 40, (1, 0, 0)), (1, 134, (2, 22, 2007)), (1, 137, (3, 23, 5)), (1, 142, (2, 24, 3011)), (1, 146, (2, 31, 7005)), (1, 150, (2, 32, 2007)), (6, 71, (6, 15, 5)), (2, 46, (2, 25, 3008)), (2, 50, (2, 26, 3007)), (2, 54, (3, 29, 5)), (2, 57, (2, 30, 3005)), (2, 84, (11, 0, 0)), (2, 89, (10, 0, 0)), (2, 95, (3, 27, 3)), (2, 103, (3, 28, 7)), (6, 77, (10, 0, 0)), (1, 109, (2, 33, 2010)), (0, 110, (2, 35, 2005)), (1, 93, (2, 36, 2007)), (1, 116, (2, 21, 2007)), (1, 122, (11, 0, 0)), (1, 128, (10, 0, 0)), (0, 117, (2, 38, 1004)), (0, 130, (2, 41, 10008)), (0, 136, (2, 60, 9002)), (0, 141, (2, 79, 4008)), (0, 150, (2, 84, 1005)), (9, 31, (3, 42, 7)), (9, 35, (3, 44, 9)), (9, 39, (2, 59, 10006)), (9, 43, (10, 0, 0)), (9, 49, (3, 43, 3)), (9, 53, (3, 45, 9)), (9, 59, (2, 54, 51005)), (9, 65, (2, 46, 51003)), (9, 69, (2, 48, 51005)), (9, 73, (3, 53, 13)), (14, 335, (2, 47, 51003)), (14, 492, (2, 49, 51003)), (14, 495, (3, 50, 5)), (15, 9, (3, 51, 4)), (14, 1059, (3, 52, 7)), (14, 633, (2, 55, 51007)), (14, 505, (2, 46, 51003)), (14, 637, (3, 56, 9)), (15, 88, (3, 57, 3)), (15, 92, (10, 0, 0)), (15, 38, (11, 0, 0)), (15, 95, (3, 58, 9)), (8, 36, (2, 61, 10003)), (8, 40, (2, 62, 10003)), (8, 44, (6, 14, 7)), (8, 48, (2, 63, 10004)), (8, 52, (2, 64, 9006)), (9, 77, (2, 62, 10003)), (8, 56, (2, 65, 10005)), (8, 66, (2, 66, 9002)), (8, 72, (2, 70, 9002)), (8, 78, (2, 74, 10004)), (8, 81, (2, 67, 9002)), (8, 84, (2, 68, 3004)), (8, 87, (2, 69, 10007)), (8, 91, (3, 27, 3)), (9, 84, (2, 63, 10004)), (9, 88, (6, 14, 7)), (8, 103, (2, 71, 9002)), (8, 106, (2, 73, 9003)), (8, 109, (2, 75, 9002)), (8, 112, (2, 78, 9003)), (8, 115, (2, 77, 9006)), (8, 118, (2, 72, 9004)), (9, 80, (2, 65, 10005)), (8, 121, (2, 76, 9002)), (8, 124, (10, 0, 0)), (3, 42, (2, 61, 10003)), (3, 46, (2, 62, 10003)), (3, 50, (2, 63, 10004)), (3, 54, (2, 65, 10005)), (3, 58, (2, 80, 4010)), (3, 62, (2, 74, 10004)), (3, 65, (2, 81, 4008)), (3, 69, (2, 82, 4006)), (3, 73, (2, 83, 4006)), (3, 76, (2, 69, 10007)), (0, 360, (2, 85, 3004)), (0, 363, (2, 86, 4004)), (0, 366, (2, 87, 7004)), (2, 37, (1, 0, 0)), (3, 32, (1, 0, 0)), (0, 163, (2, 90, 7005)), (0, 166, (2, 91, 1007)), (0, 369, (2, 24, 3011)), (0, 170, (2, 22, 2007)), (0, 183, (2, 95, 7005)), (0, 190, (3, 96, 3)), (0, 193, (3, 99, 5)), (12, 9, (10, 0, 0)), (0, 199, (3, 101, 5)), (12, 21, (3, 102, 5)), (12, 31, (12, 0, 0)), (0, 202, (3, 104, 5)), (12, 35, (8, 105, 1)), (12, 43, (8, 106, 2)), (0, 214, (3, 109, 7)), (11, 21, (8, 110, 2)), (11, 9, (13, 0, 0)), (11, 15, (14, 0, 0)), (0, 224, (2, 112, 6005)), (5, 31, (6, 14, 7)), (0, 229, (3, 114, 7)), (11, 32, (2, 115, 6007)), (11, 36, (10, 0, 0)), (11, 38, (2, 116, 6003)), (11, 42, (3, 117, 5)), (11, 46, (3, 118, 7)), (11, 54, (3, 119, 9)), (0, 233, (3, 121, 3)), (0, 242, (2, 122, 8008)), (7, 16, (6, 14, 7)), (7, 20, (3, 123, 5)), (0, 245, (2, 125, 8003)), (0, 249, (2, 128, 8003)), (7, 30, (2, 126, 8007)), (7, 33, (3, 127, 5)), (7, 37, (2, 129, 8005)), (0, 252, (3, 131, 7)), (0, 256, (3, 133, 3)), (0, 259, (3, 134, 9)), (11, 58, (6, 14, 7)), (0, 266, (3, 137, 3)), (0, 270, (3, 139, 3)), (0, 273, (3, 140, 7)), (0, 279, (3, 141, 3)), (11, 65, (3, 138, 5)), (11, 62, (11, 0, 0)), (0, 285, (3, 144, 3)), (11, 68, (3, 145, 11)), (0, 293, (2, 147, 5009)), (4, 60, (6, 14, 7)), (0, 299, (3, 150, 7)), (12, 51, (3, 151, 7)), (0, 302, (3, 153, 9)), (12, 55, (11, 0, 0)), (0, 305, (3, 155, 5)), (0, 308, (3, 157, 5)), (0, 314, (2, 160, 6003)), (0, 317, (2, 161, 6005)), (0, 320, (3, 163, 3)), (0, 323, (3, 164, 3)), (12, 58, (3, 165, 3)), (12, 61, (3, 166, 3)), (12, 65, (3, 167, 4)), (12, 69, (3, 168, 5)), (12, 73, (3, 169, 7)), (0, 332, (2, 172, 2004)), (1, 48, (2, 20, 7004)), (1, 52, (2, 85, 3004)), (1, 55, (2, 86, 4004)), (1, 58, (2, 173, 5004)), (1, 65, (1, 0, 0)), (4, 40, (1, 0, 0)), (4, 46, (2, 174, 6004)), (4, 50, (2, 175, 8004)), (5, 35, (11, 0, 0)), (5, 38, (1, 0, 0)), (7, 24, (1, 0, 0)), (10, 1, (0, 0, 0)), (10, 156, (2, 181, 11009)), (10, 160, (2, 182, 11007)), (10, 164, (2, 184, 11005)), (10, 171, (2, 186, 11004)), (10, 315, (2, 189, 11005)), (10, 318, (2, 220, 11004)), (10, 321, (2, 221, 11006)), (10, 222, (2, 190, 11002)), (10, 288, (2, 196, 11003)), (10, 291, (2, 205, 11003)), (10, 294, (2, 207, 11003)), (10, 297, (2, 209, 11003)), (10, 178, (2, 191, 11005)), (10, 190, (2, 192, 11005)), (10, 193, (2, 193, 11007)), (10, 197, (2, 194, 11005)), (10, 200, (2, 195, 11005)), (10, 244, (2, 197, 11005)), (10, 215, (2, 198, 11005)), (10, 279, (2, 199, 11005)), (10, 269, (2, 200, 11009)), (10, 273, (2, 202, 11003)), (10, 266, (2, 201, 11007)), (10, 276, (2, 203, 11005)), (10, 229, (2, 204, 11005)), (10, 282, (2, 206, 11005)), (10, 285, (2, 208, 11005)), (10, 256, (2, 210, 11003)), (10, 235, (2, 211, 11003)), (10, 260, (2, 216, 11003)), (10, 232, (2, 212, 11003)), (10, 218, (2, 215, 11006)), (10, 225, (2, 213, 11003)), (10, 212, (2, 214, 11005)), (10, 247, (2, 217, 11004)), (10, 250, (2, 218, 11003)), (10, 253, (2, 219, 11004)), (10, 306, (2, 222, 11004)), (10, 377, (2, 225, 11007)), (10, 380, (2, 226, 11002)), (10, 383, (2, 227, 11005)), (10, 374, (2, 242, 11005)), (10, 365, (2, 228, 11005)), (10, 343, (2, 229, 11005)), (10, 346, (2, 230, 11005)), (10, 352, (2, 238, 11005)), (10, 368, (2, 239, 11007)), (10, 371, (2, 240, 11005)), (10, 349, (2, 231, 11007)), (10, 336, (2, 232, 11006)), (10, 339, (2, 234, 11011)), (10, 330, (2, 233, 11009)), (10, 333, (2, 235, 11005)), (10, 327, (2, 236, 11009)), (10, 324, (2, 237, 11009)), (10, 362, (2, 241, 11005)), (10, 359, (2, 244, 11007)), (10, 355, (2, 243, 11008)), (10, 395, (2, 246, 11003)), (10, 392, (2, 247, 11005)), (10, 386, (2, 248, 11007)), (10, 389, (2, 249, 11007)), (10, 398, (2, 251, 11005)), (10, 401, (2, 255, 11002)), (10, 404, (2, 256, 11007)), (10, 407, (2, 257, 11003)), (10, 410, (2, 258, 11002)), (10, 413, (2, 262, 11005)), (10, 140, (2, 263, 11005)), (10, 420, (2, 265, 11003)), (10, 423, (2, 267, 11002)), (10, 417, (2, 266, 11007)), (10, 426, (2, 270, 11007)), (10, 429, (2, 271, 11007)), (10, 435, (2, 274, 11007)), (10, 447, (2, 277, 11003)), (10, 450, (2, 281, 11002)), (10, 444, (2, 278, 11003)), (10, 441, (2, 279, 11007)), (10, 438, (2, 280, 11007)), (10, 456, (2, 283, 11004)), (10, 453, (2, 284, 11009)), (10, 465, (2, 288, 11003)), (10, 468, (2, 290, 11005)), (10, 462, (2, 289, 11007)), (10, 474, (2, 293, 11003)), (10, 480, (2, 297, 11011)), (10, 483, (2, 300, 11007)), (10, 493, (2, 305, 11004)), (10, 496, (2, 306, 11003)), (10, 499, (2, 307, 11003)), (10, 489, (2, 308, 11007)), (10, 508, (2, 310, 11005)), (10, 514, (2, 311, 11002)), (10, 517, (2, 312, 11002))]
def tC : List (Nat × Nat × Nat) := [(13, 7, 0), (13, 10, 10), (0, 9, 1), (0, 19, 6), (0, 36, 8), (0, 43, 3), (1, 9, 6), (1, 20, 2), (1, 27, 3), (1, 37, 4), (4, 15, 5), (4, 33, 7), (7, 11, 105), (8, 1, 9), (8, 18, 2)]
def tK : List (Nat × Nat × Int) := [(6, 75, 1664525), (6, 76, 1013904223), (17, 265, 1431655765), (17, 266, 858993459), (17, 267, 252645135), (0, 358, (-100000)), (10, 151, 1664525), (10, 152, 1013904223), (10, 416, 100000000), (10, 492, 155555), (10, 520, (-100000))]
def tL : List (Nat × Nat × Int) := [(12, 41, (-72340172838076674)), (12, 47, (-1)), (18, 314, 6148914691236517205), (18, 316, 3689348814741910323), (18, 318, 1085102592571150095), (12, 49, 9187201950435737471), (11, 19, 6)]
def tT : List (Nat × Nat × (Nat × String)) := [(0, 128, (3, "loss solace oak truffle dug x y found basket morning draws stops pays when or and not")), (0, 139, (4, "on seeker lead console mourn stand cell oak bare truffle table pays")), (9, 57, (5, ";+-*/()<=>"))]
def look {α : Type} : List (Nat × Nat × α) → Nat → Nat → Option α
  | [], _, _ => none
  | (o, i, x) :: l, o', i' => if o = o' ∧ i = i' then some x else look l o' i'
theorem look_mem {α : Type} {o i : Nat} {x : α} : ∀ {l : List (Nat × Nat × α)}, look l o i = some x → (o, i, x) ∈ l
  | [], h => by cases h
  | (o1, i1, y) :: l, h => by
    unfold look at h
    split at h
    · rename_i e
      obtain ⟨rfl, rfl⟩ := e
      cases h
      exact List.mem_cons_self
    · exact List.mem_cons_of_mem _ (look_mem h)
/-- an int of 32 bits -/
def cst (c : Int) : Option Instr := if -2147483648 ≤ c ∧ c < 2147483648 then some (.iconst c) else none
/-- where an instruction's names lead; rt: what the method answers; ini: is it a constructor -/
def rs (own ml : Nat) (rt : Option FieldType) (ini : Bool) (pc : Nat) (raw : Instr) : Option Instr := match raw with
  | .iconst c => cst c
  | .bipush c => if -128 ≤ c ∧ c < 128 then some (.iconst c) else none
  | .sipush c => if -32768 ≤ c ∧ c < 32768 then some (.iconst c) else none
  | .lconst n => some (.sipush (n.val : Nat))
  | .ldc i => match look tK own i with
    | some c => cst c
    | none => match look tT own i with
      | some q => some (.ldc q.1)
      | none => none
  | .ldc_w i => match look tK own i with
    | some c => cst c
    | none => none
  | .ldc2_w i => match look tL own i with
    | some c => some (.sipush c)
    | none => none
  | .iload k => some (.iload k)
  | .aload k => some (.aload k)
  | .lload k => some (.lload k)
  | .iload_n k => some (.iload k.val)
  | .aload_n k => some (.aload k.val)
  | .lload_n k => some (.lload k.val)
  | .istore k => if k < ml then some (.istore k) else none
  | .astore k => if k < ml then some (.astore k) else none
  | .lstore k => if k + 1 < ml then some (.lstore k) else none
  | .istore_n k => if k.val < ml then some (.istore k.val) else none
  | .astore_n k => if k.val < ml then some (.astore k.val) else none
  | .lstore_n k => if k.val + 1 < ml then some (.lstore k.val) else none
  | .iinc k c => if k < ml then some (.iinc k c) else none
  | .goto o => if 0 ≤ (pc : Int) + o then some (.goto (pc + o)) else none
  | .ifCond c o => if 0 ≤ (pc : Int) + o then some (.ifCond c (pc + o)) else none
  | .if_icmp c o => if 0 ≤ (pc : Int) + o then some (.if_icmp c (pc + o)) else none
  | .tableswitch d lo hi offs => if 0 ≤ (pc : Int) + d ∧ (∀ o ∈ offs.toList, 0 ≤ (pc : Int) + o) ∧ hi = lo + offs.size - 1 then some (.lookupswitch (pc + d) ((List.range offs.size).map fun i => (lo + (i : Nat), (pc : Int) + offs.getD i 0)).toArray) else none
  | .lookupswitch d ps => if 0 ≤ (pc : Int) + d ∧ (∀ o ∈ ps.toList, 0 ≤ (pc : Int) + o.2) ∧ (ps.toList.zip (ps.toList.drop 1)).all (fun (a, next) => a.1 < next.1) = true then some (.lookupswitch (pc + d) (ps.toList.map fun q => (q.1, (pc : Int) + q.2)).toArray) else none
  | .getfield i => match look tF own i with
    | some (t, k) => if isRefT (fy t k) = true then some (.instanceof (128 * t + k)) else some (.getfield (128 * t + k))
    | none => none
  | .putfield i => match look tF own i with
    | some (t, k) => if t < 11 ∧ ((fT t k).2.2.2 = true → ini = true ∧ t = own) then match fy t k with
      | .object _ => some (.checkcast (128 * t + k))
      | .array _ => some (.checkcast (128 * t + k))
      | .boolean => some (.putstatic (128 * t + k))
      | .int => some (.putfield (128 * t + k))
      | _ => none
      else none
    | none => none
  | .getstatic i => match look tS own i with
    | some (_, _, _, .inl c) => cst c
    | some (_, _, _, .inr a) => some (.ldc a)
    | none => none
  | .invokevirtual i => match look tM own i with
    | some (2, j, c) => some (.invokeinterface j c)
    | _ => none
  | .invokespecial i => match look tM own i with
    | some (0, _, _) => some .monitorenter
    | some (4, j, c) => some (.invokeinterface j c)
    | some (7, j, c) => some (.invokeinterface j c)
    | _ => none
  | .invokestatic i => match look tM own i with
    | some (1, _, _) => some .dneg
    | some (3, j, c) => some (.invokeinterface j c)
    | some (6, j, c) => some (.invokeinterface j c)
    | some (8, j, c) => some (.invokedynamic (4 * j + c))
    | some (10, _, _) => some .d2f
    | some (11, _, _) => some .d2i
    | some (12, _, _) => some .d2l
    | some (13, _, _) => some .dadd
    | some (14, _, _) => some .daload
    | _ => none
  | .new i => match look tC own i with
    | some t => if t < 11 then some (.new (128 * t + cN t)) else none
    | none => none
  | .anewarray i => match look tC own i with
    | some 6 => some (.anewarray 0)
    | _ => none
  | .multianewarray i 2 => match look tC own i with
    | some 105 => some (.multianewarray 0 0)
    | _ => none
  | .newarray .int => some (.newarray .int)
  | .newarray .char => some (.newarray .char)
  | .newarray .long => some (.newarray .long)
  | .ireturn => match rt with
    | some .int => some .ireturn
    | some .boolean => some .freturn
    | some .char => some .dreturn
    | some .byte => some .areturn
    | _ => none
  | .lreturn => if rt = some .long then some .lreturn else none
  | .return_ => if rt = none then some .return_ else none
  | .iadd => some .iadd
  | .isub => some .isub
  | .imul => some .imul
  | .idiv => some .idiv
  | .irem => some .irem
  | .ineg => some .ineg
  | .iand => some .iand
  | .ior => some .ior
  | .ixor => some .ixor
  | .ishl => some .ishl
  | .ishr => some .ishr
  | .iushr => some .iushr
  | .i2b => some .i2b
  | .i2c => some .i2c
  | .i2l => some .i2l
  | .l2i => some .l2i
  | .ladd => some .ladd
  | .lsub => some .lsub
  | .lmul => some .lmul
  | .land => some .land
  | .lor => some .lor
  | .lxor => some .lxor
  | .ldiv => some .ldiv
  | .lrem => some .lrem
  | .lneg => some .lneg
  | .lshl => some .lshl
  | .lushr => some .lushr
  | .lcmp => some .lcmp
  | .dup => some .dup
  | .dup2 => some .dup2
  | .pop => some .pop
  | .arraylength => some .arraylength
  | .iaload => some .iaload
  | .caload => some .caload
  | .baload => some .baload
  | .laload => some .laload
  | .aaload => some .aaload
  | .iastore => some .iastore
  | .castore => some .castore
  | .lastore => some .lastore
  | .aastore => some .aastore
  | _ => none
/-- it goes nowhere from here on -/
def trm : Instr → Bool
  | .goto _ => true
  | .lookupswitch _ _ => true
  | .ireturn => true
  | .freturn => true
  | .dreturn => true
  | .areturn => true
  | .lreturn => true
  | .return_ => true
  | _ => false
/-- an instruction's length -/
def lnk (raw : Instr) (len : Nat) : Bool := match raw with
  | .tableswitch _ _ _ _ => true
  | .lookupswitch _ _ => true
  | .bipush _ => len == 2
  | .ldc _ => len == 2
  | .iload _ => len == 2
  | .aload _ => len == 2
  | .lload _ => len == 2
  | .istore _ => len == 2
  | .astore _ => len == 2
  | .lstore _ => len == 2
  | .newarray _ => len == 2
  | .sipush _ => len == 3
  | .ldc_w _ => len == 3
  | .ldc2_w _ => len == 3
  | .iinc _ _ => len == 3
  | .goto _ => len == 3
  | .ifCond _ _ => len == 3
  | .if_icmp _ _ => len == 3
  | .getfield _ => len == 3
  | .putfield _ => len == 3
  | .getstatic _ => len == 3
  | .invokevirtual _ => len == 3
  | .invokespecial _ => len == 3
  | .invokestatic _ => len == 3
  | .new _ => len == 3
  | .anewarray _ => len == 3
  | .multianewarray _ _ => len == 4
  | _ => len == 1
/-- a block is what the bytes say -/
def ckB (own ml : Nat) (rt : Option FieldType) (ini : Bool) (cc : ByteArray) : Nat → List Instr → Nat → Bool
  | pc, [], ft => pc == ft
  | pc, i :: is, ft => match decode cc pc with
    | .ok (raw, len) => lnk raw len && decide (rs own ml rt ini pc raw = some i) && (trm i || ckB own ml rt ini cc (pc + len) is ft)
    | .error _ => false
def ckM (own ml : Nat) (rt : Option FieldType) (ini : Bool) (cc : ByteArray) (bs : List (Nat × List Instr × Nat)) : Bool := bs.all fun q => ckB own ml rt ini cc q.1 q.2.1 q.2.2
def look3 : List (Nat × List Instr × Nat) → Nat → List Instr × Nat
  | [], _ => ([.nop], 0)
  | (p, is, ft) :: l, pc => if p = pc then (is, ft) else look3 l pc
