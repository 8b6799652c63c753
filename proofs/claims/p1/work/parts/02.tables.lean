/-! the machine's tables: written by program out of the words of the Statement -/
def ex_lk {α : Type} : List (Nat × α) → Nat → Option α
  | [], _ => none
  | q :: t, i => if q.1 = i then some q.2 else ex_lk t i
def kOl : List String := ["ExactLoomLaw", "ExactLoom", "ExactLoom$Row", "ExactLoom$Block", "ExactLoom$Labels", "ExactLoom$Maker", "ExactLoom$Marks", "ExactLoom$Scribe", "ExactLoom$Words", "ExactLoom$Instructions", "ExactLoomModel", "java/lang/String", "java/lang/StringLatin1", "jdk/internal/util/Preconditions", "java/lang/Math", "java/lang/Object"]
def kOn (o : Nat) : String := kOl.getD o ""
def kT0 : u_T := fun k => match k with
  | 0 => ("ExactLoom", "waiting", "LExactLoom$Row;", true)
  | 1 => ("ExactLoom", "typed", "LExactLoom$Row;", true)
  | 2 => ("ExactLoom", "maker", "LExactLoom$Maker;", true)
  | 3 => ("ExactLoom", "scribe", "LExactLoom$Scribe;", true)
  | 4 => ("ExactLoom", "block", "LExactLoom$Block;", false)
  | _ => ("ExactLoom", "spare", "LExactLoom$Block;", false)
def kT1 : u_T := fun k => match k with
  | 0 => ("ExactLoom$Row", "cells", "[I", true)
  | _ => ("ExactLoom$Row", "used", "I", false)
def kT2 : u_T := fun k => match k with
  | 0 => ("ExactLoom$Block", "bytes", "LExactLoom$Row;", true)
  | 1 => ("ExactLoom$Block", "countCells", "[I", true)
  | _ => ("ExactLoom$Block", "codePlaces", "[I", true)
def kT3 : u_T := fun k => match k with
  | 0 => ("ExactLoom$Labels", "places", "[I", true)
  | 1 => ("ExactLoom$Labels", "lines", "I", false)
  | 2 => ("ExactLoom$Labels", "namedLines", "[I", true)
  | 3 => ("ExactLoom$Labels", "origins", "[I", true)
  | 4 => ("ExactLoom$Labels", "cells", "[I", true)
  | _ => ("ExactLoom$Labels", "names", "I", false)
def kT4 : u_T := fun k => match k with
  | 0 => ("ExactLoom$Maker", "made", "LExactLoom$Row;", true)
  | 1 => ("ExactLoom$Maker", "words", "LExactLoom$Words;", true)
  | 2 => ("ExactLoom$Maker", "labels", "LExactLoom$Labels;", true)
  | 3 => ("ExactLoom$Maker", "part", "I", false)
  | 4 => ("ExactLoom$Maker", "countCell", "I", false)
  | 5 => ("ExactLoom$Maker", "brought", "I", false)
  | 6 => ("ExactLoom$Maker", "inCode", "Z", false)
  | 7 => ("ExactLoom$Maker", "codeHasLines", "Z", false)
  | 8 => ("ExactLoom$Maker", "codeHasRaw", "Z", false)
  | _ => ("ExactLoom$Maker", "codeSizeCell", "I", false)
def kT5 : u_T := fun k => match k with
  | 0 => ("ExactLoom$Marks", "marks", "[I", true)
  | _ => ("ExactLoom$Marks", "places", "I", false)
def kT6 : u_T := fun k => match k with
  | 0 => ("ExactLoom$Scribe", "text", "LExactLoom$Row;", true)
  | 1 => ("ExactLoom$Scribe", "digits", "LExactLoom$Row;", true)
  | _ => ("ExactLoom$Scribe", "marks", "LExactLoom$Marks;", true)
def kT7 : u_T := fun k => match k with
  | 0 => ("ExactLoom$Words", "letters", "[I", false)
  | 1 => ("ExactLoom$Words", "used", "I", false)
  | 2 => ("ExactLoom$Words", "start", "I", false)
  | 3 => ("ExactLoom$Words", "end", "I", false)
  | 4 => ("ExactLoom$Words", "sign", "I", false)
  | 5 => ("ExactLoom$Words", "hasNumber", "Z", false)
  | 6 => ("ExactLoom$Words", "beyondLong", "Z", false)
  | 7 => ("ExactLoom$Words", "less", "J", false)
  | _ => ("ExactLoom$Words", "value", "J", false)
def kT8 : u_T := fun k => match k with
  | 0 => ("ExactLoomModel", "block", "[I", true)
  | 1 => ("ExactLoomModel", "size", "I", false)
  | 2 => ("ExactLoomModel", "made", "[I", true)
  | 3 => ("ExactLoomModel", "many", "I", false)
  | 4 => ("ExactLoomModel", "waits", "[I", true)
  | 5 => ("ExactLoomModel", "waiting", "I", false)
  | 6 => ("ExactLoomModel", "typed", "[I", true)
  | 7 => ("ExactLoomModel", "length", "I", false)
  | 8 => ("ExactLoomModel", "text", "[I", true)
  | 9 => ("ExactLoomModel", "written", "I", false)
  | 10 => ("ExactLoomModel", "number", "[I", true)
  | 11 => ("ExactLoomModel", "begins", "[Z", true)
  | 12 => ("ExactLoomModel", "line", "[I", true)
  | 13 => ("ExactLoomModel", "source", "[I", true)
  | 14 => ("ExactLoomModel", "end", "I", false)
  | 15 => ("ExactLoomModel", "place", "I", false)
  | 16 => ("ExactLoomModel", "from", "I", false)
  | 17 => ("ExactLoomModel", "to", "I", false)
  | 18 => ("ExactLoomModel", "fault", "I", false)
  | 19 => ("ExactLoomModel", "value", "J", false)
  | 20 => ("ExactLoomModel", "total", "I", false)
  | 21 => ("ExactLoomModel", "part", "I", false)
  | 22 => ("ExactLoomModel", "countAt", "I", false)
  | 23 => ("ExactLoomModel", "lineAt", "[I", true)
  | 24 => ("ExactLoomModel", "lines", "I", false)
  | 25 => ("ExactLoomModel", "nameAt", "[I", true)
  | 26 => ("ExactLoomModel", "nameOf", "[I", true)
  | 27 => ("ExactLoomModel", "nameLine", "[I", true)
  | _ => ("ExactLoomModel", "names", "I", false)
def kCl : List vw_C := [("ExactLoom", kT0, 6), ("ExactLoom$Row", kT1, 2), ("ExactLoom$Block", kT2, 3), ("ExactLoom$Labels", kT3, 6), ("ExactLoom$Maker", kT4, 10), ("ExactLoom$Marks", kT5, 2), ("ExactLoom$Scribe", kT6, 3), ("ExactLoom$Words", kT7, 9), ("ExactLoomModel", kT8, 29)]
def kTl : List (List FieldType) := [[.object "ExactLoom$Row", .object "ExactLoom$Row", .object "ExactLoom$Maker", .object "ExactLoom$Scribe", .object "ExactLoom$Block", .object "ExactLoom$Block"], [.array .int, .int], [.object "ExactLoom$Row", .array .int, .array .int], [.array .int, .int, .array .int, .array .int, .array .int, .int], [.object "ExactLoom$Row", .object "ExactLoom$Words", .object "ExactLoom$Labels", .int, .int, .int, .boolean, .boolean, .boolean, .int], [.array .int, .int], [.object "ExactLoom$Row", .object "ExactLoom$Row", .object "ExactLoom$Marks"], [.array .int, .int, .int, .int, .int, .boolean, .boolean, .long, .long], [.array .int, .int, .array .int, .int, .array .int, .int, .array .int, .int, .array .int, .int, .array .int, .array .boolean, .array .int, .array .int, .int, .int, .int, .int, .int, .long, .int, .int, .int, .array .int, .int, .array .int, .array .int, .array .int, .int]]
def kT (ci k : Nat) : FieldType := (kTl.getD ci []).getD k .int
def kQl : List (List Bool) := [[true, true, true, true, false, false], [true, false], [true, true, true], [true, false, true, true, true, false], [true, true, true, false, false, false, false, false, false, false], [true, false], [true, true, true], [false, false, false, false, false, false, false, false, false], [true, false, true, false, true, false, true, false, true, false, true, true, true, true, false, false, false, false, false, false, false, false, false, true, false, true, true, true, false]]
def kQ (ci k : Nat) : Bool := (kQl.getD ci []).getD k false
def kDl : List Nat := [1, 2, 3, 4, 5, 6, 7, 8, 10]
def kD (ci : Nat) : Nat := kDl.getD ci 0
def kBl : List (List Value) := [[.null, .null, .null, .null, .null, .null], [.null, .int 0], [.null, .null, .null], [.null, .int 0, .null, .null, .null, .int 0], [.null, .null, .null, .int 0, .int 0, .int 0, .int 0, .int 0, .int 0, .int 0], [.null, .int 0], [.null, .null, .null], [.null, .int 0, .int 0, .int 0, .int 0, .int 0, .int 0, .long 0, .long 0], [.null, .int 0, .null, .int 0, .null, .int 0, .null, .int 0, .null, .int 0, .null, .null, .null, .null, .int 0, .int 0, .int 0, .int 0, .int 0, .long 0, .int 0, .int 0, .int 0, .null, .int 0, .null, .null, .null, .int 0]]
def kB (ci : Nat) : List Value := kBl.getD ci []
def kM0 : List (MethodName × ByteArray × Nat × Option FieldType × Nat × Nat × Bool × Nat × Nat × Nat) := [
  (⟨"ExactLoomLaw", "law", "([I)Z"⟩, code, 4, some (FieldType.boolean), 0, 1, false, 998, 10, 233),
  (⟨"ExactLoom", "<init>", "()V"⟩, prog_1_method_1_code, 1, none, 1, 1, true, 0, 9, 212),
  (⟨"ExactLoom", "put", "(II)Z"⟩, prog_1_method_2_code, 3, some (FieldType.boolean), 1, 3, false, 0, 2, 44),
  (⟨"ExactLoom", "take", "()I"⟩, prog_1_method_3_code, 2, some (FieldType.int), 1, 1, false, 0, 9, 212),
  (⟨"ExactLoom", "adopt", "(LExactLoom$Row;)I"⟩, prog_1_method_14_code, 4, some (FieldType.int), 1, 2, false, 0, 4, 89),
  (⟨"ExactLoom", "type", "(II)Z"⟩, prog_1_method_4_code, 3, some (FieldType.boolean), 1, 3, false, 0, 2, 44),
  (⟨"ExactLoom", "areCharacters", "(II)Z"⟩, prog_1_method_13_code, 4, some (FieldType.boolean), 1, 2, false, 0, 0, 0),
  (⟨"ExactLoom", "make", "()I"⟩, prog_1_method_5_code, 2, some (FieldType.int), 1, 1, false, 0, 9, 212),
  (⟨"ExactLoom", "size", "()I"⟩, prog_1_method_6_code, 1, some (FieldType.int), 1, 1, false, 0, 0, 0),
  (⟨"ExactLoom", "byteAt", "(I)I"⟩, prog_1_method_7_code, 2, some (FieldType.int), 1, 2, false, 0, 1, 21),
  (⟨"ExactLoom", "length", "()I"⟩, prog_1_method_8_code, 1, some (FieldType.int), 1, 1, false, 0, 0, 0),
  (⟨"ExactLoom", "at", "(I)I"⟩, prog_1_method_9_code, 2, some (FieldType.int), 1, 2, false, 0, 1, 21),
  (⟨"ExactLoom", "count", "(I)I"⟩, prog_1_method_10_code, 2, some (FieldType.int), 1, 2, false, 0, 2, 42),
  (⟨"ExactLoom", "clear", "(I)I"⟩, prog_1_method_11_code, 2, some (FieldType.int), 1, 2, false, 0, 4, 91),
  (⟨"ExactLoom", "exact", "()Z"⟩, prog_1_method_12_code, 1, some (FieldType.boolean), 1, 1, false, 0, 9, 197),
  (⟨"ExactLoom$Row", "<init>", "(I)V"⟩, prog_7_method_1_code, 2, none, 2, 2, true, 1, 1, 20),
  (⟨"ExactLoom$Row", "empty", "()V"⟩, prog_7_method_2_code, 1, none, 2, 1, false, 1, 0, 0),
  (⟨"ExactLoom$Row", "append", "(I)V"⟩, prog_7_method_3_code, 2, none, 2, 2, false, 1, 0, 0),
  (⟨"ExactLoom$Row", "cell", "(I)I"⟩, prog_7_method_5_code, 2, some (FieldType.int), 2, 2, false, 1, 0, 0),
  (⟨"ExactLoom$Row", "change", "(II)V"⟩, prog_7_method_7_code, 3, none, 2, 3, false, 1, 0, 0),
  (⟨"ExactLoom$Row", "signedAt", "(II)J"⟩, prog_7_method_8_code, 6, some (FieldType.long), 2, 3, false, 1, 1, 21),
  (⟨"ExactLoom$Row", "appendLowest", "(II)V"⟩, prog_7_method_4_code, 4, none, 2, 3, false, 1, 1, 21),
  (⟨"ExactLoom$Row", "copyFrom", "(LExactLoom$Row;)V"⟩, prog_7_method_9_code, 3, none, 2, 2, false, 1, 1, 21),
  (⟨"ExactLoom$Row", "cellOrNone", "(I)I"⟩, prog_7_method_6_code, 2, some (FieldType.int), 2, 2, false, 1, 0, 0),
  (⟨"ExactLoom$Row", "isLike", "(LExactLoom$Row;)Z"⟩, prog_7_method_10_code, 3, some (FieldType.boolean), 2, 2, false, 1, 1, 21),
  (⟨"ExactLoom$Block", "<init>", "()V"⟩, prog_2_method_1_code, 1, none, 3, 1, true, 2, 2, 41),
  (⟨"ExactLoom$Block", "becomeBare", "()V"⟩, prog_2_method_2_code, 2, none, 3, 1, false, 2, 4, 89),
  (⟨"ExactLoom$Block", "scan", "()I"⟩, prog_2_method_3_code, 6, some (FieldType.int), 3, 1, false, 2, 3, 64),
  (⟨"ExactLoom$Block", "isKind", "(I)Z"⟩, prog_2_method_4_code, 1, some (FieldType.boolean), 3, 1, false, 2, 0, 0),
  (⟨"ExactLoom$Block", "itemEnd", "(II)I"⟩, prog_2_method_5_code, 3, some (FieldType.int), 3, 3, false, 2, 2, 42),
  (⟨"ExactLoom$Block", "entryEnd", "(I)I"⟩, prog_2_method_6_code, 2, some (FieldType.int), 3, 2, false, 2, 1, 21),
  (⟨"ExactLoom$Block", "howMany", "(I)I"⟩, prog_2_method_7_code, 2, some (FieldType.int), 3, 2, false, 2, 1, 21),
  (⟨"ExactLoom$Block", "firstItem", "(I)I"⟩, prog_2_method_8_code, 2, some (FieldType.int), 3, 2, false, 2, 0, 0),
  (⟨"ExactLoom$Block", "isClearCode", "(I)Z"⟩, prog_2_method_10_code, 6, some (FieldType.boolean), 3, 2, false, 2, 3, 66),
  (⟨"ExactLoom$Block", "codePlace", "(I)I"⟩, prog_2_method_9_code, 2, some (FieldType.int), 3, 2, false, 2, 0, 0),
  (⟨"ExactLoom$Labels", "<init>", "()V"⟩, prog_4_method_1_code, 1, none, 4, 1, true, 3, 1, 20),
  (⟨"ExactLoom$Labels", "settle", "(LExactLoom$Row;)Z"⟩, prog_4_method_5_code, 5, some (FieldType.boolean), 4, 2, false, 3, 1, 22),
  (⟨"ExactLoom$Labels", "addLine", "(JI)Z"⟩, prog_4_method_3_code, 4, some (FieldType.boolean), 4, 3, false, 3, 0, 0),
  (⟨"ExactLoom$Labels", "addName", "(JII)Z"⟩, prog_4_method_4_code, 5, some (FieldType.boolean), 4, 4, false, 3, 0, 0),
  (⟨"ExactLoom$Labels", "forget", "()V"⟩, prog_4_method_2_code, 1, none, 4, 1, false, 3, 0, 0),
  (⟨"ExactLoom$Maker", "<init>", "()V"⟩, prog_5_method_1_code, 1, none, 5, 1, true, 4, 2, 41),
  (⟨"ExactLoom$Maker", "makeFrom", "(LExactLoom$Row;)I"⟩, prog_5_method_2_code, 4, some (FieldType.int), 5, 2, false, 4, 8, 174),
  (⟨"ExactLoom$Maker", "readFirstLine", "()Z"⟩, prog_5_method_3_code, 1, some (FieldType.boolean), 5, 1, false, 4, 5, 107),
  (⟨"ExactLoom$Maker", "goToPart", "(I)V"⟩, prog_5_method_4_code, 3, none, 5, 2, false, 4, 1, 21),
  (⟨"ExactLoom$Maker", "readCodeLine", "()Z"⟩, prog_5_method_9_code, 1, some (FieldType.boolean), 5, 1, false, 4, 7, 154),
  (⟨"ExactLoom$Maker", "closeCode", "()Z"⟩, prog_5_method_11_code, 1, some (FieldType.boolean), 5, 1, false, 4, 2, 46),
  (⟨"ExactLoom$Maker", "placeInCode", "()I"⟩, prog_5_method_12_code, 1, some (FieldType.int), 5, 1, false, 4, 0, 0),
  (⟨"ExactLoom$Maker", "readRaw", "()Z"⟩, prog_5_method_13_code, 1, some (FieldType.boolean), 5, 1, false, 4, 3, 68),
  (⟨"ExactLoom$Maker", "readBytes", "(Z)Z"⟩, prog_5_method_20_code, 4, some (FieldType.boolean), 5, 2, false, 4, 2, 45),
  (⟨"ExactLoom$Maker", "hasRoom", "(I)Z"⟩, prog_5_method_21_code, 2, some (FieldType.boolean), 5, 2, false, 4, 0, 0),
  (⟨"ExactLoom$Maker", "bring", "(JI)Z"⟩, prog_5_method_22_code, 5, some (FieldType.boolean), 5, 3, false, 4, 1, 21),
  (⟨"ExactLoom$Maker", "readLabelLine", "()Z"⟩, prog_5_method_14_code, 1, some (FieldType.boolean), 5, 1, false, 4, 2, 45),
  (⟨"ExactLoom$Maker", "readInstruction", "()Z"⟩, prog_5_method_15_code, 7, some (FieldType.boolean), 5, 1, false, 4, 6, 128),
  (⟨"ExactLoom$Maker", "readNumber", "(JJI)Z"⟩, prog_5_method_18_code, 6, some (FieldType.boolean), 5, 4, false, 4, 2, 45),
  (⟨"ExactLoom$Maker", "readDistance", "(I)Z"⟩, prog_5_method_16_code, 2, some (FieldType.boolean), 5, 2, false, 4, 2, 45),
  (⟨"ExactLoom$Maker", "readItem", "()Z"⟩, prog_5_method_5_code, 3, some (FieldType.boolean), 5, 1, false, 4, 6, 127),
  (⟨"ExactLoom$Maker", "kindOfWord", "()I"⟩, prog_5_method_6_code, 1, some (FieldType.int), 5, 1, false, 4, 5, 107),
  (⟨"ExactLoom$Maker", "partOfWord", "()I"⟩, prog_5_method_7_code, 1, some (FieldType.int), 5, 1, false, 4, 5, 107),
  (⟨"ExactLoom$Maker", "readEntry", "(I)Z"⟩, prog_5_method_8_code, 2, some (FieldType.boolean), 5, 2, false, 4, 3, 70),
  (⟨"ExactLoom$Maker", "readQuoted", "()Z"⟩, prog_5_method_19_code, 3, some (FieldType.boolean), 5, 1, false, 4, 2, 45),
  (⟨"ExactLoom$Maker", "readByte", "()Z"⟩, prog_5_method_17_code, 1, some (FieldType.boolean), 5, 1, false, 4, 3, 70),
  (⟨"ExactLoom$Maker", "openCode", "()Z"⟩, prog_5_method_10_code, 1, some (FieldType.boolean), 5, 1, false, 4, 5, 107),
  (⟨"ExactLoom$Marks", "<init>", "()V"⟩, prog_6_method_1_code, 1, none, 6, 1, true, 5, 1, 20),
  (⟨"ExactLoom$Marks", "findStarts", "(LExactLoom$Row;II)V"⟩, prog_6_method_2_code, 6, none, 6, 4, false, 5, 3, 66),
  (⟨"ExactLoom$Marks", "findTargets", "(LExactLoom$Row;I)V"⟩, prog_6_method_3_code, 4, none, 6, 3, false, 5, 3, 74),
  (⟨"ExactLoom$Marks", "findTargetsOf", "(LExactLoom$Row;II)V"⟩, prog_6_method_4_code, 9, none, 6, 4, false, 5, 2, 46),
  (⟨"ExactLoom$Marks", "numberTargets", "()V"⟩, prog_6_method_5_code, 3, none, 6, 1, false, 5, 0, 0),
  (⟨"ExactLoom$Marks", "lineAt", "(I)I"⟩, prog_6_method_7_code, 2, some (FieldType.int), 6, 2, false, 5, 0, 0),
  (⟨"ExactLoom$Marks", "isStart", "(I)Z"⟩, prog_6_method_6_code, 2, some (FieldType.boolean), 6, 2, false, 5, 0, 0),
  (⟨"ExactLoom$Scribe", "<init>", "()V"⟩, prog_8_method_1_code, 1, none, 7, 1, true, 6, 2, 41),
  (⟨"ExactLoom$Scribe", "write", "(LExactLoom$Block;)V"⟩, prog_8_method_2_code, 6, none, 7, 2, false, 6, 8, 187),
  (⟨"ExactLoom$Scribe", "word", "(Ljava/lang/String;)V"⟩, prog_8_method_10_code, 3, none, 7, 2, false, 6, 4, 85),
  (⟨"ExactLoom$Scribe", "number", "(IJ)V"⟩, prog_8_method_11_code, 7, none, 7, 3, false, 6, 1, 21),
  (⟨"ExactLoom$Scribe", "endLine", "()V"⟩, prog_8_method_9_code, 1, none, 7, 1, false, 6, 1, 22),
  (⟨"ExactLoom$Scribe", "writeEntry", "(LExactLoom$Row;I)V"⟩, prog_8_method_3_code, 3, none, 7, 3, false, 6, 5, 107),
  (⟨"ExactLoom$Scribe", "name", "(LExactLoom$Row;II)V"⟩, prog_8_method_12_code, 5, none, 7, 4, false, 6, 2, 46),
  (⟨"ExactLoom$Scribe", "isPlainName", "(LExactLoom$Row;II)Z"⟩, prog_8_method_13_code, 5, some (FieldType.boolean), 7, 3, false, 6, 1, 21),
  (⟨"ExactLoom$Scribe", "bareBytes", "(LExactLoom$Row;II)V"⟩, prog_8_method_14_code, 6, none, 7, 4, false, 6, 1, 21),
  (⟨"ExactLoom$Scribe", "hexDigit", "(I)I"⟩, prog_8_method_15_code, 1, some (FieldType.int), 7, 1, false, 6, 0, 0),
  (⟨"ExactLoom$Scribe", "writeField", "(LExactLoom$Row;I)V"⟩, prog_8_method_4_code, 3, none, 7, 3, false, 6, 5, 107),
  (⟨"ExactLoom$Scribe", "writeCode", "(LExactLoom$Block;I)V"⟩, prog_8_method_6_code, 7, none, 7, 3, false, 6, 7, 161),
  (⟨"ExactLoom$Scribe", "writePlace", "(LExactLoom$Row;II)V"⟩, prog_8_method_7_code, 5, none, 7, 4, false, 6, 6, 137),
  (⟨"ExactLoom$Scribe", "writeInstruction", "(LExactLoom$Row;II)V"⟩, prog_8_method_8_code, 11, none, 7, 4, false, 6, 5, 107),
  (⟨"ExactLoom$Scribe", "writeAttachment", "(LExactLoom$Row;I)V"⟩, prog_8_method_5_code, 3, none, 7, 3, false, 6, 5, 107),
  (⟨"ExactLoom$Words", "<init>", "()V"⟩, prog_9_method_1_code, 1, none, 8, 1, true, 7, 1, 20),
  (⟨"ExactLoom$Words", "open", "(LExactLoom$Row;)V"⟩, prog_9_method_2_code, 2, none, 8, 2, false, 7, 2, 45),
  (⟨"ExactLoom$Words", "step", "()V"⟩, prog_9_method_3_code, 2, none, 8, 1, false, 7, 1, 24),
  (⟨"ExactLoom$Words", "isGap", "(I)Z"⟩, prog_9_method_4_code, 1, some (FieldType.boolean), 8, 1, false, 7, 0, 0),
  (⟨"ExactLoom$Words", "readNumeral", "()V"⟩, prog_9_method_5_code, 5, none, 8, 1, false, 7, 0, 0),
  (⟨"ExactLoom$Words", "is", "(Ljava/lang/String;)Z"⟩, prog_9_method_9_code, 3, some (FieldType.boolean), 8, 2, false, 7, 4, 85),
  (⟨"ExactLoom$Words", "letter", "(I)I"⟩, prog_9_method_8_code, 2, some (FieldType.int), 8, 2, false, 7, 0, 0),
  (⟨"ExactLoom$Words", "isNumber", "(JJ)Z"⟩, prog_9_method_10_code, 5, some (FieldType.boolean), 8, 3, false, 7, 0, 0),
  (⟨"ExactLoom$Words", "isThere", "()Z"⟩, prog_9_method_6_code, 1, some (FieldType.boolean), 8, 1, false, 7, 0, 0),
  (⟨"ExactLoom$Words", "width", "()I"⟩, prog_9_method_7_code, 1, some (FieldType.int), 8, 1, false, 7, 0, 0),
  (⟨"ExactLoom$Words", "areBytes", "()Z"⟩, prog_9_method_13_code, 2, some (FieldType.boolean), 8, 1, false, 7, 1, 21),
  (⟨"ExactLoom$Words", "hexValue", "(I)I"⟩, prog_9_method_15_code, 1, some (FieldType.int), 8, 1, false, 7, 0, 0),
  (⟨"ExactLoom$Words", "byteOf", "(I)I"⟩, prog_9_method_14_code, 2, some (FieldType.int), 8, 2, false, 7, 1, 21),
  (⟨"ExactLoom$Words", "isLabel", "()Z"⟩, prog_9_method_12_code, 1, some (FieldType.boolean), 8, 1, false, 7, 0, 0),
  (⟨"ExactLoom$Words", "isDistance", "()Z"⟩, prog_9_method_11_code, 1, some (FieldType.boolean), 8, 1, false, 7, 1, 24),
  (⟨"ExactLoom$Words", "isQuoted", "()Z"⟩, prog_9_method_16_code, 3, some (FieldType.boolean), 8, 1, false, 7, 1, 21),
  (⟨"ExactLoom$Instructions", "widthAt", "(LExactLoom$Row;II)I"⟩, prog_3_method_4_code, 5, some (FieldType.int), 9, 3, false, 998, 2, 42),
  (⟨"ExactLoom$Instructions", "headOf", "(I)I"⟩, prog_3_method_5_code, 1, some (FieldType.int), 9, 1, false, 998, 1, 20),
  (⟨"ExactLoom$Instructions", "hasByte", "(I)Z"⟩, prog_3_method_6_code, 1, some (FieldType.boolean), 9, 1, false, 998, 0, 0),
  (⟨"ExactLoom$Instructions", "distancesAt", "(LExactLoom$Row;I)I"⟩, prog_3_method_7_code, 2, some (FieldType.int), 9, 2, false, 998, 1, 21),
  (⟨"ExactLoom$Instructions", "wordOf", "(I)Ljava/lang/String;"⟩, prog_3_method_2_code, 1, some ((FieldType.object "java/lang/String")), 9, 1, false, 998, 0, 0),
  (⟨"ExactLoom$Instructions", "instructionOf", "(LExactLoom$Words;)I"⟩, prog_3_method_3_code, 2, some (FieldType.int), 9, 1, false, 998, 5, 107),
  (⟨"ExactLoomModel", "<init>", "()V"⟩, prog_11_method_1_code, 1, none, 10, 1, true, 8, 7, 168),
  (⟨"ExactLoomModel", "tell", "()V"⟩, prog_11_method_28_code, 5, none, 10, 1, false, 8, 6, 144),
  (⟨"ExactLoomModel", "five", "(IIIII)V"⟩, prog_11_method_9_code, 6, none, 10, 6, false, 8, 1, 21),
  (⟨"ExactLoomModel", "say", "(I)V"⟩, prog_11_method_8_code, 2, none, 10, 2, false, 8, 0, 0),
  (⟨"ExactLoomModel", "sayNumber", "(J)V"⟩, prog_11_method_10_code, 7, none, 10, 2, false, 8, 1, 21),
  (⟨"ExactLoomModel", "tellOne", "(II)I"⟩, prog_11_method_27_code, 3, some (FieldType.int), 10, 3, false, 8, 5, 122),
  (⟨"ExactLoomModel", "tellEntry", "(I)I"⟩, prog_11_method_15_code, 4, some (FieldType.int), 10, 2, false, 8, 3, 70),
  (⟨"ExactLoomModel", "wide", "(II)J"⟩, prog_11_method_14_code, 6, some (FieldType.long), 10, 3, false, 8, 0, 0),
  (⟨"ExactLoomModel", "sayName", "(II)V"⟩, prog_11_method_12_code, 5, none, 10, 3, false, 8, 2, 46),
  (⟨"ExactLoomModel", "sayBytes", "(II)V"⟩, prog_11_method_11_code, 6, none, 10, 3, false, 8, 1, 21),
  (⟨"ExactLoomModel", "sayPair", "(II)V"⟩, prog_11_method_13_code, 3, none, 10, 3, false, 8, 2, 47),
  (⟨"ExactLoomModel", "tellCode", "(I)I"⟩, prog_11_method_26_code, 4, some (FieldType.int), 10, 2, false, 8, 4, 99),
  (⟨"ExactLoomModel", "isClear", "(II)Z"⟩, prog_11_method_17_code, 6, some (FieldType.boolean), 10, 3, false, 8, 1, 23),
  (⟨"ExactLoomModel", "sizeOf", "(II)I"⟩, prog_11_method_16_code, 4, some (FieldType.int), 10, 3, false, 8, 0, 0),
  (⟨"ExactLoomModel", "findLines", "(II)V"⟩, prog_11_method_22_code, 7, none, 10, 3, false, 8, 2, 47),
  (⟨"ExactLoomModel", "distances", "(I)I"⟩, prog_11_method_19_code, 2, some (FieldType.int), 10, 2, false, 8, 0, 0),
  (⟨"ExactLoomModel", "firstOf", "(II)I"⟩, prog_11_method_20_code, 2, some (FieldType.int), 10, 2, false, 8, 0, 0),
  (⟨"ExactLoomModel", "target", "(IIII)I"⟩, prog_11_method_21_code, 6, some (FieldType.int), 10, 5, false, 8, 1, 22),
  (⟨"ExactLoomModel", "distance", "(I)I"⟩, prog_11_method_18_code, 3, some (FieldType.int), 10, 2, false, 8, 0, 0),
  (⟨"ExactLoomModel", "tellInstruction", "(III)V"⟩, prog_11_method_25_code, 7, none, 10, 4, false, 8, 3, 73),
  (⟨"ExactLoomModel", "sayWord", "(I)V"⟩, prog_11_method_24_code, 2, none, 10, 2, false, 8, 2, 46),
  (⟨"ExactLoomModel", "tellDistance", "(IIII)V"⟩, prog_11_method_23_code, 7, none, 10, 5, false, 8, 2, 47),
  (⟨"ExactLoomModel", "put", "(II)Z"⟩, prog_11_method_2_code, 4, some (FieldType.boolean), 10, 3, false, 8, 0, 0),
  (⟨"ExactLoomModel", "take", "()I"⟩, prog_11_method_7_code, 4, some (FieldType.int), 10, 1, false, 8, 7, 168),
  (⟨"ExactLoomModel", "behind", "(II)I"⟩, prog_11_method_3_code, 3, some (FieldType.int), 10, 3, false, 8, 0, 0),
  (⟨"ExactLoomModel", "over", "(II)I"⟩, prog_11_method_4_code, 6, some (FieldType.int), 10, 3, false, 8, 3, 68),
  (⟨"ExactLoomModel", "entry", "(I)I"⟩, prog_11_method_5_code, 4, some (FieldType.int), 10, 2, false, 8, 2, 45),
  (⟨"ExactLoomModel", "bytes", "(II)I"⟩, prog_11_method_6_code, 4, some (FieldType.int), 10, 3, false, 8, 1, 22),
  (⟨"ExactLoomModel", "type", "(II)Z"⟩, prog_11_method_29_code, 5, some (FieldType.boolean), 10, 3, false, 8, 0, 0),
  (⟨"ExactLoomModel", "make", "()I"⟩, prog_11_method_54_code, 2, some (FieldType.int), 10, 1, false, 8, 9, 195),
  (⟨"ExactLoomModel", "read", "()Z"⟩, prog_11_method_53_code, 1, some (FieldType.boolean), 10, 1, false, 8, 8, 175),
  (⟨"ExactLoomModel", "add", "(I)V"⟩, prog_11_method_35_code, 2, none, 10, 2, false, 8, 0, 0),
  (⟨"ExactLoomModel", "must", "()Z"⟩, prog_11_method_32_code, 1, some (FieldType.boolean), 10, 1, false, 8, 2, 41),
  (⟨"ExactLoomModel", "next", "()Z"⟩, prog_11_method_31_code, 1, some (FieldType.boolean), 10, 1, false, 8, 1, 21),
  (⟨"ExactLoomModel", "isGap", "(I)Z"⟩, prog_11_method_30_code, 2, some (FieldType.boolean), 10, 2, false, 8, 0, 0),
  (⟨"ExactLoomModel", "is", "(IIIIII)Z"⟩, prog_11_method_36_code, 9, some (FieldType.boolean), 10, 7, false, 8, 0, 0),
  (⟨"ExactLoomModel", "wrong", "()Z"⟩, prog_11_method_33_code, 1, some (FieldType.boolean), 10, 1, false, 8, 0, 0),
  (⟨"ExactLoomModel", "readByte", "(II)Z"⟩, prog_11_method_41_code, 3, some (FieldType.boolean), 10, 3, false, 8, 4, 86),
  (⟨"ExactLoomModel", "readNumber", "(JJ)Z"⟩, prog_11_method_38_code, 6, some (FieldType.boolean), 10, 3, false, 8, 3, 61),
  (⟨"ExactLoomModel", "digits", "(I)Z"⟩, prog_11_method_37_code, 4, some (FieldType.boolean), 10, 2, false, 8, 0, 0),
  (⟨"ExactLoomModel", "room", "(I)Z"⟩, prog_11_method_34_code, 2, some (FieldType.boolean), 10, 2, false, 8, 1, 20),
  (⟨"ExactLoomModel", "readOne", "()Z"⟩, prog_11_method_52_code, 1, some (FieldType.boolean), 10, 1, false, 8, 7, 155),
  (⟨"ExactLoomModel", "readEntry", "(I)Z"⟩, prog_11_method_44_code, 2, some (FieldType.boolean), 10, 2, false, 8, 5, 112),
  (⟨"ExactLoomModel", "enter", "(I)Z"⟩, prog_11_method_43_code, 2, some (FieldType.boolean), 10, 2, false, 8, 1, 21),
  (⟨"ExactLoomModel", "readWide", "(IJJ)Z"⟩, prog_11_method_42_code, 7, some (FieldType.boolean), 10, 4, false, 8, 4, 86),
  (⟨"ExactLoomModel", "readBytes", "(ZZ)Z"⟩, prog_11_method_40_code, 7, some (FieldType.boolean), 10, 3, false, 8, 3, 61),
  (⟨"ExactLoomModel", "hex", "(I)I"⟩, prog_11_method_39_code, 1, some (FieldType.int), 10, 1, false, 8, 0, 0),
  (⟨"ExactLoomModel", "readCode", "()Z"⟩, prog_11_method_51_code, 3, some (FieldType.boolean), 10, 1, false, 8, 6, 133),
  (⟨"ExactLoomModel", "finish", "(I)Z"⟩, prog_11_method_50_code, 4, some (FieldType.boolean), 10, 2, false, 8, 1, 20),
  (⟨"ExactLoomModel", "readLine", "(I)Z"⟩, prog_11_method_49_code, 2, some (FieldType.boolean), 10, 2, false, 8, 1, 23),
  (⟨"ExactLoomModel", "operation", "()I"⟩, prog_11_method_45_code, 1, some (FieldType.int), 10, 1, false, 8, 1, 28),
  (⟨"ExactLoomModel", "readInstruction", "(II)Z"⟩, prog_11_method_48_code, 6, some (FieldType.boolean), 10, 3, false, 8, 5, 108),
  (⟨"ExactLoomModel", "readDistance", "(I)Z"⟩, prog_11_method_46_code, 5, some (FieldType.boolean), 10, 2, false, 8, 3, 61),
  (⟨"ExactLoomModel", "isRow", "()Z"⟩, prog_11_method_47_code, 3, some (FieldType.boolean), 10, 1, false, 8, 0, 0),
  (⟨"ExactLoomModel", "size", "()I"⟩, prog_11_method_55_code, 1, some (FieldType.int), 10, 1, false, 8, 0, 0),
  (⟨"ExactLoomModel", "byteAt", "(I)I"⟩, prog_11_method_56_code, 2, some (FieldType.int), 10, 2, false, 8, 0, 0),
  (⟨"ExactLoomModel", "length", "()I"⟩, prog_11_method_57_code, 1, some (FieldType.int), 10, 1, false, 8, 0, 0),
  (⟨"ExactLoomModel", "at", "(I)I"⟩, prog_11_method_58_code, 2, some (FieldType.int), 10, 2, false, 8, 0, 0),
  (⟨"ExactLoomModel", "count", "(I)I"⟩, prog_11_method_61_code, 2, some (FieldType.int), 10, 2, false, 8, 2, 47),
  (⟨"ExactLoomModel", "partAt", "(I)I"⟩, prog_11_method_59_code, 6, some (FieldType.int), 10, 2, false, 8, 1, 22),
  (⟨"ExactLoomModel", "skip", "(II)I"⟩, prog_11_method_60_code, 3, some (FieldType.int), 10, 3, false, 8, 0, 0),
  (⟨"ExactLoomModel", "clear", "(I)I"⟩, prog_11_method_62_code, 4, some (FieldType.int), 10, 2, false, 8, 3, 68),
  (⟨"ExactLoomModel", "exact", "()Z"⟩, prog_11_method_63_code, 3, some (FieldType.boolean), 10, 1, false, 8, 9, 195),
  (⟨"java/lang/String", "length", "()I"⟩, prog_13_method_54_code, 1, some (FieldType.int), 11, 1, false, 999, 1, 20),
  (⟨"java/lang/String", "coder", "()B"⟩, prog_13_method_152_code, 1, some (FieldType.byte), 11, 1, false, 999, 0, 0),
  (⟨"java/lang/String", "charAt", "(I)C"⟩, prog_13_method_56_code, 2, some (FieldType.char), 11, 2, false, 999, 3, 64),
  (⟨"java/lang/String", "isLatin1", "()Z"⟩, prog_13_method_154_code, 1, some (FieldType.boolean), 11, 1, false, 999, 0, 0),
  (⟨"java/lang/String", "checkIndex", "(II)V"⟩, prog_13_method_155_code, 2, none, 11, 2, false, 999, 1, 22),
  (⟨"java/lang/StringLatin1", "charAt", "([BI)C"⟩, prog_14_method_2_code, 2, some (FieldType.char), 12, 2, false, 998, 2, 43),
  (⟨"jdk/internal/util/Preconditions", "checkIndex", "(IILjava/util/function/BiFunction;)I"⟩, prog_16_method_11_code, 3, some (FieldType.int), 13, 3, false, 998, 0, 0)]
def kMd : MethodName × ByteArray × Nat × Option FieldType × Nat × Nat × Bool × Nat × Nat × Nat := (⟨"", "", ""⟩, .mk #[], 0, none, 0, 0, false, 998, 0, 0)
def kG0 (mi : Nat) : MethodName × ByteArray × Nat × Option FieldType × Nat × Nat × Bool × Nat × Nat × Nat := kM0.getD mi kMd
def kY (mi : Nat) : MethodName := (kG0 mi).1
def kC (mi : Nat) : ByteArray := (kG0 mi).2.1
def kL (mi : Nat) : Nat := (kG0 mi).2.2.1
def kR (mi : Nat) : Option FieldType := (kG0 mi).2.2.2.1
def kO (mi : Nat) : Nat := (kG0 mi).2.2.2.2.1
def kA (mi : Nat) : Nat := (kG0 mi).2.2.2.2.2.1
def kN0 (mi : Nat) : Bool := (kG0 mi).2.2.2.2.2.2.1
def kH (mi : Nat) : Nat := (kG0 mi).2.2.2.2.2.2.2.1
def kV (mi : Nat) : Nat := (kG0 mi).2.2.2.2.2.2.2.2.1
def kW (mi : Nat) : Nat := (kG0 mi).2.2.2.2.2.2.2.2.2
def kNM : Nat := 176
def kKl : List (List (Nat × List Nat)) := [
  [(18, [0, 1, 2, 3]), (92, [0, 1, 2, 3]), (125, [0, 1, 2, 3]), (138, [0, 1, 2, 3]), (171, [0, 1, 2, 3]), (184, [0, 1, 2, 3]), (197, [0, 1, 2, 3]), (220, [0, 1, 2, 3]), (233, [0, 1, 2, 3]), (256, [0, 1, 2, 3]), (279, [0, 1, 2, 3]), (302, [0, 1, 2, 3]), (315, [0, 1, 2, 3]), (321, [])],
  [],
  [(24, []), (26, [0, 1, 2])],
  [(25, [0])],
  [(42, [2])],
  [(33, []), (35, [0, 1, 2])],
  [(2, [0, 1, 2]), (36, []), (38, [0, 1, 2]), (44, [])],
  [(36, [0, 1]), (45, [0])],
  [],
  [],
  [],
  [],
  [(9, []), (13, [0, 1]), (21, [])],
  [(16, []), (18, [0, 1]), (40, []), (41, [])],
  [(42, []), (43, [])],
  [],
  [],
  [(32, [])],
  [(12, []), (16, [0, 1]), (22, [])],
  [(19, [])],
  [(11, [0, 1, 2, 3, 5]), (38, [3])],
  [(4, [0, 1, 3]), (28, [])],
  [(7, [0, 1, 2]), (30, [])],
  [(12, []), (16, [0, 1]), (22, [])],
  [(13, [0, 1]), (15, [0, 1, 2]), (38, [0, 1, 2]), (44, [])],
  [],
  [(18, [0, 1]), (38, [0])],
  [(32, [0, 1]), (36, [0, 1, 2, 3]), (48, [0, 1, 2, 3]), (71, [0, 1, 2, 3, 4, 5]), (103, [0, 1, 2, 3, 4, 5]), (126, [0, 1, 2, 3, 4, 5]), (140, [0, 1, 2, 3, 4, 5]), (146, [0, 1, 2, 3]), (152, [0, 2]), (167, []), (168, [])],
  [(14, []), (15, [])],
  [(28, [0, 2]), (34, [2]), (38, [0, 2]), (53, [0, 2])],
  [(36, [1]), (40, [0, 1]), (55, [1]), (59, [1])],
  [(9, []), (13, [0, 1]), (26, [])],
  [(9, []), (13, [0, 1]), (21, [])],
  [(14, [0, 2, 3, 4]), (44, [0, 2, 3, 4, 5]), (55, [2, 3]), (64, []), (65, [])],
  [(13, []), (17, [0, 1]), (23, [])],
  [],
  [(2, [0, 1, 2]), (41, []), (43, [0, 1, 2, 3]), (101, [])],
  [(19, []), (21, [0, 3])],
  [(11, [0, 1, 3, 4])],
  [],
  [],
  [(20, [0, 1, 2, 3]), (56, [0, 1, 3]), (60, [0, 1, 3]), (67, [0, 2]), (78, [0]), (86, [0])],
  [(14, [0]), (37, [0])],
  [(7, [0, 1, 2]), (42, [])],
  [(17, [0]), (26, [0]), (43, [0]), (65, [0]), (69, [])],
  [(16, [0])],
  [],
  [(9, [0])],
  [(31, [0, 1, 2]), (32, [0, 1, 2]), (38, []), (40, [0, 1, 2]), (52, [0, 2]), (54, [0, 2, 3]), (80, [0])],
  [(15, []), (16, [])],
  [(10, [0, 1, 3]), (25, [0, 1, 4]), (55, [])],
  [(23, [0])],
  [(36, []), (38, [0, 1, 2, 3]), (69, [0, 1, 2, 3, 4]), (87, [0, 1, 2, 4]), (100, [0, 2, 4, 5, 6]), (125, [4])],
  [(28, []), (30, [0])],
  [(46, []), (48, [0]), (73, []), (75, [0])],
  [(14, [0, 1]), (18, [0, 1]), (29, [0, 1, 2]), (68, [0, 2]), (84, [0, 2]), (112, [0]), (117, [0]), (135, []), (136, []), (137, [0])],
  [(14, [0]), (28, [0]), (42, [0]), (58, []), (59, [])],
  [(14, [0]), (28, [0]), (44, []), (45, [])],
  [(12, [0, 1]), (48, [0]), (60, [0]), (78, [0]), (82, []), (83, [0]), (111, []), (112, []), (113, [0])],
  [(30, []), (32, [0, 1]), (42, [0, 1, 2]), (68, [0])],
  [],
  [(21, []), (23, [0])],
  [],
  [(21, [0, 1, 2, 3, 4, 5]), (48, [0, 1, 2, 3, 4, 5]), (50, [0, 1, 2, 3, 4, 5]), (72, [0, 1, 2, 3, 4, 5]), (78, [])],
  [(2, [0, 1, 2, 3]), (28, [0, 1, 2, 3]), (34, [])],
  [(30, [0, 1, 3, 5, 6, 7]), (88, [0, 1, 3, 5, 6, 7]), (94, [])],
  [(4, [0, 1, 2]), (32, [0, 1, 2]), (38, [])],
  [(30, []), (31, [])],
  [(27, []), (28, [])],
  [],
  [(33, [0, 1, 2]), (54, [0, 1, 2, 3, 4, 5]), (88, [0, 1, 2, 3, 4, 5]), (101, [0, 1, 2, 3, 4, 5]), (114, [0, 1, 2, 3, 4, 5]), (124, [0, 1, 2, 3, 4, 5]), (134, [0, 1, 2, 3, 4, 5]), (153, [0, 1, 2]), (159, [])],
  [(2, [0, 1, 2]), (28, [0])],
  [(12, [0, 2]), (27, [0, 2]), (37, [0, 2]), (39, [0]), (51, [0, 4, 6]), (70, [0, 4, 6]), (101, [0]), (112, [0, 6]), (139, [0])],
  [],
  [(32, [0, 1, 2]), (54, [0, 1, 2]), (78, [0, 1, 2]), (113, [0, 1, 2]), (133, [])],
  [(17, [0, 1, 2, 3]), (29, [0, 1, 2, 3, 4]), (56, [0])],
  [(2, [0, 1, 2, 3]), (37, []), (39, [0, 1, 2, 3]), (45, [2]), (53, []), (54, [])],
  [(12, [0, 1, 2, 3, 4]), (63, [0])],
  [(13, [0]), (20, [])],
  [],
  [(98, [0, 3, 4, 5, 6]), (123, [0]), (126, [0, 3, 4, 5]), (148, [0])],
  [(29, [0, 1, 2, 3]), (51, [])],
  [(45, [0, 1, 3, 4, 5]), (67, [0, 1, 3, 4, 5]), (88, [0, 1, 3, 6, 7, 8]), (141, [0, 1, 3, 6, 7, 8, 9]), (151, [0, 1, 3, 6, 7, 8, 9]), (153, [0, 1, 3, 6, 7, 8, 9]), (159, [0, 1, 3, 6, 7, 8]), (165, [])],
  [],
  [],
  [],
  [(5, [0, 1]), (31, [0, 1]), (36, [0, 1]), (62, [0, 1])],
  [(12, []), (16, []), (17, [])],
  [(23, [0]), (24, [0]), (44, [0, 1]), (48, [0]), (49, [0]), (66, [0]), (72, [0]), (103, [0, 2]), (107, [0, 2]), (108, [0, 2]), (123, [0, 3]), (166, [0, 3, 4]), (167, [0, 3, 4]), (197, [0, 3, 4]), (201, [0, 3, 4]), (202, [0, 3, 4]), (227, [])],
  [(18, [0, 1]), (20, [0, 1, 2]), (43, [0, 1, 2]), (49, [])],
  [(17, []), (21, [0, 1]), (32, [])],
  [(14, []), (16, [0, 1, 3]), (55, []), (56, []), (57, [0, 3]), (87, []), (88, [])],
  [(15, []), (16, [])],
  [],
  [(19, []), (21, [0]), (23, [0, 1]), (45, [0, 1]), (51, [])],
  [(17, [0]), (39, []), (40, [])],
  [],
  [(19, [0]), (25, [0]), (30, [0]), (53, []), (54, [])],
  [(18, [0]), (65, []), (66, [])],
  [(32, []), (34, [0, 1]), (36, [0, 1, 2]), (53, [0, 1, 2]), (59, [])],
  [(14, [0, 1, 2, 3]), (40, [4]), (42, [])],
  [(11, []), (12, [])],
  [(22, []), (26, []), (27, [])],
  [(40, []), (42, [0, 1]), (50, [])],
  [(56, []), (59, []), (62, []), (65, []), (68, []), (71, []), (74, []), (77, []), (80, []), (83, []), (86, [])],
  [(2, [0, 1]), (21, [0, 1]), (27, [])],
  [],
  [(46, [0, 1, 2]), (64, [0, 1, 2, 3, 4]), (83, [0, 1, 2]), (89, [])],
  [(9, [0, 2, 3, 4, 5]), (18, [0, 3, 4, 5]), (27, [0, 4, 5]), (38, [0, 5]), (49, [])],
  [],
  [(17, [0, 3, 4]), (28, [0, 3, 4]), (53, [0, 3, 4, 6]), (55, [0, 3, 4]), (70, [0, 3]), (75, [0, 6]), (100, [])],
  [(10, [0, 1, 2]), (21, [0, 1, 2]), (68, [0, 2])],
  [(44, [0, 1, 2]), (92, [0, 1, 2]), (135, [0, 1]), (165, [0, 1, 3])],
  [(17, [0, 1, 2]), (18, [0, 1, 2]), (22, [0, 1, 2, 3, 5]), (51, [3])],
  [(8, [0, 1, 2]), (9, [0, 1, 2]), (13, [0, 1, 2, 3, 4]), (65, [0, 1, 2, 4]), (66, [0, 1, 2, 4]), (73, [0, 1, 2, 3]), (84, [0, 1, 2]), (93, [0, 1, 2, 4]), (118, [0])],
  [(8, [0, 1, 2, 3]), (53, [0, 1, 2, 3, 4, 5]), (61, [0, 1, 2, 3, 5]), (80, [0, 1, 2, 3, 5]), (88, [0, 1, 2, 3]), (97, [])],
  [],
  [(73, [0, 1, 2, 3]), (100, [0, 1, 2, 3]), (106, [0, 1, 2]), (109, [0, 1, 2]), (136, [0, 1, 2])],
  [(8, [0, 1, 2, 3, 4, 5]), (28, [0, 1, 2, 3, 4]), (69, [0, 1, 2, 3, 5]), (70, [0, 1, 2, 3, 5]), (89, [4])],
  [(32, []), (34, [0, 1, 2, 3]), (50, []), (52, [0, 1, 2, 3]), (64, []), (66, [0, 1, 2, 3]), (94, []), (95, [])],
  [(2, [0, 1, 2, 3]), (20, [0, 1, 2]), (22, [0, 1, 2, 3]), (48, [0, 1, 2, 3]), (49, [0, 1, 2, 3]), (54, [0, 1, 2, 3, 4, 5]), (98, [0, 1, 2, 3, 4, 5]), (104, [0, 1, 2, 3]), (110, [0, 2]), (115, [0, 2, 3, 4]), (153, [])],
  [(22, []), (26, [0, 1]), (48, []), (49, [])],
  [(12, [1]), (15, [])],
  [(38, []), (39, [])],
  [(34, [2]), (35, [])],
  [(46, [0, 1, 2, 3, 4]), (78, [0, 1, 2, 3, 4]), (120, [0, 1, 2, 3, 4]), (129, [0, 1, 2, 3, 4]), (132, [0, 1, 2, 3, 4]), (142, [0, 1, 2, 3, 4, 5, 6]), (173, [0])],
  [(16, [0, 1]), (34, [0, 1]), (52, [0, 1]), (69, [0, 1]), (86, [0, 1]), (103, [0, 1]), (122, [0, 1]), (141, [0, 1]), (160, [0, 1]), (178, [0, 1]), (197, [])],
  [(53, [0, 6]), (64, [0, 6]), (71, [])],
  [(21, []), (23, [0, 1, 2]), (27, [0, 1, 3]), (66, [])],
  [(35, [0, 1]), (44, [0, 1, 2]), (62, [0, 1]), (82, [0]), (106, [0, 2]), (113, [0, 2, 3]), (136, [0])],
  [(9, [0, 1, 2]), (31, [0, 1]), (48, [1]), (50, [1])],
  [(23, [0, 1, 3]), (24, [0, 1, 3]), (29, [0, 1, 3, 4, 5]), (55, [0, 1, 3, 4, 5]), (69, [0, 1, 3, 4, 5]), (80, [0, 1, 4, 5]), (81, [0, 1, 4, 5]), (84, [0, 1, 4, 5]), (91, [3])],
  [(16, [0, 1, 2]), (33, [0, 1, 2]), (40, [0, 2, 3]), (52, [0, 2, 3]), (63, [3]), (72, []), (74, [])],
  [(30, [3]), (31, [])],
  [(22, []), (24, [0, 1, 2]), (26, [0, 1, 2, 3]), (64, []), (66, [0, 1, 2, 3]), (72, [0, 1, 2]), (76, [0, 1, 3]), (115, [])],
  [(2, [0, 1]), (28, [0]), (55, [0]), (65, [0, 1]), (91, [0])],
  [(40, [0]), (63, [0]), (76, [0]), (89, [0]), (105, [0]), (131, [])],
  [],
  [(9, [0]), (24, [0]), (35, []), (36, [])],
  [(0, [0]), (35, [0]), (43, [0]), (78, [0]), (101, []), (102, [])],
  [(22, []), (26, []), (27, [])],
  [(19, [0, 1, 2, 3, 4, 5, 6, 7]), (27, [0, 1, 2, 3, 4, 5, 6, 7]), (36, [0, 1, 2, 3, 4, 5, 6, 7]), (45, [0, 1, 2, 3, 4, 5, 6, 7]), (54, [0, 1, 2, 3, 4, 5, 6, 7]), (56, [0, 1, 2, 3, 4, 5, 6, 7]), (99, [0, 3, 4, 5, 6, 7]), (120, []), (122, [0, 4, 5, 6, 7]), (144, [0, 5, 6, 7]), (166, [0, 6, 7]), (188, []), (192, []), (193, [])],
  [(15, [])],
  [(19, []), (21, [0])],
  [(9, [0, 1, 3]), (27, [0, 1, 3]), (28, [0, 1, 3]), (45, [0, 1, 3, 5]), (49, [0, 1, 3, 5]), (69, [0, 1, 3, 5]), (85, [0]), (90, [0, 1, 3, 5]), (103, [0, 1, 3]), (108, [0, 1, 3]), (129, [0]), (136, []), (140, []), (141, [])],
  [(34, []), (36, [0, 1]), (38, [0, 2]), (94, []), (96, [0, 2, 3]), (117, [])],
  [(16, [0, 1])],
  [(22, [0]), (45, [0]), (68, [0]), (91, [0]), (143, []), (144, []), (145, [0]), (167, [0]), (218, []), (219, []), (220, [0])],
  [(16, []), (18, [0, 1]), (40, [0, 1]), (52, [0, 1]), (83, []), (84, []), (85, [0])],
  [(13, [0, 1]), (47, [0])],
  [(18, []), (20, [0, 1]), (25, [0, 6]), (51, [])],
  [(9, [0, 1, 2]), (31, [0, 1]), (32, [0, 1]), (51, [0, 1, 3]), (64, [0, 1, 3]), (95, [0, 1, 3, 4]), (99, [0, 1, 3, 4]), (132, [0, 1, 3, 4]), (133, [0, 1, 3, 4]), (143, [0, 1, 3, 4, 5, 6]), (158, [0, 1, 3, 4, 5, 6]), (162, [0, 1, 3, 4, 5, 6]), (202, [0, 1, 3, 4, 6]), (206, [0, 1, 3, 4, 6]), (223, [0, 1, 3, 4, 6]), (224, [0, 1, 3, 4, 6]), (232, [0, 1, 3, 4, 5]), (242, [0, 1, 3, 4]), (254, [0, 1, 3, 4]), (256, [0, 1, 3, 4]), (264, [0, 1, 3, 4]), (274, [0, 3, 4]), (277, [0, 3, 4, 6]), (306, [0, 3, 4, 6]), (348, [0, 3, 4, 6]), (357, [])],
  [(19, [0]), (41, []), (42, [])],
  [(37, []), (39, [0]), (58, [0]), (68, [0]), (97, [0, 1]), (129, []), (131, [0, 1]), (153, [0]), (157, []), (158, [0, 1]), (194, [0, 1]), (203, [0, 1]), (215, []), (217, [0, 1]), (220, [0, 1])],
  [(2, [0, 1, 2]), (28, [0, 1, 2]), (90, [0, 1])],
  [(27, [0]), (32, [0, 1])],
  [(18, [0]), (37, [0]), (56, [0]), (74, [0]), (92, [0]), (110, [0]), (130, [0]), (150, [0]), (170, [0]), (189, [0]), (211, []), (212, [])],
  [(16, [0, 1, 3]), (26, [0, 1, 3]), (47, [0, 1, 3]), (64, [0, 1, 3]), (75, []), (77, [0, 1, 3]), (97, [0, 1, 3]), (109, [0, 3]), (113, [0, 3]), (114, [0, 3]), (119, [0, 3, 4, 5]), (136, [0, 3, 4, 5]), (142, [])],
  [(9, [0, 1]), (42, [0, 1, 2]), (74, [0, 1, 3]), (75, [0, 1, 3]), (86, [0, 1, 4]), (94, [0]), (108, []), (109, []), (110, [0, 1, 4]), (157, [0]), (163, [0]), (169, [0]), (188, [0, 2, 3]), (207, [0, 2]), (223, [0, 2]), (226, [0, 2]), (230, [0]), (235, [0, 2]), (249, [0]), (254, [0]), (267, [0])],
  [(33, [0]), (34, [0]), (42, [0, 1, 2]), (80, [0, 2]), (81, [0, 2]), (88, [1])],
  [],
  [(21, []), (22, [])],
  [],
  [(21, []), (22, [])],
  [(9, []), (13, [0, 1]), (23, [])],
  [(4, [0, 1, 2, 3]), (23, [0, 1, 2, 3, 4, 5]), (43, [0, 1, 2, 3]), (49, [2])],
  [(9, [0, 1, 2]), (27, [0, 1, 2]), (42, [0, 2]), (55, [0, 2]), (70, [0, 2]), (84, []), (86, [])],
  [(13, []), (15, [0, 1]), (25, [0, 1, 2, 3]), (43, [0, 2]), (65, []), (66, [])],
  [(2, [0, 1]), (28, [0]), (58, [0]), (59, [0]), (62, [0, 1, 2]), (93, [0, 2]), (94, [0, 2]), (101, [1])],
  [],
  [(13, []), (14, [])],
  [(16, [0, 1])],
  [(17, []), (18, [])],
  [],
  [],
  [(9, [0, 1, 2]), (16, [0])]]
def kK (mi pc : Nat) : Option (List Nat) := ex_lk (kKl.getD mi []) pc
def kFl : List (List (Nat × Nat × Nat × Bool × Nat)) := [[], [(14, 0, 0, false, 514), (18, 0, 1, false, 515), (24, 0, 2, false, 516), (31, 0, 3, false, 517), (38, 0, 4, false, 518), (42, 0, 5, false, 519), (52, 1, 1, true, 118), (67, 6, 0, true, 251), (77, 4, 0, true, 198), (80, 2, 0, true, 271)], [(9, 1, 0, false, 114), (15, 1, 1, false, 116)], [(14, 2, 0, false, 269), (20, 2, 1, false, 272), (24, 2, 2, false, 273), (37, 1, 1, true, 120)], [(9, 3, 0, false, 178), (13, 3, 2, false, 180), (16, 3, 3, false, 181), (19, 3, 4, false, 182), (22, 3, 1, false, 179), (26, 3, 5, false, 183)], [(14, 4, 0, false, 197), (23, 4, 1, false, 199), (30, 4, 2, false, 200), (38, 4, 6, false, 204), (90, 4, 5, false, 203), (93, 4, 3, false, 201), (96, 4, 4, false, 202), (173, 4, 8, false, 206), (181, 4, 7, false, 205), (195, 4, 9, false, 207), (46, 1, 1, true, 119), (59, 7, 2, true, 144), (86, 7, 8, true, 151)], [(9, 5, 0, false, 243), (21, 5, 1, false, 244)], [(14, 6, 0, false, 250), (20, 6, 1, false, 252), (26, 6, 2, false, 253), (39, 2, 0, true, 270), (150, 1, 1, true, 121)], [(9, 7, 0, false, 142), (30, 7, 1, false, 143), (31, 7, 3, false, 146), (41, 7, 2, false, 145), (47, 7, 4, false, 147), (50, 7, 5, false, 148), (54, 7, 6, false, 149), (57, 7, 7, false, 150), (81, 7, 8, false, 152), (15, 1, 0, true, 115), (20, 1, 1, true, 117)], [], [(7, 8, 0, false, 904), (13, 8, 1, false, 905), (17, 8, 2, false, 906), (20, 8, 4, false, 908), (23, 8, 6, false, 910), (26, 8, 8, false, 912), (29, 8, 10, false, 914), (32, 8, 11, false, 915), (36, 8, 12, false, 916), (39, 8, 13, false, 917), (42, 8, 23, false, 927), (45, 8, 25, false, 929), (48, 8, 26, false, 930), (51, 8, 27, false, 931), (57, 8, 5, false, 909), (60, 8, 18, false, 922), (77, 8, 9, false, 913), (156, 8, 7, false, 911), (159, 8, 15, false, 919), (162, 8, 14, false, 918), (169, 8, 16, false, 920), (172, 8, 17, false, 921), (179, 8, 20, false, 924), (185, 8, 3, false, 907), (188, 8, 19, false, 923), (215, 8, 21, false, 925), (218, 8, 22, false, 926), (250, 8, 28, false, 932), (262, 8, 24, false, 928)], [], [], [], [], []]
def kF (o idx : Nat) : Option (Nat × Nat × Bool) := (ex_lk (kFl.getD o []) idx).map (fun q => (q.1, q.2.1, q.2.2.1))
def kIl : List (List (Nat × Int32 × Nat)) := [[], [], [], [], [], [], [], [], [], [], [(115, 65536, 891)], [], [], [], [], []]
def kI (o idx : Nat) : Option Int32 := (ex_lk (kIl.getD o []) idx).map (fun q => q.1)
def kJl : List (List (Nat × Int64 × Nat)) := [[], [], [], [], [], [(74, 255, 606), (148, -2147483648, 743), (150, 2147483647, 744), (164, -9223372036854775808, 754), (166, 9223372036854775807, 755), (217, -128, 696), (219, 127, 697)], [], [(171, 10, 379)], [(63, -9223372036854775808, 588), (65, 10, 589), (84, -32768, 716), (90, -32767, 718), (94, -2147483647, 677), (96, 2147483647, 678)], [], [(84, 10, 833), (94, -1, 846), (96, 256, 847), (192, -922337203685477580, 1065), (200, -9223372036854775807, 1066), (224, -2147483648, 1083), (226, 2147483647, 1084), (239, -9223372036854775808, 1096), (241, 9223372036854775807, 1097), (253, -1000, 1126), (255, -32768, 1127), (257, -32767, 1128)], [], [], [], [], []]
def kJ (o idx : Nat) : Option Int64 := (ex_lk (kJl.getD o []) idx).map (fun q => q.1)
def kSl : List (List (Nat × Nat × Nat)) := [[], [], [], [], [], [(65, 0, 594), (128, 1, 727), (130, 2, 728), (132, 3, 729), (134, 4, 730), (136, 5, 735), (138, 6, 736), (140, 7, 737), (168, 8, 625), (176, 9, 640), (193, 10, 764)], [], [(33, 11, 320), (79, 12, 400), (85, 13, 406), (90, 14, 421), (92, 15, 422), (94, 16, 427), (96, 17, 513), (101, 18, 432), (103, 19, 433), (121, 20, 507), (123, 21, 508)], [], [(9, 22, 493), (11, 23, 494), (13, 24, 495), (15, 25, 496), (17, 26, 497), (19, 27, 498), (21, 28, 499), (23, 29, 500), (25, 30, 501), (27, 31, 502), (29, 32, 503)], [], [], [], [], [], []]
def kS (o idx : Nat) : Option Nat := (ex_lk (kSl.getD o []) idx).map (fun q => q.1)
def kZl : List (List (Nat × Nat × Nat)) := [[], [], [], [], [], [], [], [], [], [], [], [(38, 0, 333), (1053, 1, 349)], [], [], [], []]
def kZ (o idx : Nat) : Option Nat := (ex_lk (kZl.getD o []) idx).map (fun q => q.1)
def kGl : List (List (Nat × Bool × Nat)) := [[], [], [], [], [], [], [], [], [], [], [], [(9, true, 1166), (15, false, 1167)], [], [], [], []]
def kG (o idx : Nat) : Option Bool := (ex_lk (kGl.getD o []) idx).map (fun q => q.1)
def kNl : List (List (Nat × Nat × Nat)) := [[(7, 0, 100), (10, 8, 811)], [(7, 1, 108), (21, 4, 128), (28, 6, 229), (35, 2, 261)], [], [(9, 1, 267)], [], [(9, 1, 134), (20, 7, 136), (27, 3, 172)], [], [(9, 1, 235), (23, 5, 237)], [], [], [], [], [], [], [], []]
def kN (o idx : Nat) : Option Nat := (ex_lk (kNl.getD o []) idx).map (fun q => q.1)
def kMl : List (List (Nat × Nat × Nat × Nat)) := [[(9, 1, 2, 102), (12, 106, 2, 813), (13, 2, 0, 534), (17, 128, 0, 993), (18, 3, 0, 543), (22, 129, 0, 997), (23, 5, 0, 557), (26, 134, 0, 1017), (27, 7, 0, 564), (30, 135, 0, 1021), (31, 8, 0, 769), (34, 160, 0, 1129), (35, 9, 0, 773), (39, 161, 0, 1133), (40, 10, 0, 781), (43, 162, 0, 1137), (44, 11, 0, 785), (47, 163, 0, 1141), (48, 12, 0, 789), (51, 164, 0, 1145), (52, 13, 0, 794), (55, 167, 0, 1157), (56, 14, 0, 803), (60, 168, 0, 1162)], [(1, 0, 6, 105), (11, 15, 2, 110), (23, 40, 2, 130), (30, 69, 2, 231), (37, 25, 2, 263), (45, 26, 0, 281), (48, 70, 0, 315), (56, 21, 0, 538), (60, 4, 0, 547), (64, 16, 0, 556), (70, 6, 1, 561), (74, 41, 0, 568), (83, 23, 0, 777), (87, 31, 0, 793), (90, 34, 0, 798), (93, 33, 0, 802), (97, 24, 0, 807), (101, 22, 0, 551), (105, 27, 0, 555)], [(3, 0, 6, 113), (19, 17, 0, 542), (23, 18, 0, 405)], [(3, 0, 6, 266), (11, 15, 2, 268), (27, 16, 0, 285), (30, 17, 0, 289), (33, 27, 0, 293), (41, 0, 5, 297), (47, 18, 0, 300), (51, 28, 1, 304), (55, 29, 0, 307), (58, 30, 0, 311), (61, 100, 1, 439)], [(1, 0, 6, 177), (29, 19, 0, 634)], [(3, 0, 6, 133), (11, 15, 2, 135), (22, 84, 2, 138), (29, 35, 2, 174), (34, 85, 0, 572), (42, 42, 0, 590), (50, 92, 0, 617), (53, 44, 0, 621), (56, 55, 0, 719), (62, 43, 0, 613), (67, 89, 0, 595), (71, 86, 0, 605), (76, 91, 0, 607), (80, 16, 0, 611), (83, 17, 0, 612), (99, 56, 0, 723), (103, 57, 0, 731), (106, 18, 0, 738), (110, 19, 0, 639), (114, 58, 0, 739), (118, 60, 0, 756), (121, 61, 0, 760), (124, 48, 0, 645), (142, 50, 0, 665), (152, 53, 0, 698), (156, 94, 0, 653), (159, 59, 0, 745), (170, 45, 0, 626), (178, 47, 0, 641), (184, 97, 0, 673), (187, 51, 0, 679), (190, 52, 0, 687), (198, 39, 0, 765), (201, 36, 0, 630), (205, 46, 0, 635), (208, 37, 0, 683), (211, 105, 1, 691), (221, 102, 1, 702), (224, 103, 1, 703), (228, 54, 0, 704), (231, 38, 0, 708), (235, 98, 0, 712), (238, 93, 0, 649), (241, 99, 0, 749), (244, 49, 0, 661), (247, 90, 0, 753), (250, 96, 0, 669)], [(3, 0, 6, 242), (15, 0, 5, 456), (25, 100, 1, 457), (31, 65, 0, 462), (35, 103, 1, 466), (39, 18, 0, 467), (45, 101, 1, 468), (48, 20, 0, 469)], [(3, 0, 6, 234), (11, 15, 2, 236), (25, 62, 2, 239), (30, 16, 0, 319), (35, 71, 0, 321), (44, 18, 0, 374), (48, 72, 0, 375), (52, 73, 0, 380), (55, 31, 0, 388), (58, 32, 0, 392), (61, 74, 0, 396), (65, 79, 0, 423), (68, 80, 0, 428), (72, 83, 0, 509), (75, 29, 0, 434), (81, 20, 0, 401), (87, 75, 0, 407), (98, 77, 0, 414), (105, 33, 0, 435), (109, 63, 0, 452), (112, 64, 0, 458), (115, 66, 0, 470), (118, 81, 0, 474), (125, 67, 0, 478), (128, 68, 0, 482), (131, 82, 0, 486), (134, 104, 1, 490), (140, 102, 1, 504), (143, 103, 1, 505), (147, 101, 1, 506), (154, 19, 0, 384), (158, 169, 0, 325), (164, 171, 0, 335), (168, 17, 0, 373), (173, 76, 1, 411), (177, 78, 1, 418)], [(3, 0, 6, 141), (24, 0, 5, 576), (34, 86, 0, 577), (37, 87, 1, 581), (44, 88, 0, 584), (67, 169, 0, 599), (73, 90, 0, 600), (77, 171, 0, 604), (86, 91, 0, 717), (98, 93, 0, 657), (101, 95, 1, 658)], [(33, 104, 1, 694), (37, 89, 0, 695), (43, 18, 0, 442), (49, 101, 1, 443), (52, 103, 1, 449), (56, 102, 1, 446)], [(1, 0, 6, 816), (54, 107, 0, 817), (63, 130, 0, 1001), (67, 132, 0, 1009), (71, 133, 0, 1013), (74, 131, 0, 1005), (80, 109, 0, 825), (86, 115, 0, 852), (90, 110, 0, 829), (98, 108, 0, 821), (102, 113, 0, 842), (106, 114, 0, 848), (109, 116, 0, 856), (112, 119, 0, 868), (116, 124, 0, 887), (119, 121, 0, 876), (122, 122, 1, 880), (125, 123, 0, 883), (129, 126, 0, 896), (132, 127, 0, 900), (136, 118, 0, 864), (140, 120, 0, 872), (143, 125, 0, 892), (147, 112, 0, 838), (150, 117, 0, 860), (153, 111, 0, 834), (165, 140, 0, 1041), (175, 139, 0, 1037), (182, 142, 0, 1049), (194, 138, 0, 1033), (197, 145, 0, 1061), (202, 152, 1, 1093), (205, 146, 0, 1067), (208, 137, 0, 1029), (211, 144, 0, 1057), (221, 149, 0, 1079), (228, 150, 0, 1085), (232, 151, 0, 1089), (236, 143, 0, 1053), (243, 141, 0, 1045), (247, 159, 0, 1122), (259, 158, 0, 1118), (265, 154, 0, 1102), (268, 155, 0, 1106), (271, 156, 0, 1110), (275, 157, 0, 1114), (278, 148, 0, 1075), (281, 153, 0, 1098), (284, 147, 0, 1071), (287, 136, 0, 1025), (290, 166, 0, 1153), (293, 165, 0, 1149), (296, 164, 0, 1161)], [(335, 170, 0, 329), (492, 172, 0, 339), (495, 174, 1, 343), (1059, 175, 1, 351)], [(9, 173, 1, 346)], [], [], []]
def kM (o idx : Nat) : Option (Nat × Nat) := (ex_lk (kMl.getD o []) idx).map (fun q => (q.1, q.2.1))
def nS : Nat := 33
def kSB : List (List Int32) := [[98, 108, 111, 99, 107], [105, 110, 116], [110, 97, 109, 101], [112, 97, 105, 114], [108, 111, 110, 103], [102, 105, 101, 108, 100], [99, 111, 100, 101], [97, 116, 116, 97, 99, 104], [125], [114, 97, 119], [123], [98, 108, 111, 99, 107], [105, 110, 116], [110, 97, 109, 101], [112, 97, 105, 114], [108, 111, 110, 103], [102, 105, 101, 108, 100], [97, 116, 116, 97, 99, 104], [99, 111, 100, 101], [123], [114, 97, 119], [125], [110, 111, 112], [112, 117, 115, 104], [108, 111, 97, 100], [97, 100, 100], [115, 117, 98], [100, 117, 112], [106, 117, 109, 112], [122, 101, 114, 111], [99, 97, 108, 108], [114, 101, 116], [112, 105, 99, 107]]
def kX (j : Nat) : List Int32 := kSB.getD j []
def kSR : List (String × Nat × String × Nat) := [("ExactLoom$Maker", 65, "block", 0), ("ExactLoom$Maker", 128, "int", 1), ("ExactLoom$Maker", 130, "name", 2), ("ExactLoom$Maker", 132, "pair", 3), ("ExactLoom$Maker", 134, "long", 4), ("ExactLoom$Maker", 136, "field", 5), ("ExactLoom$Maker", 138, "code", 6), ("ExactLoom$Maker", 140, "attach", 7), ("ExactLoom$Maker", 168, "}", 8), ("ExactLoom$Maker", 176, "raw", 9), ("ExactLoom$Maker", 193, "{", 10), ("ExactLoom$Scribe", 33, "block", 11), ("ExactLoom$Scribe", 79, "int", 12), ("ExactLoom$Scribe", 85, "name", 13), ("ExactLoom$Scribe", 90, "pair", 14), ("ExactLoom$Scribe", 92, "long", 15), ("ExactLoom$Scribe", 94, "field", 16), ("ExactLoom$Scribe", 96, "attach", 17), ("ExactLoom$Scribe", 101, "code", 18), ("ExactLoom$Scribe", 103, "{", 19), ("ExactLoom$Scribe", 121, "raw", 20), ("ExactLoom$Scribe", 123, "}", 21), ("ExactLoom$Instructions", 9, "nop", 22), ("ExactLoom$Instructions", 11, "push", 23), ("ExactLoom$Instructions", 13, "load", 24), ("ExactLoom$Instructions", 15, "add", 25), ("ExactLoom$Instructions", 17, "sub", 26), ("ExactLoom$Instructions", 19, "dup", 27), ("ExactLoom$Instructions", 21, "jump", 28), ("ExactLoom$Instructions", 23, "zero", 29), ("ExactLoom$Instructions", 25, "call", 30), ("ExactLoom$Instructions", 27, "ret", 31), ("ExactLoom$Instructions", 29, "pick", 32)]
