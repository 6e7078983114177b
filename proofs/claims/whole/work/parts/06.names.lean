/-! NAMES, FIELDS, LINKS: the rows of tables_1 that the code uses, by their places (printed by a program) -/
def cns9 : List String := ["HiddenOrLost$Beliefs", "HiddenOrLost$Book", "HiddenOrLost$Draws", "HiddenOrLost$History", "HiddenOrLost$Image", "HiddenOrLost$Label", "HiddenOrLost$Land", "HiddenOrLost$Route", "HiddenOrLost$Sentence", "HiddenOrLost$State", "HiddenOrLost$Tape", "HiddenOrLost", "HiddenOrLostModel", "java/util/NoSuchElementException", "HiddenOrLostLaw", "java/lang/Math", "java/lang/Integer", "java/util/Arrays"]
def cn9 (o : Nat) : String := cns9.getD o ""
def fs9 : List (List (String × String × String × Bool × FieldType)) := [
  [("HiddenOrLost$Beliefs", "weights", "[J", true, (.array .long)), ("HiddenOrLost$Beliefs", "total", "J", false, .long)],
  [("HiddenOrLost$Book", "acts", "[I", true, (.array .int)), ("HiddenOrLost$Book", "firsts", "[I", true, (.array .int)), ("HiddenOrLost$Book", "seconds", "[I", true, (.array .int)), ("HiddenOrLost$Book", "thirds", "[I", true, (.array .int)), ("HiddenOrLost$Book", "lines", "I", false, .int), ("HiddenOrLost$Book", "why", "I", false, .int)],
  [("HiddenOrLost$Draws", "x", "I", false, .int)],
  [("HiddenOrLost$History", "states", "[LHiddenOrLost$State;", true, (.array (.object "HiddenOrLost$State"))), ("HiddenOrLost$History", "first", "I", false, .int), ("HiddenOrLost$History", "size", "I", false, .int)],
  [("HiddenOrLost$Image", "land", "LHiddenOrLost$Land;", true, (.object "HiddenOrLost$Land")), ("HiddenOrLost$Image", "state", "LHiddenOrLost$State;", true, (.object "HiddenOrLost$State")), ("HiddenOrLost$Image", "sentence", "LHiddenOrLost$Sentence;", true, (.object "HiddenOrLost$Sentence")), ("HiddenOrLost$Image", "kept", "Z", false, .boolean)],
  [("HiddenOrLost$Label", "signs", "[B", true, (.array .byte)), ("HiddenOrLost$Label", "length", "I", false, .int)],
  [("HiddenOrLost$Land", "personNames", "[J", true, (.array .long)), ("HiddenOrLost$Land", "findNames", "[J", true, (.array .long)), ("HiddenOrLost$Land", "fearNames", "[J", true, (.array .long)), ("HiddenOrLost$Land", "facts", "[I", true, (.array .int)), ("HiddenOrLost$Land", "fearYears", "[I", true, (.array .int)), ("HiddenOrLost$Land", "hints", "[I", true, (.array .int)), ("HiddenOrLost$Land", "priors", "[I", true, (.array .int)), ("HiddenOrLost$Land", "gets", "[I", true, (.array .int)), ("HiddenOrLost$Land", "wide", "I", false, .int), ("HiddenOrLost$Land", "high", "I", false, .int), ("HiddenOrLost$Land", "risk", "I", false, .int), ("HiddenOrLost$Land", "persons", "I", false, .int), ("HiddenOrLost$Land", "finds", "I", false, .int), ("HiddenOrLost$Land", "fears", "I", false, .int), ("HiddenOrLost$Land", "lines", "I", false, .int), ("HiddenOrLost$Land", "toldOnce", "I", false, .int)],
  [("HiddenOrLost$Route", "worths", "[I", true, (.array .int)), ("HiddenOrLost$Route", "visits", "[I", true, (.array .int)), ("HiddenOrLost$Route", "path", "[I", true, (.array .int)), ("HiddenOrLost$Route", "mostPath", "[I", true, (.array .int)), ("HiddenOrLost$Route", "greatestWorth", "I", false, .int), ("HiddenOrLost$Route", "length", "I", false, .int), ("HiddenOrLost$Route", "most", "I", false, .int)],
  [("HiddenOrLost$Sentence", "steps", "[I", true, (.array .int)), ("HiddenOrLost$Sentence", "firsts", "[I", true, (.array .int)), ("HiddenOrLost$Sentence", "seconds", "[I", true, (.array .int)), ("HiddenOrLost$Sentence", "stack", "[I", true, (.array .int)), ("HiddenOrLost$Sentence", "size", "I", false, .int), ("HiddenOrLost$Sentence", "ones", "I", false, .int)],
  [("HiddenOrLost$State", "x", "[I", true, (.array .int)), ("HiddenOrLost$State", "y", "[I", true, (.array .int)), ("HiddenOrLost$State", "deep", "[I", true, (.array .int)), ("HiddenOrLost$State", "status", "[I", true, (.array .int)), ("HiddenOrLost$State", "who", "[I", true, (.array .int)), ("HiddenOrLost$State", "coin", "[I", true, (.array .int)), ("HiddenOrLost$State", "digs", "[I", true, (.array .int)), ("HiddenOrLost$State", "founds", "[I", true, (.array .int)), ("HiddenOrLost$State", "dug", "[I", true, (.array .int)), ("HiddenOrLost$State", "night", "I", false, .int), ("HiddenOrLost$State", "ploughs", "I", false, .int)],
  [("HiddenOrLost$Tape", "bytes", "[B", true, (.array .byte)), ("HiddenOrLost$Tape", "words", "[J", true, (.array .long)), ("HiddenOrLost$Tape", "types", "[I", true, (.array .int)), ("HiddenOrLost$Tape", "places", "[I", true, (.array .int)), ("HiddenOrLost$Tape", "values", "[J", true, (.array .long)), ("HiddenOrLost$Tape", "length", "I", false, .int), ("HiddenOrLost$Tape", "place", "I", false, .int), ("HiddenOrLost$Tape", "last", "I", false, .int), ("HiddenOrLost$Tape", "next", "I", false, .int), ("HiddenOrLost$Tape", "type", "I", false, .int), ("HiddenOrLost$Tape", "value", "J", false, .long), ("HiddenOrLost$Tape", "word", "I", false, .int), ("HiddenOrLost$Tape", "taken", "I", false, .int), ("HiddenOrLost$Tape", "at", "I", false, .int), ("HiddenOrLost$Tape", "faultKind", "I", false, .int), ("HiddenOrLost$Tape", "faultAt", "I", false, .int)],
  [("HiddenOrLost", "tape", "LHiddenOrLost$Tape;", true, (.object "HiddenOrLost$Tape")), ("HiddenOrLost", "land", "LHiddenOrLost$Land;", false, (.object "HiddenOrLost$Land")), ("HiddenOrLost", "spareLand", "LHiddenOrLost$Land;", false, (.object "HiddenOrLost$Land")), ("HiddenOrLost", "state", "LHiddenOrLost$State;", true, (.object "HiddenOrLost$State")), ("HiddenOrLost", "scratch", "LHiddenOrLost$State;", true, (.object "HiddenOrLost$State")), ("HiddenOrLost", "sentenceNow", "LHiddenOrLost$Sentence;", false, (.object "HiddenOrLost$Sentence")), ("HiddenOrLost", "spareSentence", "LHiddenOrLost$Sentence;", false, (.object "HiddenOrLost$Sentence")), ("HiddenOrLost", "latestBook", "LHiddenOrLost$Book;", true, (.object "HiddenOrLost$Book")), ("HiddenOrLost", "history", "LHiddenOrLost$History;", true, (.object "HiddenOrLost$History")), ("HiddenOrLost", "firstImage", "LHiddenOrLost$Image;", true, (.object "HiddenOrLost$Image")), ("HiddenOrLost", "secondImage", "LHiddenOrLost$Image;", true, (.object "HiddenOrLost$Image")), ("HiddenOrLost", "draws", "LHiddenOrLost$Draws;", true, (.object "HiddenOrLost$Draws")), ("HiddenOrLost", "beliefs", "LHiddenOrLost$Beliefs;", true, (.object "HiddenOrLost$Beliefs")), ("HiddenOrLost", "latestRoute", "LHiddenOrLost$Route;", true, (.object "HiddenOrLost$Route")), ("HiddenOrLost", "latestLabel", "LHiddenOrLost$Label;", true, (.object "HiddenOrLost$Label")), ("HiddenOrLost", "bookTold", "[I", true, (.array .int)), ("HiddenOrLost", "coins", "[I", true, (.array .int)), ("HiddenOrLost", "faultKind", "I", false, .int), ("HiddenOrLost", "earlyCoins", "I", false, .int), ("HiddenOrLost", "firstPart", "I", false, .int)],
  [("HiddenOrLostModel", "thrown", "I", false, .int), ("HiddenOrLostModel", "tape", "[I", true, (.array .int)), ("HiddenOrLostModel", "taped", "I", false, .int), ("HiddenOrLostModel", "size", "I", false, .int), ("HiddenOrLostModel", "limit", "I", false, .int), ("HiddenOrLostModel", "to", "I", false, .int), ("HiddenOrLostModel", "from", "I", false, .int), ("HiddenOrLostModel", "kind", "I", false, .int), ("HiddenOrLostModel", "number", "I", false, .int), ("HiddenOrLostModel", "sign", "I", false, .int), ("HiddenOrLostModel", "fault", "I", false, .int), ("HiddenOrLostModel", "place", "I", false, .int), ("HiddenOrLostModel", "word", "J", false, .long), ("HiddenOrLostModel", "told", "I", false, .int), ("HiddenOrLostModel", "now", "[I", true, (.array .int)), ("HiddenOrLostModel", "read", "[I", true, (.array .int)), ("HiddenOrLostModel", "kept", "[I", true, (.array .int)), ("HiddenOrLostModel", "snaps", "[I", true, (.array .int)), ("HiddenOrLostModel", "aside", "[I", true, (.array .int)), ("HiddenOrLostModel", "name", "[J", true, (.array .long)), ("HiddenOrLostModel", "readName", "[J", true, (.array .long)), ("HiddenOrLostModel", "keptName", "[J", true, (.array .long)), ("HiddenOrLostModel", "isKept", "[Z", true, (.array .boolean)), ("HiddenOrLostModel", "onces", "[Z", true, (.array .boolean)), ("HiddenOrLostModel", "snapMany", "I", false, .int), ("HiddenOrLostModel", "seed", "I", false, .int), ("HiddenOrLostModel", "weight", "[J", true, (.array .long)), ("HiddenOrLostModel", "going", "[I", true, (.array .int)), ("HiddenOrLostModel", "route", "[I", true, (.array .int)), ("HiddenOrLostModel", "been", "[I", true, (.array .int)), ("HiddenOrLostModel", "routeLong", "I", false, .int), ("HiddenOrLostModel", "routeWorth", "I", false, .int), ("HiddenOrLostModel", "coins", "[I", true, (.array .int)), ("HiddenOrLostModel", "early", "I", false, .int), ("HiddenOrLostModel", "parted", "I", false, .int), ("HiddenOrLostModel", "text", "[I", true, (.array .int)), ("HiddenOrLostModel", "texts", "I", false, .int), ("HiddenOrLostModel", "line", "[I", true, (.array .int)), ("HiddenOrLostModel", "written", "[I", true, (.array .int)), ("HiddenOrLostModel", "lineMany", "I", false, .int), ("HiddenOrLostModel", "hasWritten", "Z", false, .boolean), ("HiddenOrLostModel", "node", "[I", true, (.array .int)), ("HiddenOrLostModel", "nodes", "I", false, .int), ("HiddenOrLostModel", "onesMany", "I", false, .int), ("HiddenOrLostModel", "within", "I", false, .int), ("HiddenOrLostModel", "top", "I", false, .int)],
  []]
def fr9 (ci k : Nat) : String × String × String × Bool × FieldType := (fs9.getD ci []).getD k ("", "", "", false, .int)
def T9 (ci : Nat) : u_T := fun k => ((fr9 ci k).1, (fr9 ci k).2.1, (fr9 ci k).2.2.1, (fr9 ci k).2.2.2.1)
def ty9 (ci k : Nat) : FieldType := (fr9 ci k).2.2.2.2
def N9 (ci : Nat) : Nat := (fs9.getD ci []).length
def tcf9 (t : FieldType) : Nat := match t with
  | .int => 0
  | .long => 1
  | .boolean => 3
  | .object _ => 2
  | .array _ => 2
  | _ => 9
def tc9 (ci k : Nat) : Nat := tcf9 (ty9 ci k)
def cl9 : List vw_C := (List.range 14).map fun ci => (cn9 ci, T9 ci, N9 ci)
theorem cl9_at {ci : Nat} (h : ci < 14) : cl9[ci]? = some (cn9 ci, T9 ci, N9 ci) := by simp [cl9, h]
theorem cl9_lt {ci : Nat} {r : vw_C} (h : cl9[ci]? = some r) : ci < 14 ∧ r = (cn9 ci, T9 ci, N9 ci) := by
  have h1 : ci < cl9.length := (List.getElem?_eq_some_iff.mp h).1
  have h2 : ci < 14 := by simpa [cl9] using h1
  exact ⟨h2, Option.some.inj (h.symm.trans (cl9_at h2))⟩
set_option maxRecDepth 100000 in
theorem ty9_ok : ∀ ci, ci < 14 → ∀ k, k < N9 ci → parseFieldDescriptor (T9 ci k).2.2.1 = some (ty9 ci k) := by decide +kernel
set_option maxRecDepth 100000 in
theorem nm9 : ∀ ci, ci < 14 → ∀ a, a < N9 ci → ∀ b, b < N9 ci → a ≠ b → (T9 ci a).2.1 ≠ (T9 ci b).2.1 := by decide +kernel
def fp9 : List (List Nat) := [[546, 548], [462, 464, 466, 468, 470, 472], [533], [488, 490, 492], [515, 517, 519, 521], [592, 594], [330, 332, 334, 336, 338, 340, 342, 344, 346, 348, 350, 352, 354, 356, 358, 360], [567, 569, 571, 573, 575, 577, 579], [436, 438, 440, 442, 444, 446], [400, 402, 404, 406, 408, 410, 412, 414, 416, 418, 420], [243, 245, 247, 249, 251, 253, 255, 257, 259, 261, 263, 265, 267, 269, 271, 273], [617, 619, 621, 623, 625, 627, 629, 631, 633, 635, 637, 639, 641, 643, 645, 647, 649, 651, 653, 655], [1512, 1514, 1516, 1518, 1520, 1522, 1524, 1526, 1528, 1530, 1532, 1534, 1536, 1538, 1540, 1542, 1544, 1546, 1548, 1550, 1552, 1554, 1556, 1558, 1560, 1562, 1564, 1566, 1568, 1570, 1572, 1574, 1576, 1578, 1580, 1582, 1584, 1586, 1588, 1590, 1592, 1594, 1596, 1598, 1600, 1602], []]
set_option maxRecDepth 100000 in
theorem uin9_ : ∀ ci, ci < 14 → ∀ k, k < N9 ci → lw_tbl[(fp9.getD ci []).getD k 0]? = some (u_lay (cn9 ci) (T9 ci) k) := by decide +kernel
theorem uin9 {ci : Nat} (h : ci < 14) : ∀ w ∈ u_ws (cn9 ci) (T9 ci) (N9 ci), w ∈ lw_tbl := by
  intro w hw
  obtain ⟨k, hk, rfl⟩ := List.mem_map.mp hw
  exact List.mem_of_getElem? (uin9_ ci h k (List.mem_range.mp hk))
abbrev MI9 : Type := Nat × MethodName × ByteArray × Nat × Option FieldType × Bool
def mi9_0 : List MI9 := [
  (0, ⟨"HiddenOrLost$Beliefs", "<init>", "()V"⟩, prog_2_method_1_code, 1, none, false),
  (0, ⟨"HiddenOrLost$Beliefs", "weigh", "(LHiddenOrLost$Land;LHiddenOrLost$State;I)V"⟩, prog_2_method_2_code, 8, none, false),
  (0, ⟨"HiddenOrLost$Beliefs", "likeliest", "()I"⟩, prog_2_method_3_code, 3, (some .int), false),
  (0, ⟨"HiddenOrLost$Beliefs", "surestKind", "(LHiddenOrLost$Land;)I"⟩, prog_2_method_5_code, 4, (some .int), false),
  (0, ⟨"HiddenOrLost$Beliefs", "rightGuesses", "(LHiddenOrLost$Land;I)J"⟩, prog_2_method_4_code, 9, (some .long), false),
  (0, ⟨"HiddenOrLost$Beliefs", "tellingPays", "(LHiddenOrLost$Land;I)Z"⟩, prog_2_method_7_code, 7, (some .boolean), false),
  (0, ⟨"HiddenOrLost$Beliefs", "shareOf", "(LHiddenOrLost$Land;I)J"⟩, prog_2_method_6_code, 6, (some .long), false),
  (0, ⟨"HiddenOrLost$Beliefs", "termOf", "(JJI)J"⟩, prog_2_method_8_code, 7, (some .long), true),
  (0, ⟨"HiddenOrLost$Beliefs", "commonDivisor", "(JJ)J"⟩, prog_2_method_9_code, 11, (some .long), true),
  (1, ⟨"HiddenOrLost$Book", "<init>", "()V"⟩, prog_3_method_1_code, 1, none, false),
  (1, ⟨"HiddenOrLost$Book", "read", "(LHiddenOrLost$Tape;LHiddenOrLost$Land;)Z"⟩, prog_3_method_2_code, 4, (some .boolean), false),
  (1, ⟨"HiddenOrLost$Book", "readLine", "(LHiddenOrLost$Tape;LHiddenOrLost$Land;)Z"⟩, prog_3_method_3_code, 6, (some .boolean), false),
  (1, ⟨"HiddenOrLost$Book", "readWork", "(LHiddenOrLost$Tape;)Z"⟩, prog_3_method_4_code, 3, (some .boolean), false),
  (1, ⟨"HiddenOrLost$Book", "readDigging", "(LHiddenOrLost$Tape;)Z"⟩, prog_3_method_5_code, 2, (some .boolean), false),
  (1, ⟨"HiddenOrLost$Book", "readCell", "(LHiddenOrLost$Tape;)Z"⟩, prog_3_method_7_code, 2, (some .boolean), false),
  (1, ⟨"HiddenOrLost$Book", "readHandling", "(LHiddenOrLost$Tape;LHiddenOrLost$Land;)Z"⟩, prog_3_method_6_code, 3, (some .boolean), false),
  (1, ⟨"HiddenOrLost$Book", "readReceiver", "(LHiddenOrLost$Tape;LHiddenOrLost$Land;)Z"⟩, prog_3_method_8_code, 3, (some .boolean), false),
  (1, ⟨"HiddenOrLost$Book", "live", "(LHiddenOrLost$Land;LHiddenOrLost$State;LHiddenOrLost$Draws;)I"⟩, prog_3_method_9_code, 5, (some .int), false),
  (1, ⟨"HiddenOrLost$Book", "whyWrong", "(LHiddenOrLost$Land;LHiddenOrLost$State;I)I"⟩, prog_3_method_10_code, 6, (some .int), false),
  (1, ⟨"HiddenOrLost$Book", "behind", "(II)I"⟩, prog_3_method_11_code, 2, (some .int), true),
  (1, ⟨"HiddenOrLost$Book", "liveLine", "(LHiddenOrLost$Land;LHiddenOrLost$State;LHiddenOrLost$Draws;I)V"⟩, prog_3_method_12_code, 6, none, false),
  (2, ⟨"HiddenOrLost$Draws", "<init>", "()V"⟩, prog_4_method_1_code, 1, none, false),
  (2, ⟨"HiddenOrLost$Draws", "below", "(I)I"⟩, prog_4_method_2_code, 2, (some .int), false),
  (3, ⟨"HiddenOrLost$History", "<init>", "()V"⟩, prog_5_method_1_code, 2, none, false),
  (3, ⟨"HiddenOrLost$History", "clear", "()V"⟩, prog_5_method_2_code, 1, none, false),
  (3, ⟨"HiddenOrLost$History", "keep", "(LHiddenOrLost$State;)V"⟩, prog_5_method_3_code, 3, none, false),
  (3, ⟨"HiddenOrLost$History", "takeBack", "(LHiddenOrLost$State;)Z"⟩, prog_5_method_4_code, 3, (some .boolean), false),
  (4, ⟨"HiddenOrLost$Image", "<init>", "()V"⟩, prog_6_method_1_code, 1, none, false),
  (5, ⟨"HiddenOrLost$Label", "<init>", "()V"⟩, prog_7_method_1_code, 1, none, false),
  (5, ⟨"HiddenOrLost$Label", "write", "(LHiddenOrLost$Land;LHiddenOrLost$State;I)V"⟩, prog_7_method_2_code, 4, none, false),
  (5, ⟨"HiddenOrLost$Label", "addName", "(J)V"⟩, prog_7_method_5_code, 5, none, false),
  (5, ⟨"HiddenOrLost$Label", "add", "(I)V"⟩, prog_7_method_3_code, 2, none, false),
  (5, ⟨"HiddenOrLost$Label", "addNumber", "(I)V"⟩, prog_7_method_6_code, 2, none, false),
  (5, ⟨"HiddenOrLost$Label", "addText", "(Ljava/lang/String;)V"⟩, prog_7_method_4_code, 3, none, false),
  (6, ⟨"HiddenOrLost$Land", "<init>", "()V"⟩, prog_8_method_1_code, 1, none, false),
  (6, ⟨"HiddenOrLost$Land", "clear", "()V"⟩, prog_8_method_2_code, 1, none, false),
  (6, ⟨"HiddenOrLost$Land", "read", "(LHiddenOrLost$Tape;)Z"⟩, prog_8_method_16_code, 3, (some .boolean), false),
  (6, ⟨"HiddenOrLost$Land", "readLine", "(LHiddenOrLost$Tape;)Z"⟩, prog_8_method_17_code, 2, (some .boolean), false),
  (6, ⟨"HiddenOrLost$Land", "readSize", "(LHiddenOrLost$Tape;)Z"⟩, prog_8_method_19_code, 2, (some .boolean), false),
  (6, ⟨"HiddenOrLost$Land", "takeOnce", "(LHiddenOrLost$Tape;I)Z"⟩, prog_8_method_18_code, 3, (some .boolean), false)]
def mi9_1 : List MI9 := [
  (6, ⟨"HiddenOrLost$Land", "readPerson", "(LHiddenOrLost$Tape;)Z"⟩, prog_8_method_21_code, 2, (some .boolean), false),
  (6, ⟨"HiddenOrLost$Land", "reachNewName", "(LHiddenOrLost$Tape;Z)Z"⟩, prog_8_method_20_code, 4, (some .boolean), false),
  (6, ⟨"HiddenOrLost$Land", "personNamed", "(J)I"⟩, prog_8_method_13_code, 3, (some .int), false),
  (6, ⟨"HiddenOrLost$Land", "placeOf", "([JIJ)I"⟩, prog_8_method_15_code, 5, (some .int), true),
  (6, ⟨"HiddenOrLost$Land", "findNamed", "(J)I"⟩, prog_8_method_14_code, 3, (some .int), false),
  (6, ⟨"HiddenOrLost$Land", "readFind", "(LHiddenOrLost$Tape;)Z"⟩, prog_8_method_22_code, 4, (some .boolean), false),
  (6, ⟨"HiddenOrLost$Land", "mostOf", "(I)I"⟩, prog_8_method_23_code, 2, (some .int), false),
  (6, ⟨"HiddenOrLost$Land", "readFear", "(LHiddenOrLost$Tape;)Z"⟩, prog_8_method_24_code, 3, (some .boolean), false),
  (6, ⟨"HiddenOrLost$Land", "readPair", "(LHiddenOrLost$Tape;III[I)Z"⟩, prog_8_method_25_code, 8, (some .boolean), false),
  (6, ⟨"HiddenOrLost$Land", "readPrior", "(LHiddenOrLost$Tape;)Z"⟩, prog_8_method_26_code, 3, (some .boolean), false),
  (6, ⟨"HiddenOrLost$Land", "readRisk", "(LHiddenOrLost$Tape;)Z"⟩, prog_8_method_27_code, 2, (some .boolean), false),
  (6, ⟨"HiddenOrLost$Land", "factOf", "(II)I"⟩, prog_8_method_9_code, 3, (some .int), false),
  (6, ⟨"HiddenOrLost$Land", "hasPerson", "(I)Z"⟩, prog_8_method_4_code, 2, (some .boolean), false),
  (6, ⟨"HiddenOrLost$Land", "hasCell", "(II)Z"⟩, prog_8_method_6_code, 3, (some .boolean), false),
  (6, ⟨"HiddenOrLost$Land", "valueOf", "(I)I"⟩, prog_8_method_12_code, 4, (some .int), false),
  (6, ⟨"HiddenOrLost$Land", "hasFind", "(I)Z"⟩, prog_8_method_5_code, 2, (some .boolean), false),
  (6, ⟨"HiddenOrLost$Land", "columnOf", "(I)I"⟩, prog_8_method_7_code, 2, (some .int), false),
  (6, ⟨"HiddenOrLost$Land", "rowOf", "(I)I"⟩, prog_8_method_8_code, 2, (some .int), false),
  (6, ⟨"HiddenOrLost$Land", "fearFrom", "(I)I"⟩, prog_8_method_10_code, 2, (some .int), false),
  (6, ⟨"HiddenOrLost$Land", "fearTo", "(I)I"⟩, prog_8_method_11_code, 2, (some .int), false),
  (6, ⟨"HiddenOrLost$Land", "copy", "(LHiddenOrLost$Land;)V"⟩, prog_8_method_3_code, 2, none, false),
  (7, ⟨"HiddenOrLost$Route", "<init>", "()V"⟩, prog_9_method_1_code, 1, none, false),
  (7, ⟨"HiddenOrLost$Route", "search", "(LHiddenOrLost$Land;LHiddenOrLost$State;II)V"⟩, prog_9_method_2_code, 8, none, false),
  (7, ⟨"HiddenOrLost$Route", "walk", "(LHiddenOrLost$Land;III)V"⟩, prog_9_method_3_code, 8, none, false),
  (7, ⟨"HiddenOrLost$Route", "keepIfMore", "(I)V"⟩, prog_9_method_4_code, 2, none, false),
  (8, ⟨"HiddenOrLost$Sentence", "<init>", "()V"⟩, prog_10_method_1_code, 1, none, false),
  (8, ⟨"HiddenOrLost$Sentence", "clear", "()V"⟩, prog_10_method_2_code, 1, none, false),
  (8, ⟨"HiddenOrLost$Sentence", "read", "(LHiddenOrLost$Tape;LHiddenOrLost$Land;)Z"⟩, prog_10_method_4_code, 3, (some .boolean), false),
  (8, ⟨"HiddenOrLost$Sentence", "readCond", "(LHiddenOrLost$Tape;LHiddenOrLost$Land;I)Z"⟩, prog_10_method_6_code, 5, (some .boolean), false),
  (8, ⟨"HiddenOrLost$Sentence", "readAll", "(LHiddenOrLost$Tape;LHiddenOrLost$Land;I)Z"⟩, prog_10_method_7_code, 5, (some .boolean), false),
  (8, ⟨"HiddenOrLost$Sentence", "readOne", "(LHiddenOrLost$Tape;LHiddenOrLost$Land;I)Z"⟩, prog_10_method_9_code, 5, (some .boolean), false),
  (8, ⟨"HiddenOrLost$Sentence", "beginsOne", "(LHiddenOrLost$Tape;)Z"⟩, prog_10_method_8_code, 1, (some .boolean), true),
  (8, ⟨"HiddenOrLost$Sentence", "add", "(III)V"⟩, prog_10_method_5_code, 4, none, false),
  (8, ⟨"HiddenOrLost$Sentence", "readHolder", "(LHiddenOrLost$Tape;LHiddenOrLost$Land;)Z"⟩, prog_10_method_10_code, 4, (some .boolean), false),
  (8, ⟨"HiddenOrLost$Sentence", "readCompare", "(LHiddenOrLost$Tape;I)Z"⟩, prog_10_method_11_code, 4, (some .boolean), false),
  (8, ⟨"HiddenOrLost$Sentence", "bitsOf", "(LHiddenOrLost$Land;LHiddenOrLost$State;)I"⟩, prog_10_method_12_code, 7, (some .int), false),
  (8, ⟨"HiddenOrLost$Sentence", "bitsOfStep", "(LHiddenOrLost$Land;LHiddenOrLost$State;I)I"⟩, prog_10_method_13_code, 6, (some .int), false),
  (8, ⟨"HiddenOrLost$Sentence", "holds", "(LHiddenOrLost$Land;LHiddenOrLost$State;II)Z"⟩, prog_10_method_14_code, 6, (some .boolean), false),
  (8, ⟨"HiddenOrLost$Sentence", "compares", "(II)Z"⟩, prog_10_method_15_code, 3, (some .boolean), false),
  (8, ⟨"HiddenOrLost$Sentence", "copy", "(LHiddenOrLost$Sentence;)V"⟩, prog_10_method_3_code, 2, none, false)]
def mi9_2 : List MI9 := [
  (9, ⟨"HiddenOrLost$State", "<init>", "()V"⟩, prog_11_method_1_code, 1, none, false),
  (9, ⟨"HiddenOrLost$State", "begin", "(LHiddenOrLost$Land;)V"⟩, prog_11_method_2_code, 3, none, false),
  (9, ⟨"HiddenOrLost$State", "hadBy", "(LHiddenOrLost$Land;I)I"⟩, prog_11_method_5_code, 5, (some .int), false),
  (9, ⟨"HiddenOrLost$State", "inGroundOf", "(LHiddenOrLost$Land;II)I"⟩, prog_11_method_6_code, 6, (some .int), false),
  (9, ⟨"HiddenOrLost$State", "worthOf", "(LHiddenOrLost$Land;II)I"⟩, prog_11_method_10_code, 7, (some .int), false),
  (9, ⟨"HiddenOrLost$State", "canDig", "(II)Z"⟩, prog_11_method_13_code, 4, (some .boolean), false),
  (9, ⟨"HiddenOrLost$State", "bitsOf", "(LHiddenOrLost$Land;I)I"⟩, prog_11_method_4_code, 5, (some .int), false),
  (9, ⟨"HiddenOrLost$State", "sumOf", "([I)I"⟩, prog_11_method_7_code, 4, (some .int), false),
  (9, ⟨"HiddenOrLost$State", "toldValue", "(LHiddenOrLost$Land;)I"⟩, prog_11_method_8_code, 2, (some .int), false),
  (9, ⟨"HiddenOrLost$State", "copy", "(LHiddenOrLost$State;)V"⟩, prog_11_method_3_code, 2, none, false),
  (9, ⟨"HiddenOrLost$State", "digCell", "(LHiddenOrLost$Land;III)I"⟩, prog_11_method_14_code, 9, (some .int), false),
  (9, ⟨"HiddenOrLost$State", "whyNotMoved", "(I)I"⟩, prog_11_method_15_code, 2, (some .int), false),
  (9, ⟨"HiddenOrLost$State", "sellFind", "(LHiddenOrLost$Land;I)V"⟩, prog_11_method_17_code, 4, none, false),
  (9, ⟨"HiddenOrLost$State", "layFind", "(III)V"⟩, prog_11_method_18_code, 4, none, false),
  (9, ⟨"HiddenOrLost$State", "whyNotGiven", "(II)I"⟩, prog_11_method_16_code, 3, (some .int), false),
  (9, ⟨"HiddenOrLost$State", "turnOver", "(LHiddenOrLost$Land;LHiddenOrLost$Draws;)I"⟩, prog_11_method_19_code, 5, (some .int), false),
  (9, ⟨"HiddenOrLost$State", "shift", "(LHiddenOrLost$Land;II)Z"⟩, prog_11_method_20_code, 6, (some .boolean), false),
  (9, ⟨"HiddenOrLost$State", "passNights", "(LHiddenOrLost$Land;LHiddenOrLost$Draws;I)I"⟩, prog_11_method_21_code, 6, (some .int), false),
  (9, ⟨"HiddenOrLost$State", "passNight", "(LHiddenOrLost$Land;LHiddenOrLost$Draws;)V"⟩, prog_11_method_22_code, 7, none, false),
  (9, ⟨"HiddenOrLost$State", "stepsBetween", "(LHiddenOrLost$Land;I)I"⟩, prog_11_method_11_code, 6, (some .int), false),
  (9, ⟨"HiddenOrLost$State", "gatherTold", "(LHiddenOrLost$Land;II)V"⟩, prog_11_method_12_code, 5, none, false),
  (9, ⟨"HiddenOrLost$State", "latestTold", "(LHiddenOrLost$Land;)I"⟩, prog_11_method_9_code, 4, (some .int), false),
  (10, ⟨"HiddenOrLost$Tape", "<init>", "()V"⟩, prog_12_method_1_code, 6, none, false),
  (10, ⟨"HiddenOrLost$Tape", "withLetter", "(JI)J"⟩, prog_12_method_2_code, 3, (some .long), true),
  (10, ⟨"HiddenOrLost$Tape", "put", "(I)V"⟩, prog_12_method_3_code, 3, none, false),
  (10, ⟨"HiddenOrLost$Tape", "begin", "(I)V"⟩, prog_12_method_4_code, 3, none, false),
  (10, ⟨"HiddenOrLost$Tape", "skipBlanks", "()V"⟩, prog_12_method_5_code, 1, none, false),
  (10, ⟨"HiddenOrLost$Tape", "readToken", "(I)V"⟩, prog_12_method_6_code, 3, none, false),
  (10, ⟨"HiddenOrLost$Tape", "goesOn", "(I)Z"⟩, prog_12_method_11_code, 1, (some .boolean), true),
  (10, ⟨"HiddenOrLost$Tape", "isDigit", "(I)Z"⟩, prog_12_method_10_code, 1, (some .boolean), true),
  (10, ⟨"HiddenOrLost$Tape", "readRun", "(I)V"⟩, prog_12_method_7_code, 8, none, false),
  (10, ⟨"HiddenOrLost$Tape", "wordOf", "(J)I"⟩, prog_12_method_9_code, 4, (some .int), false),
  (10, ⟨"HiddenOrLost$Tape", "isSign", "(I)Z"⟩, prog_12_method_12_code, 1, (some .boolean), true),
  (10, ⟨"HiddenOrLost$Tape", "isCompare", "(I)Z"⟩, prog_12_method_13_code, 1, (some .boolean), true),
  (10, ⟨"HiddenOrLost$Tape", "step", "()V"⟩, prog_12_method_8_code, 1, none, false),
  (10, ⟨"HiddenOrLost$Tape", "isAmong", "(II)Z"⟩, prog_12_method_15_code, 3, (some .boolean), false),
  (10, ⟨"HiddenOrLost$Tape", "fail", "(I)Z"⟩, prog_12_method_17_code, 2, (some .boolean), false),
  (10, ⟨"HiddenOrLost$Tape", "takeNumber", "(II)Z"⟩, prog_12_method_19_code, 3, (some .boolean), false),
  (10, ⟨"HiddenOrLost$Tape", "isName", "()Z"⟩, prog_12_method_16_code, 1, (some .boolean), false),
  (10, ⟨"HiddenOrLost$Tape", "takeAmong", "(II)Z"⟩, prog_12_method_20_code, 3, (some .boolean), false)]
def mi9_3 : List MI9 := [
  (10, ⟨"HiddenOrLost$Tape", "takeSign", "(I)Z"⟩, prog_12_method_18_code, 2, (some .boolean), false),
  (10, ⟨"HiddenOrLost$Tape", "isWord", "(I)Z"⟩, prog_12_method_14_code, 2, (some .boolean), false),
  (11, ⟨"HiddenOrLost", "<init>", "()V"⟩, prog_1_method_1_code, 1, none, false),
  (11, ⟨"HiddenOrLost", "feed", "(IIIII)I"⟩, prog_1_method_2_code, 6, (some .int), false),
  (11, ⟨"HiddenOrLost", "end", "(I)Z"⟩, prog_1_method_3_code, 2, (some .boolean), false),
  (11, ⟨"HiddenOrLost", "field", "()I"⟩, prog_1_method_4_code, 3, (some .int), false),
  (11, ⟨"HiddenOrLost", "fault", "()I"⟩, prog_1_method_5_code, 1, (some .int), false),
  (11, ⟨"HiddenOrLost", "person", "(II)I"⟩, prog_1_method_7_code, 3, (some .int), false),
  (11, ⟨"HiddenOrLost", "cell", "(III)I"⟩, prog_1_method_8_code, 4, (some .int), false),
  (11, ⟨"HiddenOrLost", "now", "(I)I"⟩, prog_1_method_9_code, 2, (some .int), false),
  (11, ⟨"HiddenOrLost", "dig", "(III)I"⟩, prog_1_method_10_code, 4, (some .int), false),
  (11, ⟨"HiddenOrLost", "tell", "(I)I"⟩, prog_1_method_11_code, 3, (some .int), false),
  (11, ⟨"HiddenOrLost", "sell", "(I)I"⟩, prog_1_method_12_code, 3, (some .int), false),
  (11, ⟨"HiddenOrLost", "lay", "(III)I"⟩, prog_1_method_13_code, 5, (some .int), false),
  (11, ⟨"HiddenOrLost", "give", "(II)I"⟩, prog_1_method_14_code, 4, (some .int), false),
  (11, ⟨"HiddenOrLost", "plough", "(I)I"⟩, prog_1_method_15_code, 2, (some .int), false),
  (11, ⟨"HiddenOrLost", "nights", "(II)I"⟩, prog_1_method_16_code, 3, (some .int), false),
  (11, ⟨"HiddenOrLost", "undo", "()I"⟩, prog_1_method_17_code, 1, (some .int), false),
  (11, ⟨"HiddenOrLost", "reading", "()I"⟩, prog_1_method_19_code, 1, (some .int), false),
  (11, ⟨"HiddenOrLost", "asks", "()I"⟩, prog_1_method_21_code, 1, (some .int), false),
  (11, ⟨"HiddenOrLost", "best", "(I)I"⟩, prog_1_method_23_code, 2, (some .int), false),
  (11, ⟨"HiddenOrLost", "route", "(III)I"⟩, prog_1_method_24_code, 4, (some .int), false),
  (11, ⟨"HiddenOrLost", "routeAt", "(I)I"⟩, prog_1_method_25_code, 2, (some .int), false),
  (11, ⟨"HiddenOrLost", "spread", "()I"⟩, prog_1_method_26_code, 1, (some .int), false),
  (11, ⟨"HiddenOrLost", "doubt", "(IIII)I"⟩, prog_1_method_27_code, 8, (some .int), false),
  (11, ⟨"HiddenOrLost", "spreadByPlough", "(III)I"⟩, prog_1_method_44_code, 5, (some .int), false),
  (11, ⟨"HiddenOrLost", "fears", "()I"⟩, prog_1_method_28_code, 5, (some .int), false),
  (11, ⟨"HiddenOrLost", "fear", "(II)I"⟩, prog_1_method_29_code, 3, (some .int), false),
  (11, ⟨"HiddenOrLost", "pots", "()I"⟩, prog_1_method_30_code, 4, (some .int), false),
  (11, ⟨"HiddenOrLost", "sortToldCoins", "()I"⟩, prog_1_method_45_code, 4, (some .int), false),
  (11, ⟨"HiddenOrLost", "yearOfCoin", "(I)I"⟩, prog_1_method_46_code, 2, (some .int), false),
  (11, ⟨"HiddenOrLost", "spansCutBehind", "(II)I"⟩, prog_1_method_47_code, 3, (some .int), false),
  (11, ⟨"HiddenOrLost", "early", "()I"⟩, prog_1_method_31_code, 1, (some .int), false),
  (11, ⟨"HiddenOrLost", "parts", "()I"⟩, prog_1_method_32_code, 6, (some .int), false),
  (11, ⟨"HiddenOrLost", "parted", "()I"⟩, prog_1_method_33_code, 1, (some .int), false),
  (11, ⟨"HiddenOrLost", "label", "(I)I"⟩, prog_1_method_34_code, 2, (some .int), false),
  (11, ⟨"HiddenOrLost", "byteAt", "(I)I"⟩, prog_1_method_35_code, 2, (some .int), false),
  (11, ⟨"HiddenOrLost", "odds", "(III)I"⟩, prog_1_method_36_code, 6, (some .int), false),
  (11, ⟨"HiddenOrLost", "book", "(I)I"⟩, prog_1_method_37_code, 4, (some .int), false),
  (11, ⟨"HiddenOrLost", "told", "(I)I"⟩, prog_1_method_38_code, 2, (some .int), false)]
def mi9_4 : List MI9 := [
  (11, ⟨"HiddenOrLost", "sentence", "()I"⟩, prog_1_method_39_code, 3, (some .int), false),
  (11, ⟨"HiddenOrLost", "said", "(I)I"⟩, prog_1_method_40_code, 5, (some .int), false),
  (11, ⟨"HiddenOrLost", "image", "(I)Z"⟩, prog_1_method_41_code, 3, (some .boolean), false),
  (11, ⟨"HiddenOrLost", "restore", "(I)Z"⟩, prog_1_method_42_code, 3, (some .boolean), false),
  (11, ⟨"HiddenOrLost", "count", "(I)I"⟩, prog_1_method_43_code, 2, (some .int), false),
  (11, ⟨"HiddenOrLost", "find", "(II)I"⟩, prog_1_method_6_code, 3, (some .int), false),
  (11, ⟨"HiddenOrLost", "belief", "(II)J"⟩, prog_1_method_18_code, 3, (some .long), false),
  (11, ⟨"HiddenOrLost", "sure", "(II)J"⟩, prog_1_method_20_code, 3, (some .long), false),
  (11, ⟨"HiddenOrLost", "gains", "(II)J"⟩, prog_1_method_22_code, 5, (some .long), false),
  (12, ⟨"HiddenOrLostModel", "thrown", "()I"⟩, prog_14_method_1_code, 1, (some .int), false),
  (12, ⟨"HiddenOrLostModel", "feed", "(IIIII)I"⟩, prog_14_method_4_code, 6, (some .int), false),
  (12, ⟨"HiddenOrLostModel", "come", "(I)V"⟩, prog_14_method_3_code, 3, none, false),
  (12, ⟨"HiddenOrLostModel", "end", "(I)Z"⟩, prog_14_method_5_code, 2, (some .boolean), false),
  (12, ⟨"HiddenOrLostModel", "<init>", "()V"⟩, prog_14_method_26_code, 2, none, false),
  (12, ⟨"HiddenOrLostModel", "startRead", "()V"⟩, prog_14_method_27_code, 2, none, false),
  (12, ⟨"HiddenOrLostModel", "startSo", "()V"⟩, prog_14_method_28_code, 2, none, false),
  (12, ⟨"HiddenOrLostModel", "field", "()I"⟩, prog_14_method_44_code, 3, (some .int), false),
  (12, ⟨"HiddenOrLostModel", "begin", "(I)V"⟩, prog_14_method_25_code, 2, none, false),
  (12, ⟨"HiddenOrLostModel", "take", "()I"⟩, prog_14_method_6_code, 2, (some .int), false),
  (12, ⟨"HiddenOrLostModel", "go", "()V"⟩, prog_14_method_16_code, 5, none, false),
  (12, ⟨"HiddenOrLostModel", "isLetter", "(I)Z"⟩, prog_14_method_15_code, 1, (some .boolean), true),
  (12, ⟨"HiddenOrLostModel", "isDigit", "(I)Z"⟩, prog_14_method_14_code, 1, (some .boolean), true),
  (12, ⟨"HiddenOrLostModel", "tapeAt", "(I)I"⟩, prog_14_method_13_code, 2, (some .int), false),
  (12, ⟨"HiddenOrLostModel", "readLine", "()Z"⟩, prog_14_method_43_code, 1, (some .boolean), false),
  (12, ⟨"HiddenOrLostModel", "isWord", "(I)Z"⟩, prog_14_method_19_code, 2, (some .boolean), false),
  (12, ⟨"HiddenOrLostModel", "wordOf", "(I)J"⟩, prog_14_method_18_code, 1, (some .long), true),
  (12, ⟨"HiddenOrLostModel", "spelt", "(IIIIII)J"⟩, prog_14_method_17_code, 8, (some .long), true),
  (12, ⟨"HiddenOrLostModel", "readField", "()Z"⟩, prog_14_method_35_code, 1, (some .boolean), false),
  (12, ⟨"HiddenOrLostModel", "bad", "(I)Z"⟩, prog_14_method_22_code, 2, (some .boolean), false),
  (12, ⟨"HiddenOrLostModel", "isFresh", "(I)Z"⟩, prog_14_method_34_code, 2, (some .boolean), false),
  (12, ⟨"HiddenOrLostModel", "readNumber", "(II)Z"⟩, prog_14_method_23_code, 3, (some .boolean), false),
  (12, ⟨"HiddenOrLostModel", "isIn", "(III)Z"⟩, prog_14_method_7_code, 3, (some .boolean), true),
  (12, ⟨"HiddenOrLostModel", "put", "(IZ)Z"⟩, prog_14_method_32_code, 3, (some .boolean), false),
  (12, ⟨"HiddenOrLostModel", "readPerson", "()Z"⟩, prog_14_method_36_code, 1, (some .boolean), false),
  (12, ⟨"HiddenOrLostModel", "readFirst", "(II)Z"⟩, prog_14_method_31_code, 3, (some .boolean), false),
  (12, ⟨"HiddenOrLostModel", "readNew", "(I)Z"⟩, prog_14_method_30_code, 2, (some .boolean), false),
  (12, ⟨"HiddenOrLostModel", "isName", "()Z"⟩, prog_14_method_21_code, 2, (some .boolean), false),
  (12, ⟨"HiddenOrLostModel", "findIn", "([JIIJ)I"⟩, prog_14_method_29_code, 6, (some .int), true),
  (12, ⟨"HiddenOrLostModel", "readFind", "()Z"⟩, prog_14_method_37_code, 2, (some .boolean), false),
  (12, ⟨"HiddenOrLostModel", "isOneOf", "(II)Z"⟩, prog_14_method_33_code, 4, (some .boolean), false)]
def mi9_5 : List MI9 := [
  (12, ⟨"HiddenOrLostModel", "readFear", "()Z"⟩, prog_14_method_38_code, 2, (some .boolean), false),
  (12, ⟨"HiddenOrLostModel", "readHint", "()Z"⟩, prog_14_method_40_code, 2, (some .boolean), false),
  (12, ⟨"HiddenOrLostModel", "readReading", "()Z"⟩, prog_14_method_39_code, 1, (some .boolean), false),
  (12, ⟨"HiddenOrLostModel", "readPrior", "()Z"⟩, prog_14_method_41_code, 2, (some .boolean), false),
  (12, ⟨"HiddenOrLostModel", "readGets", "()Z"⟩, prog_14_method_42_code, 2, (some .boolean), false),
  (12, ⟨"HiddenOrLostModel", "readEnd", "()Z"⟩, prog_14_method_24_code, 1, (some .boolean), false),
  (12, ⟨"HiddenOrLostModel", "isSign", "(I)Z"⟩, prog_14_method_20_code, 2, (some .boolean), false),
  (12, ⟨"HiddenOrLostModel", "fault", "()I"⟩, prog_14_method_45_code, 1, (some .int), false),
  (12, ⟨"HiddenOrLostModel", "find", "(II)I"⟩, prog_14_method_52_code, 3, (some .int), false),
  (12, ⟨"HiddenOrLostModel", "isFind", "(I)Z"⟩, prog_14_method_47_code, 2, (some .boolean), false),
  (12, ⟨"HiddenOrLostModel", "refuse", "()I"⟩, prog_14_method_2_code, 1, (some .int), false),
  (12, ⟨"HiddenOrLostModel", "person", "(II)I"⟩, prog_14_method_53_code, 5, (some .int), false),
  (12, ⟨"HiddenOrLostModel", "isPerson", "(I)Z"⟩, prog_14_method_46_code, 2, (some .boolean), false),
  (12, ⟨"HiddenOrLostModel", "cell", "(III)I"⟩, prog_14_method_54_code, 6, (some .int), false),
  (12, ⟨"HiddenOrLostModel", "isCell", "(II)Z"⟩, prog_14_method_48_code, 3, (some .boolean), false),
  (12, ⟨"HiddenOrLostModel", "worthOf", "(II)I"⟩, prog_14_method_51_code, 6, (some .int), false),
  (12, ⟨"HiddenOrLostModel", "away", "(IIII)I"⟩, prog_14_method_50_code, 4, (some .int), true),
  (12, ⟨"HiddenOrLostModel", "size", "(I)I"⟩, prog_14_method_11_code, 1, (some .int), true),
  (12, ⟨"HiddenOrLostModel", "now", "(I)I"⟩, prog_14_method_56_code, 4, (some .int), false),
  (12, ⟨"HiddenOrLostModel", "those", "(I)I"⟩, prog_14_method_49_code, 4, (some .int), false),
  (12, ⟨"HiddenOrLostModel", "valueOf", "(I)I"⟩, prog_14_method_55_code, 4, (some .int), false),
  (12, ⟨"HiddenOrLostModel", "has", "(II)Z"⟩, prog_14_method_8_code, 2, (some .boolean), true),
  (12, ⟨"HiddenOrLostModel", "dig", "(III)I"⟩, prog_14_method_65_code, 4, (some .int), false),
  (12, ⟨"HiddenOrLostModel", "canDig", "(II)Z"⟩, prog_14_method_58_code, 3, (some .boolean), false),
  (12, ⟨"HiddenOrLostModel", "snap", "()V"⟩, prog_14_method_57_code, 2, none, false),
  (12, ⟨"HiddenOrLostModel", "doDig", "(III)I"⟩, prog_14_method_59_code, 7, (some .int), false),
  (12, ⟨"HiddenOrLostModel", "tell", "(I)I"⟩, prog_14_method_66_code, 2, (some .int), false),
  (12, ⟨"HiddenOrLostModel", "isHad", "(I)Z"⟩, prog_14_method_60_code, 2, (some .boolean), false),
  (12, ⟨"HiddenOrLostModel", "sell", "(I)I"⟩, prog_14_method_67_code, 2, (some .int), false),
  (12, ⟨"HiddenOrLostModel", "doSell", "(I)V"⟩, prog_14_method_61_code, 2, none, false),
  (12, ⟨"HiddenOrLostModel", "lay", "(III)I"⟩, prog_14_method_68_code, 4, (some .int), false),
  (12, ⟨"HiddenOrLostModel", "doLay", "(III)V"⟩, prog_14_method_62_code, 4, none, false),
  (12, ⟨"HiddenOrLostModel", "give", "(II)I"⟩, prog_14_method_69_code, 3, (some .int), false),
  (12, ⟨"HiddenOrLostModel", "plough", "(I)I"⟩, prog_14_method_70_code, 2, (some .int), false),
  (12, ⟨"HiddenOrLostModel", "doPlough", "()I"⟩, prog_14_method_64_code, 6, (some .int), false),
  (12, ⟨"HiddenOrLostModel", "draw", "(I)I"⟩, prog_14_method_63_code, 2, (some .int), false),
  (12, ⟨"HiddenOrLostModel", "undo", "()I"⟩, prog_14_method_71_code, 2, (some .int), false),
  (12, ⟨"HiddenOrLostModel", "nights", "(II)I"⟩, prog_14_method_74_code, 3, (some .int), false),
  (12, ⟨"HiddenOrLostModel", "passNights", "(II)I"⟩, prog_14_method_73_code, 5, (some .int), false),
  (12, ⟨"HiddenOrLostModel", "least", "(II)I"⟩, prog_14_method_10_code, 2, (some .int), true)]
def mi9_6 : List MI9 := [
  (12, ⟨"HiddenOrLostModel", "oneNight", "()V"⟩, prog_14_method_72_code, 7, none, false),
  (12, ⟨"HiddenOrLostModel", "belief", "(II)J"⟩, prog_14_method_79_code, 3, (some .long), false),
  (12, ⟨"HiddenOrLostModel", "layWeights", "(I)V"⟩, prog_14_method_77_code, 4, none, false),
  (12, ⟨"HiddenOrLostModel", "weightAll", "()J"⟩, prog_14_method_78_code, 1, (some .long), false),
  (12, ⟨"HiddenOrLostModel", "part", "(JJI)J"⟩, prog_14_method_76_code, 7, (some .long), true),
  (12, ⟨"HiddenOrLostModel", "commonLong", "(JJ)J"⟩, prog_14_method_75_code, 10, (some .long), true),
  (12, ⟨"HiddenOrLostModel", "reading", "()I"⟩, prog_14_method_80_code, 3, (some .int), false),
  (12, ⟨"HiddenOrLostModel", "sure", "(II)J"⟩, prog_14_method_82_code, 3, (some .long), false),
  (12, ⟨"HiddenOrLostModel", "sureBy", "(I)J"⟩, prog_14_method_81_code, 8, (some .long), false),
  (12, ⟨"HiddenOrLostModel", "asks", "()I"⟩, prog_14_method_83_code, 3, (some .int), false),
  (12, ⟨"HiddenOrLostModel", "gains", "(II)J"⟩, prog_14_method_85_code, 3, (some .long), false),
  (12, ⟨"HiddenOrLostModel", "getsOf", "(I)J"⟩, prog_14_method_84_code, 5, (some .long), false),
  (12, ⟨"HiddenOrLostModel", "best", "(I)I"⟩, prog_14_method_86_code, 2, (some .int), false),
  (12, ⟨"HiddenOrLostModel", "route", "(III)I"⟩, prog_14_method_88_code, 4, (some .int), false),
  (12, ⟨"HiddenOrLostModel", "goOn", "(III)V"⟩, prog_14_method_87_code, 9, none, false),
  (12, ⟨"HiddenOrLostModel", "routeAt", "(I)I"⟩, prog_14_method_89_code, 2, (some .int), false),
  (12, ⟨"HiddenOrLostModel", "spread", "()I"⟩, prog_14_method_91_code, 1, (some .int), false),
  (12, ⟨"HiddenOrLostModel", "spreadOf", "(I)I"⟩, prog_14_method_90_code, 5, (some .int), false),
  (12, ⟨"HiddenOrLostModel", "doubt", "(IIII)I"⟩, prog_14_method_94_code, 10, (some .int), false),
  (12, ⟨"HiddenOrLostModel", "layAside", "()V"⟩, prog_14_method_92_code, 2, none, false),
  (12, ⟨"HiddenOrLostModel", "takeBack", "()V"⟩, prog_14_method_93_code, 2, none, false),
  (12, ⟨"HiddenOrLostModel", "fears", "()I"⟩, prog_14_method_95_code, 5, (some .int), false),
  (12, ⟨"HiddenOrLostModel", "fear", "(II)I"⟩, prog_14_method_96_code, 3, (some .int), false),
  (12, ⟨"HiddenOrLostModel", "pots", "()I"⟩, prog_14_method_97_code, 6, (some .int), false),
  (12, ⟨"HiddenOrLostModel", "early", "()I"⟩, prog_14_method_98_code, 1, (some .int), false),
  (12, ⟨"HiddenOrLostModel", "parts", "()I"⟩, prog_14_method_99_code, 6, (some .int), false),
  (12, ⟨"HiddenOrLostModel", "parted", "()I"⟩, prog_14_method_100_code, 1, (some .int), false),
  (12, ⟨"HiddenOrLostModel", "label", "(I)I"⟩, prog_14_method_105_code, 2, (some .int), false),
  (12, ⟨"HiddenOrLostModel", "writeWord", "(J)V"⟩, prog_14_method_102_code, 3, none, false),
  (12, ⟨"HiddenOrLostModel", "write", "(I)V"⟩, prog_14_method_101_code, 2, none, false),
  (12, ⟨"HiddenOrLostModel", "writeNumber", "(I)V"⟩, prog_14_method_103_code, 2, none, false),
  (12, ⟨"HiddenOrLostModel", "writeNext", "(J)V"⟩, prog_14_method_104_code, 3, none, false),
  (12, ⟨"HiddenOrLostModel", "byteAt", "(I)I"⟩, prog_14_method_106_code, 2, (some .int), false),
  (12, ⟨"HiddenOrLostModel", "odds", "(III)I"⟩, prog_14_method_107_code, 6, (some .int), false),
  (12, ⟨"HiddenOrLostModel", "book", "(I)I"⟩, prog_14_method_114_code, 4, (some .int), false),
  (12, ⟨"HiddenOrLostModel", "readBookLine", "()Z"⟩, prog_14_method_111_code, 1, (some .boolean), false),
  (12, ⟨"HiddenOrLostModel", "readDoes", "(I)Z"⟩, prog_14_method_110_code, 4, (some .boolean), false),
  (12, ⟨"HiddenOrLostModel", "readMany", "(IIII)Z"⟩, prog_14_method_109_code, 5, (some .boolean), false),
  (12, ⟨"HiddenOrLostModel", "readPlace", "(I)Z"⟩, prog_14_method_108_code, 2, (some .boolean), false),
  (12, ⟨"HiddenOrLostModel", "whyLine", "(I)I"⟩, prog_14_method_112_code, 4, (some .int), false)]
def mi9_7 : List MI9 := [
  (12, ⟨"HiddenOrLostModel", "live", "(I)V"⟩, prog_14_method_113_code, 5, none, false),
  (12, ⟨"HiddenOrLostModel", "stay", "(Z)V"⟩, prog_14_method_115_code, 4, none, false),
  (12, ⟨"HiddenOrLostModel", "told", "(I)I"⟩, prog_14_method_116_code, 2, (some .int), false),
  (12, ⟨"HiddenOrLostModel", "sentence", "()I"⟩, prog_14_method_126_code, 2, (some .int), false),
  (12, ⟨"HiddenOrLostModel", "readOr", "()Z"⟩, prog_14_method_119_code, 2, (some .boolean), false),
  (12, ⟨"HiddenOrLostModel", "readAnd", "()Z"⟩, prog_14_method_120_code, 2, (some .boolean), false),
  (12, ⟨"HiddenOrLostModel", "readSaid", "()Z"⟩, prog_14_method_121_code, 4, (some .boolean), false),
  (12, ⟨"HiddenOrLostModel", "readBracket", "()Z"⟩, prog_14_method_123_code, 1, (some .boolean), false),
  (12, ⟨"HiddenOrLostModel", "readNot", "()Z"⟩, prog_14_method_122_code, 1, (some .boolean), false),
  (12, ⟨"HiddenOrLostModel", "saysOne", "(IIII)I"⟩, prog_14_method_118_code, 6, (some .int), false),
  (12, ⟨"HiddenOrLostModel", "readOf", "(I)Z"⟩, prog_14_method_124_code, 2, (some .boolean), false),
  (12, ⟨"HiddenOrLostModel", "readWhom", "()Z"⟩, prog_14_method_117_code, 1, (some .boolean), false),
  (12, ⟨"HiddenOrLostModel", "readCompare", "(I)Z"⟩, prog_14_method_125_code, 3, (some .boolean), false),
  (12, ⟨"HiddenOrLostModel", "said", "(I)I"⟩, prog_14_method_128_code, 4, (some .int), false),
  (12, ⟨"HiddenOrLostModel", "holds", "(II)Z"⟩, prog_14_method_127_code, 8, (some .boolean), false),
  (12, ⟨"HiddenOrLostModel", "image", "(I)Z"⟩, prog_14_method_129_code, 3, (some .boolean), false),
  (12, ⟨"HiddenOrLostModel", "restore", "(I)Z"⟩, prog_14_method_130_code, 3, (some .boolean), false),
  (12, ⟨"HiddenOrLostModel", "count", "(I)I"⟩, prog_14_method_131_code, 2, (some .int), false),
  (16, ⟨"java/lang/Integer", "bitCount", "(I)I"⟩, prog_19_method_49_code, 1, (some .int), true),
  (17, ⟨"java/util/Arrays", "fill", "([II)V"⟩, prog_29_method_103_code, 4, none, true),
  (17, ⟨"java/util/Arrays", "fill", "([JJ)V"⟩, prog_29_method_101_code, 5, none, true),
  (14, ⟨"HiddenOrLostLaw", "find", "(LHiddenOrLost;II[J)I"⟩, method_3_code, 5, (some .int), true),
  (14, ⟨"HiddenOrLostLaw", "belief", "(LHiddenOrLost;II[J)I"⟩, method_4_code, 5, (some .int), true),
  (14, ⟨"HiddenOrLostLaw", "sure", "(LHiddenOrLost;II[J)I"⟩, method_5_code, 5, (some .int), true),
  (14, ⟨"HiddenOrLostLaw", "gains", "(LHiddenOrLost;II[J)I"⟩, method_6_code, 5, (some .int), true),
  (14, ⟨"HiddenOrLostLaw", "law", "([I)Z"⟩, code, 8, (some .boolean), true)]
def mi9 (M : Nat) : MI9 := match M / 40 with
  | 0 => mi9_0.getD (M - 0) (0, ⟨"", "", ""⟩, ⟨#[]⟩, 0, none, false)
  | 1 => mi9_1.getD (M - 40) (0, ⟨"", "", ""⟩, ⟨#[]⟩, 0, none, false)
  | 2 => mi9_2.getD (M - 80) (0, ⟨"", "", ""⟩, ⟨#[]⟩, 0, none, false)
  | 3 => mi9_3.getD (M - 120) (0, ⟨"", "", ""⟩, ⟨#[]⟩, 0, none, false)
  | 4 => mi9_4.getD (M - 160) (0, ⟨"", "", ""⟩, ⟨#[]⟩, 0, none, false)
  | 5 => mi9_5.getD (M - 200) (0, ⟨"", "", ""⟩, ⟨#[]⟩, 0, none, false)
  | 6 => mi9_6.getD (M - 240) (0, ⟨"", "", ""⟩, ⟨#[]⟩, 0, none, false)
  | 7 => mi9_7.getD (M - 280) (0, ⟨"", "", ""⟩, ⟨#[]⟩, 0, none, false)
  | _ => (0, ⟨"", "", ""⟩, ⟨#[]⟩, 0, none, false)
def mO9 (M : Nat) : Nat := (mi9 M).1
def mY9 (M : Nat) : MethodName := (mi9 M).2.1
def mB9 (M : Nat) : ByteArray := (mi9 M).2.2.1
def mL9 (M : Nat) : Nat := (mi9 M).2.2.2.1
def mR9 (M : Nat) : Option FieldType := (mi9 M).2.2.2.2.1
def mS9 (M : Nat) : Bool := (mi9 M).2.2.2.2.2
/-- class, entry, the field's class and number, of a nest mate or not, the place of its word -/
def lkF : List (Nat × Nat × Nat × Nat × Bool × Nat) := [(0, 9, 0, 0, false, 542), (0, 15, 0, 1, false, 544), (0, 19, 6, 6, true, 302), (0, 25, 6, 12, true, 322), (0, 29, 9, 3, true, 378), (0, 34, 6, 5, true, 300), (0, 67, 6, 10, true, 314), (0, 59, 6, 7, true, 304), (1, 9, 1, 0, false, 455), (1, 15, 1, 1, false, 456), (1, 18, 1, 2, false, 457), (1, 21, 1, 3, false, 458), (1, 24, 1, 4, false, 459), (1, 28, 1, 5, false, 460), (1, 37, 10, 9, true, 223), (1, 58, 10, 10, true, 227), (1, 84, 10, 11, true, 231), (1, 91, 10, 12, true, 235), (1, 130, 6, 11, true, 317), (1, 133, 9, 9, true, 397), (1, 136, 2, 0, true, 531), (1, 145, 9, 3, true, 380), (1, 156, 9, 4, true, 385), (2, 7, 2, 0, false, 530), (3, 11, 3, 0, false, 484), (3, 17, 3, 1, false, 485), (3, 21, 3, 2, false, 486), (4, 10, 4, 0, false, 507), (4, 19, 4, 1, false, 509), (4, 26, 4, 2, false, 511), (4, 30, 4, 3, false, 513), (5, 9, 5, 0, false, 588), (5, 15, 5, 1, false, 590), (5, 19, 6, 1, true, 295), (5, 40, 9, 3, true, 377), (5, 54, 9, 4, true, 383), (5, 61, 6, 0, true, 293), (6, 9, 6, 0, false, 292), (6, 15, 6, 1, false, 294), (6, 18, 6, 2, false, 296), (6, 21, 6, 3, false, 297), (6, 25, 6, 4, false, 298), (6, 28, 6, 5, false, 299), (6, 31, 6, 6, false, 301), (6, 34, 6, 7, false, 303), (6, 37, 6, 8, false, 305), (6, 41, 6, 9, false, 309), (6, 44, 6, 10, false, 313), (6, 47, 6, 11, false, 316), (6, 50, 6, 12, false, 320), (6, 53, 6, 13, false, 325), (6, 56, 6, 14, false, 327), (6, 59, 6, 15, false, 329), (6, 91, 10, 9, true, 225), (6, 109, 10, 11, true, 233), (6, 144, 10, 12, true, 237), (6, 151, 10, 10, true, 229), (7, 9, 7, 0, false, 557), (7, 15, 7, 1, false, 558), (7, 18, 7, 2, false, 559), (7, 21, 7, 3, false, 560), (7, 24, 7, 4, false, 562), (7, 28, 7, 5, false, 563), (7, 31, 7, 6, false, 565), (7, 34, 6, 9, true, 310), (7, 39, 6, 8, true, 306), (8, 11, 8, 0, false, 429), (8, 15, 8, 1, false, 430), (8, 18, 8, 2, false, 431), (8, 21, 8, 3, false, 432), (8, 24, 8, 4, false, 433), (8, 28, 8, 5, false, 434), (8, 50, 10, 9, true, 224), (8, 81, 10, 11, true, 232), (8, 99, 10, 10, true, 228), (8, 115, 10, 12, true, 236), (8, 118, 6, 12, true, 323), (8, 129, 9, 3, true, 381), (8, 134, 9, 4, true, 386), (8, 144, 9, 2, true, 375), (9, 9, 9, 0, false, 369), (9, 15, 9, 1, false, 371), (9, 18, 9, 2, false, 373), (9, 21, 9, 3, false, 376), (9, 24, 9, 4, false, 382), (9, 27, 9, 5, false, 387), (9, 30, 9, 6, false, 389), (9, 33, 9, 7, false, 391), (9, 36, 9, 8, false, 393), (9, 39, 9, 9, false, 395), (9, 43, 9, 10, false, 398), (9, 46, 6, 12, true, 321), (9, 114, 6, 11, true, 319), (9, 117, 6, 8, true, 307), (9, 120, 6, 9, true, 311), (10, 9, 10, 0, false, 212), (10, 15, 10, 1, false, 213), (10, 19, 10, 2, false, 214), (10, 23, 10, 3, false, 215), (10, 26, 10, 4, false, 216), (10, 29, 10, 5, false, 217), (10, 33, 10, 6, false, 219), (10, 36, 10, 7, false, 220), (10, 39, 10, 8, false, 221), (10, 42, 10, 9, false, 222), (10, 45, 10, 10, false, 226), (10, 49, 10, 11, false, 230), (10, 52, 10, 12, false, 234), (10, 55, 10, 13, false, 238), (10, 58, 10, 14, false, 239), (10, 61, 10, 15, false, 241), (11, 10, 11, 0, false, 597), (11, 19, 11, 1, false, 598), (11, 23, 11, 2, false, 599), (11, 29, 11, 3, false, 600), (11, 33, 11, 4, false, 601), (11, 39, 11, 5, false, 602), (11, 43, 11, 6, false, 603), (11, 49, 11, 7, false, 604), (11, 56, 11, 8, false, 605), (11, 63, 11, 9, false, 606), (11, 67, 11, 10, false, 607), (11, 73, 11, 11, false, 608), (11, 80, 11, 12, false, 609), (11, 87, 11, 13, false, 610), (11, 94, 11, 14, false, 611), (11, 98, 11, 15, false, 612), (11, 102, 11, 16, false, 613), (11, 105, 11, 17, false, 614), (11, 109, 11, 18, false, 615), (11, 112, 11, 19, false, 616), (11, 115, 10, 5, true, 218), (11, 126, 10, 14, true, 240), (11, 127, 10, 15, true, 242), (11, 138, 6, 14, true, 328), (11, 170, 9, 5, true, 388), (11, 177, 9, 6, true, 390), (11, 180, 9, 7, true, 392), (11, 187, 9, 8, true, 394), (11, 197, 9, 9, true, 396), (11, 211, 9, 10, true, 399), (11, 157, 9, 3, true, 379), (11, 160, 9, 4, true, 384), (11, 240, 2, 0, true, 532), (11, 246, 6, 11, true, 318), (11, 257, 3, 2, true, 487), (11, 300, 7, 6, true, 566), (11, 303, 7, 5, true, 564), (11, 304, 7, 3, true, 561), (11, 317, 6, 13, true, 326), (11, 373, 6, 12, true, 324), (11, 343, 5, 1, true, 591), (11, 344, 5, 0, true, 589), (11, 358, 1, 5, true, 461), (11, 362, 8, 5, true, 435), (11, 376, 4, 0, true, 508), (11, 379, 4, 1, true, 510), (11, 380, 4, 2, true, 512), (11, 386, 4, 3, true, 514), (11, 390, 6, 8, true, 308), (11, 393, 6, 9, true, 312), (11, 396, 6, 10, true, 315), (11, 148, 9, 0, true, 370), (11, 151, 9, 1, true, 372), (11, 154, 9, 2, true, 374), (11, 264, 0, 0, true, 543), (11, 268, 0, 1, true, 545), (12, 1, 12, 0, false, 1466), (12, 11, 12, 2, false, 1468), (12, 7, 12, 1, false, 1467), (12, 98, 12, 14, false, 1480), (12, 101, 12, 15, false, 1481), (12, 104, 12, 16, false, 1482), (12, 107, 12, 17, false, 1483), (12, 110, 12, 18, false, 1484), (12, 113, 12, 19, false, 1485), (12, 117, 12, 20, false, 1486), (12, 120, 12, 21, false, 1487), (12, 123, 12, 22, false, 1488), (12, 127, 12, 23, false, 1489), (12, 130, 12, 26, false, 1492), (12, 133, 12, 27, false, 1493), (12, 136, 12, 28, false, 1494), (12, 139, 12, 29, false, 1495), (12, 142, 12, 32, false, 1498), (12, 145, 12, 33, false, 1499), (12, 148, 12, 34, false, 1500), (12, 151, 12, 35, false, 1501), (12, 154, 12, 37, false, 1503), (12, 157, 12, 38, false, 1504), (12, 160, 12, 41, false, 1507), (12, 30, 12, 7, false, 1473), (12, 69, 12, 11, false, 1477), (12, 233, 12, 24, false, 1490), (12, 18, 12, 3, false, 1469), (12, 27, 12, 4, false, 1470), (12, 66, 12, 10, false, 1476), (12, 21, 12, 5, false, 1471), (12, 24, 12, 6, false, 1472), (12, 40, 12, 9, false, 1475), (12, 43, 12, 12, false, 1478), (12, 47, 12, 8, false, 1474), (12, 79, 12, 13, false, 1479), (12, 267, 12, 25, false, 1491), (12, 333, 12, 31, false, 1497), (12, 339, 12, 30, false, 1496), (12, 351, 12, 36, false, 1502), (12, 374, 12, 39, false, 1505), (12, 389, 12, 40, false, 1506), (12, 397, 12, 42, false, 1508), (12, 412, 12, 43, false, 1509), (12, 415, 12, 44, false, 1510), (12, 403, 12, 45, false, 1511)]
def wF9 (x : Nat × Nat × Nat × Nat × Bool × Nat) : Cond := if x.2.2.2.2.1 = true then .fieldLinkNest (cn9 x.1) x.2.1 (T9 x.2.2.1 x.2.2.2.1).1 (T9 x.2.2.1 x.2.2.2.1).2.1 (T9 x.2.2.1 x.2.2.2.1).2.2.1 "HiddenOrLost" else .fieldLink (cn9 x.1) x.2.1 (T9 x.2.2.1 x.2.2.2.1).1 (T9 x.2.2.1 x.2.2.2.1).2.1 (T9 x.2.2.1 x.2.2.2.1).2.2.1
set_option maxRecDepth 100000 in
theorem lkF_ok : ∀ x ∈ lkF, lw_tbl[x.2.2.2.2.2]? = some (wF9 x) := by decide +kernel
def lkM : List (Nat × Nat × Nat × Nat) := [(0, 37, 51, 991), (0, 41, 300, 992), (0, 55, 4, 1008), (0, 62, 6, 1024), (0, 70, 8, 1416), (1, 31, 105, 1177), (1, 40, 11, 1178), (1, 44, 120, 1213), (1, 48, 121, 1182), (1, 51, 118, 1186), (1, 55, 116, 1187), (1, 62, 42, 1188), (1, 68, 44, 1189), (1, 71, 12, 1190), (1, 75, 114, 1194), (1, 78, 13, 1196), (1, 81, 15, 1205), (1, 87, 117, 1195), (1, 94, 119, 1200), (1, 97, 14, 1201), (1, 100, 16, 1209), (1, 103, 18, 1218), (1, 107, 20, 1229), (1, 111, 53, 1222), (1, 114, 85, 1223), (1, 119, 91, 1224), (1, 123, 19, 1225), (1, 127, 94, 1228), (1, 141, 90, 1233), (1, 148, 92, 1234), (1, 152, 93, 1235), (1, 159, 95, 1236), (1, 163, 97, 1237), (3, 24, 80, 483), (3, 25, 89, 886), (4, 9, 34, 502), (4, 18, 80, 504), (4, 25, 65, 506), (5, 25, 30, 1136), (5, 29, 31, 1141), (5, 33, 51, 1145), (5, 37, 32, 1146), (5, 48, 33, 1151), (5, 57, 52, 1158), (6, 62, 35, 285), (6, 65, 299, 289), (6, 85, 105, 678), (6, 94, 37, 717), (6, 98, 120, 795), (6, 102, 115, 721), (6, 106, 116, 725), (6, 112, 38, 729), (6, 115, 40, 743), (6, 118, 45, 766), (6, 121, 47, 779), (6, 124, 48, 783), (6, 128, 49, 787), (6, 131, 50, 791), (6, 137, 39, 733), (6, 141, 117, 738), (6, 134, 114, 737), (6, 162, 41, 747), (6, 147, 118, 751), (6, 155, 42, 755), (6, 159, 44, 762), (6, 81, 43, 759), (6, 166, 119, 770), (6, 169, 46, 775), (6, 77, 51, 876), (7, 42, 84, 1037), (7, 54, 299, 1041), (7, 60, 63, 1042), (7, 64, 64, 1046), (8, 37, 66, 1250), (8, 40, 105, 1251), (8, 46, 68, 1252), (8, 53, 116, 1268), (8, 57, 69, 1256), (8, 60, 121, 1287), (8, 63, 114, 1269), (8, 66, 72, 1271), (8, 70, 70, 1260), (8, 77, 71, 1264), (8, 84, 120, 1270), (8, 87, 73, 1275), (8, 91, 74, 1281), (8, 73, 115, 1267), (8, 95, 118, 1279), (8, 103, 42, 1280), (8, 109, 113, 1285), (8, 112, 117, 1286), (8, 121, 76, 1296), (8, 125, 77, 1300), (8, 137, 51, 1304), (8, 141, 78, 1305), (9, 51, 51, 803), (9, 55, 299, 807), (9, 80, 85, 848), (9, 67, 86, 871), (9, 71, 54, 872), (9, 91, 52, 897), (9, 95, 22, 942), (9, 100, 96, 947), (9, 104, 53, 951), (9, 110, 98, 961), (9, 123, 56, 965), (9, 126, 57, 969), (9, 129, 90, 973), (9, 133, 92, 974), (9, 87, 93, 1076), (10, 75, 103, 208), (10, 81, 106, 682), (10, 84, 107, 686), (10, 94, 114, 713), (10, 97, 108, 690), (10, 101, 110, 696), (10, 104, 112, 704), (10, 107, 109, 693), (10, 110, 111, 700), (10, 114, 113, 707), (10, 117, 116, 742), (10, 120, 115, 774), (11, 9, 102, 155), (11, 18, 34, 281), (11, 28, 80, 365), (11, 38, 65, 425), (11, 48, 9, 451), (11, 55, 23, 477), (11, 62, 27, 497), (11, 72, 21, 526), (11, 79, 0, 538), (11, 86, 61, 553), (11, 93, 28, 584), (11, 118, 104, 662), (11, 122, 36, 674), (11, 130, 81, 799), (11, 134, 66, 808), (11, 137, 24, 812), (11, 167, 52, 824), (11, 173, 82, 828), (11, 183, 53, 836), (11, 190, 83, 840), (11, 194, 84, 844), (11, 200, 86, 859), (11, 203, 87, 863), (11, 207, 88, 867), (11, 214, 85, 881), (11, 217, 25, 882), (11, 221, 90, 893), (11, 141, 55, 902), (11, 225, 91, 906), (11, 229, 92, 914), (11, 233, 93, 922), (11, 237, 94, 930), (11, 242, 95, 938), (11, 249, 97, 956), (11, 253, 26, 979), (11, 260, 1, 987), (11, 276, 2, 996), (11, 286, 3, 1004), (11, 163, 51, 1019), (11, 292, 5, 1020), (11, 296, 62, 1033), (11, 307, 99, 1059), (11, 310, 145, 1067), (11, 348, 89, 1071), (11, 399, 100, 1072), (11, 314, 101, 1081), (11, 320, 58, 1086), (11, 323, 59, 1090), (11, 326, 149, 1102), (11, 329, 151, 1110), (11, 403, 150, 1106), (11, 332, 54, 1122), (11, 340, 29, 1132), (11, 351, 10, 1173), (11, 354, 17, 1214), (11, 361, 67, 1246), (11, 365, 75, 1292), (11, 368, 298, 1309), (11, 377, 60, 1319), (11, 383, 79, 1324), (11, 272, 7, 1413), (11, 280, 4, 1426), (11, 289, 6, 1435), (12, 14, 171, 1444), (12, 163, 174, 1458), (12, 166, 175, 1462), (12, 224, 177, 1610), (12, 227, 183, 1634), (12, 230, 205, 1718), (12, 89, 178, 1614), (12, 82, 179, 1618), (12, 33, 180, 1622), (12, 37, 181, 1625), (12, 50, 182, 1628), (12, 177, 184, 1638), (12, 203, 187, 1648), (12, 206, 193, 1671), (12, 209, 198, 1690), (12, 212, 200, 1698), (12, 215, 201, 1702), (12, 218, 203, 1710), (12, 221, 204, 1714), (12, 180, 189, 1656), (12, 183, 190, 1660), (12, 187, 192, 1667), (12, 72, 188, 1652), (12, 62, 185, 1642), (12, 58, 186, 1645), (12, 75, 191, 1664), (12, 191, 194, 1675), (12, 194, 195, 1679), (12, 169, 196, 1683), (12, 173, 197, 1687), (12, 197, 199, 1694), (12, 200, 202, 1706), (12, 86, 206, 1722), (12, 242, 209, 1734), (12, 245, 210, 1738), (12, 248, 212, 1746), (12, 251, 214, 1754), (12, 254, 215, 1758), (12, 238, 216, 1762), (12, 236, 217, 1765), (12, 261, 219, 1772), (12, 264, 220, 1776), (12, 258, 221, 1780), (12, 274, 223, 1787), (12, 277, 224, 1791), (12, 280, 225, 1795), (12, 284, 227, 1803), (12, 287, 229, 1811), (12, 290, 231, 1819), (12, 294, 234, 1831), (12, 271, 235, 1835), (12, 303, 238, 1848), (12, 297, 239, 1852), (12, 300, 240, 1855), (12, 314, 242, 1863), (12, 310, 243, 1867), (12, 317, 244, 1871), (12, 306, 245, 1874), (12, 321, 248, 1885), (12, 326, 251, 1898), (12, 336, 254, 1912), (12, 342, 257, 1924), (12, 345, 259, 1932), (12, 348, 260, 1936), (12, 354, 268, 1968), (12, 358, 269, 1972), (12, 361, 270, 1976), (12, 364, 271, 1980), (12, 380, 275, 1996), (12, 383, 279, 2012), (12, 386, 280, 2016), (12, 393, 281, 2020), (12, 377, 276, 2000), (12, 367, 277, 2004), (12, 371, 278, 2008), (12, 430, 284, 2032), (12, 400, 285, 2036), (12, 406, 289, 2052), (12, 409, 286, 2040), (12, 418, 287, 2044), (12, 421, 288, 2048), (12, 424, 290, 2056), (12, 427, 292, 2064), (12, 433, 291, 2060), (12, 436, 294, 2072), (14, 7, 165, 1341), (14, 15, 166, 1409), (14, 19, 167, 1422), (14, 22, 168, 1431), (14, 25, 122, 147), (14, 28, 173, 1454), (14, 29, 123, 658), (14, 33, 170, 1440), (14, 34, 124, 666), (14, 38, 172, 1449), (14, 39, 125, 670), (14, 43, 176, 1606), (14, 44, 126, 816), (14, 47, 207, 1726), (14, 48, 301, 1337), (14, 53, 208, 1730), (14, 54, 169, 1436), (14, 57, 127, 820), (14, 60, 211, 1742), (14, 61, 128, 832), (14, 65, 213, 1750), (14, 66, 129, 855), (14, 70, 218, 1768), (14, 71, 130, 877), (14, 74, 222, 1783), (14, 75, 131, 898), (14, 78, 226, 1799), (14, 79, 132, 910), (14, 82, 228, 1807), (14, 83, 133, 918), (14, 86, 230, 1815), (14, 87, 134, 926), (14, 90, 232, 1823), (14, 91, 135, 934), (14, 94, 233, 1827), (14, 95, 136, 952), (14, 98, 237, 1844), (14, 99, 137, 975), (14, 102, 236, 1840), (14, 103, 302, 1406), (14, 105, 241, 1859), (14, 106, 138, 983), (14, 109, 246, 1877), (14, 110, 303, 1419), (14, 112, 247, 1881), (14, 113, 139, 1000), (14, 116, 249, 1890), (14, 117, 304, 1428), (14, 119, 250, 1894), (14, 120, 140, 1015), (14, 123, 252, 1902), (14, 124, 141, 1029), (14, 127, 253, 1908), (14, 128, 142, 1051), (14, 131, 255, 1916), (14, 132, 143, 1055), (14, 135, 256, 1920), (14, 136, 144, 1063), (14, 140, 258, 1928), (14, 141, 146, 1077), (14, 144, 261, 1940), (14, 145, 147, 1094), (14, 148, 262, 1944), (14, 149, 148, 1098), (14, 152, 263, 1948), (14, 153, 152, 1114), (14, 156, 264, 1952), (14, 157, 153, 1118), (14, 160, 265, 1956), (14, 161, 154, 1124), (14, 164, 266, 1960), (14, 165, 155, 1128), (14, 168, 267, 1964), (14, 169, 156, 1161), (14, 172, 272, 1984), (14, 173, 157, 1165), (14, 176, 273, 1988), (14, 177, 158, 1169), (14, 180, 274, 1992), (14, 181, 159, 1238), (14, 184, 282, 2024), (14, 185, 160, 1242), (14, 188, 283, 2028), (14, 189, 161, 1288), (14, 192, 293, 2068), (14, 193, 162, 1315), (14, 196, 295, 2076), (14, 197, 163, 1329), (14, 200, 296, 2080), (14, 201, 164, 1333), (14, 204, 297, 2084)]
set_option maxRecDepth 100000 in
theorem lkM_ok : ∀ x ∈ lkM, lw_tbl[x.2.2.2]? = some (.methodLink (cn9 x.1) x.2.1 (mY9 x.2.2.1)) := by decide +kernel
def lkI : List (Nat × Nat × Int32 × Nat) := [(2, 13, 1103515245, 946), (12, 270, 1103515245, 1839), (16, 265, 1431655765, 1312), (16, 266, 858993459, 1313), (16, 267, 252645135, 1314)]
theorem lkI_ok : ∀ x ∈ lkI, lw_tbl[x.2.2.2]? = some (.constant (cn9 x.1) x.2.1 x.2.2.1) := by decide +kernel
def lkJ : List (Nat × Nat × Int64 × Nat) := [(0, 47, 3, 995), (0, 65, 12, 1028), (5, 77, 31, 1140), (10, 79, 32, 211), (11, 284, 12, 1427), (12, 54, 27, 1632), (12, 56, 96, 1633), (12, 324, 12, 1889), (12, 329, 2, 1906), (12, 331, 3, 1907)]
theorem lkJ_ok : ∀ x ∈ lkJ, lw_tbl[x.2.2.2]? = some (.constantLong (cn9 x.1) x.2.1 x.2.2.1) := by decide +kernel
def lkN : List (Nat × Nat × Nat × Nat × Nat × Nat) := [(3, 9, 9, 481, 364, 128), (4, 7, 6, 501, 280, 126), (4, 16, 9, 503, 364, 128), (4, 23, 8, 505, 424, 129), (11, 7, 10, 153, 154, 121), (11, 16, 6, 279, 280, 126), (11, 26, 9, 363, 364, 128), (11, 36, 8, 423, 424, 129), (11, 46, 1, 449, 450, 130), (11, 53, 3, 475, 476, 131), (11, 60, 4, 495, 496, 132), (11, 70, 2, 524, 525, 133), (11, 77, 0, 536, 537, 134), (11, 84, 7, 551, 552, 135), (11, 91, 5, 582, 583, 136), (14, 8, 11, 145, 146, 120), (14, 26, 12, 1453, 1447, 137)]
theorem lkN_ok : ∀ x ∈ lkN, lw_tbl[x.2.2.2.1]? = some (.classLink (cn9 x.1) x.2.1 (cn9 x.2.2.1)) ∧ lw_tbl[x.2.2.2.2.1]? = some (.instantiable (cn9 x.2.2.1) (N9 x.2.2.1)) ∧ lw_tbl[x.2.2.2.2.2]? = some (.initialized (cn9 x.2.2.1)) := by decide +kernel
def lkO : List (Nat × Nat × Nat) := [(0, 3, 541), (1, 3, 454), (2, 1, 529), (3, 3, 480), (4, 1, 500), (5, 3, 587), (6, 3, 284), (7, 3, 556), (8, 3, 428), (9, 3, 368), (10, 3, 158), (11, 1, 150), (12, 93, 1457)]
theorem lkO_ok : ∀ x ∈ lkO, lw_tbl[x.2.2]? = some (.methodLink (cn9 x.1) x.2.1 objectInit) := by decide +kernel
def lkA : List (Nat × Nat × Nat) := [(6, 71, 1323), (7, 68, 1050), (8, 31, 1328), (9, 61, 890)]
theorem lkA_ok : ∀ x ∈ lkA, lw_tbl[x.2.2]? = some (.methodLink (cn9 x.1) x.2.1 arraycopyName) := by decide +kernel
def lkQ : List (Nat × Nat × Nat) := [(3, 9, 481)]
theorem lkQ_ok : ∀ x ∈ lkQ, lw_tbl[x.2.2]? = some (.classLink (cn9 x.1) x.2.1 (cn9 9)) := by decide +kernel
def lkS : List (Nat × Nat × Nat × Nat) := [(5, 46, 1, 1150), (5, 52, 2, 1157), (5, 64, 3, 1159), (5, 66, 4, 1160), (10, 64, 0, 159)]
def lkL : List (Nat × Nat × Nat) := [(5, 68, 1155), (10, 66, 160)]
def lkH : List (Nat × Nat × Nat) := [(5, 73, 1156), (10, 71, 170)]
def lkT : List (Nat × Nat × Nat × Nat × Nat × Nat) := [(11, 145, 13, 1345, 1346, 142)]
def lkX : List (Nat × Nat × Nat × Nat) := [(0, 49, 8, 1012), (7, 48, 6, 1038), (9, 84, 5, 852), (9, 107, 7, 960), (9, 75, 6, 1085), (10, 88, 7, 710), (11, 335, 5, 1123)]
def xn9 (k : Nat) : MethodName := match k with
  | 5 => Lib.Math.abs.name
  | 6 => Lib.Math.max.name
  | 7 => Lib.Math.min.name
  | _ => Lib.MathLoose.max_long.x
theorem lkX_ok : ∀ x ∈ lkX, lw_tbl[x.2.2.2]? = some (.methodLink (cn9 x.1) x.2.1 (xn9 x.2.2.1)) := by decide +kernel
theorem xw9_5 : lw_tbl[854]? = some (.code Lib.Math.abs.name Lib.Math.abs.code 1 (some .int)) ∧ lw_tbl[853]? = some (.static (xn9 5)) := by decide +kernel
theorem xw9_6 : lw_tbl[1040]? = some (.code Lib.Math.max.name Lib.Math.max.code 2 (some .int)) ∧ lw_tbl[1039]? = some (.static (xn9 6)) := by decide +kernel
theorem xw9_7 : lw_tbl[712]? = some (.code Lib.Math.min.name Lib.Math.min.code 2 (some .int)) ∧ lw_tbl[711]? = some (.static (xn9 7)) := by decide +kernel
theorem xw9_8 : lw_tbl[1014]? = some (.code Lib.MathLoose.max_long.x Lib.MathLoose.max_long.code 4 (some .long)) ∧ lw_tbl[1013]? = some (.static (xn9 8)) := by decide +kernel
theorem xi9 : lw_tbl[138]? = some (.initialized "java/lang/Math") ∧ lw_tbl[143]? = some (.initialized "java/lang/System") ∧ lw_tbl[892]? = some (.native arraycopyName) ∧ lw_tbl[891]? = some (.static arraycopyName) ∧ lw_tbl[151]? = some (.instanceMethod objectInit) ∧ lw_tbl[152]? = some (.code objectInit ⟨#[0xb1]⟩ 1 none) ∧ lw_tbl[482]? = some (.arrayOver (.object (cn9 9))) := by decide +kernel
theorem xa9 : lw_tbl[276]? = some (.arrayClass .byte) ∧ lw_tbl[277]? = some (.arrayClass .long) ∧ lw_tbl[278]? = some (.arrayClass .int) ∧ lw_tbl[1605]? = some (.arrayClass .boolean) := by decide +kernel
def mw9 : List (Nat × Nat × Nat) := [(134, 539, 0), (134, 988, 989), (134, 997, 998), (134, 1005, 1006), (134, 1009, 1010), (134, 1021, 1022), (134, 1025, 1026), (134, 1414, 0), (134, 1417, 0), (130, 452, 0), (130, 1174, 1175), (130, 1180, 28), (130, 1192, 29), (130, 1198, 30), (130, 1203, 31), (130, 1207, 32), (130, 1211, 33), (130, 1215, 1216), (130, 1220, 34), (130, 1226, 0), (130, 1231, 35), (133, 527, 0), (133, 943, 944), (131, 478, 0), (131, 813, 814), (131, 883, 884), (131, 980, 981), (132, 498, 0), (136, 585, 0), (136, 1133, 1134), (136, 1138, 24), (136, 1143, 25), (136, 1148, 26), (136, 1153, 27), (126, 282, 0), (126, 287, 0), (126, 675, 676), (126, 719, 5), (126, 731, 6), (126, 735, 7), (126, 745, 8), (126, 749, 9), (126, 756, 757), (126, 760, 0), (126, 763, 764), (126, 768, 10), (126, 777, 11), (126, 781, 12), (126, 785, 13), (126, 789, 14), (126, 793, 15), (126, 804, 805), (126, 825, 826), (126, 837, 838), (126, 873, 874), (126, 903, 904), (126, 966, 967), (126, 970, 971), (126, 1087, 1088), (126, 1091, 1092), (126, 1320, 1321), (135, 554, 0), (135, 1034, 1035), (135, 1044, 18), (135, 1048, 19), (129, 426, 0), (129, 809, 810), (129, 1247, 1248), (129, 1254, 36), (129, 1258, 37), (129, 1262, 38), (129, 1265, 0), (129, 1273, 39), (129, 1277, 40), (129, 1283, 41), (129, 1293, 1294), (129, 1298, 42), (129, 1302, 43), (129, 1307, 44), (129, 1325, 1326), (128, 366, 0), (128, 800, 801), (128, 829, 830), (128, 841, 842), (128, 845, 846), (128, 849, 850), (128, 860, 861), (128, 864, 865), (128, 868, 869), (128, 887, 888), (128, 894, 895), (128, 907, 908), (128, 915, 916), (128, 923, 924), (128, 931, 932), (128, 939, 940), (128, 949, 16), (128, 957, 958), (128, 963, 17), (128, 1060, 1061), (128, 1073, 1074), (128, 1082, 1083), (121, 156, 0), (121, 209, 0), (121, 663, 664), (121, 679, 680), (121, 684, 1), (121, 688, 2), (121, 691, 0), (121, 694, 0), (121, 698, 3), (121, 702, 4), (121, 705, 0), (121, 708, 0), (121, 714, 715), (121, 722, 723), (121, 726, 727), (121, 739, 740), (121, 752, 753), (121, 771, 772), (121, 796, 797), (121, 1183, 1184), (120, 148, 0), (120, 659, 660), (120, 667, 668), (120, 671, 672), (120, 817, 818), (120, 821, 822), (120, 833, 834), (120, 856, 857), (120, 878, 879), (120, 899, 900), (120, 911, 912), (120, 919, 920), (120, 927, 928), (120, 935, 936), (120, 953, 954), (120, 976, 977), (120, 984, 985), (120, 1001, 1002), (120, 1016, 1017), (120, 1030, 1031), (120, 1052, 1053), (120, 1056, 1057), (120, 1064, 1065), (120, 1069, 20), (120, 1078, 1079), (120, 1095, 1096), (120, 1099, 1100), (120, 1104, 21), (120, 1108, 22), (120, 1112, 23), (120, 1115, 1116), (120, 1119, 1120), (120, 1125, 1126), (120, 1129, 1130), (120, 1162, 1163), (120, 1166, 1167), (120, 1170, 1171), (120, 1239, 1240), (120, 1243, 1244), (120, 1289, 1290), (120, 1316, 1317), (120, 1330, 1331), (120, 1334, 1335), (120, 1342, 1343), (120, 1410, 1411), (120, 1423, 1424), (120, 1432, 1433), (137, 1437, 1438), (137, 1441, 1442), (137, 1446, 46), (137, 1450, 1451), (137, 1455, 0), (137, 1460, 47), (137, 1464, 48), (137, 1607, 1608), (137, 1612, 49), (137, 1616, 50), (137, 1620, 51), (137, 1623, 0), (137, 1626, 0), (137, 1630, 52), (137, 1636, 53), (137, 1640, 54), (137, 1643, 0), (137, 1646, 0), (137, 1650, 55), (137, 1654, 56), (137, 1658, 57), (137, 1662, 58), (137, 1665, 0), (137, 1669, 59), (137, 1673, 60), (137, 1677, 61), (137, 1681, 62), (137, 1685, 63), (137, 1688, 0), (137, 1692, 64), (137, 1696, 65), (137, 1700, 66), (137, 1704, 67), (137, 1708, 68), (137, 1712, 69), (137, 1716, 70), (137, 1720, 71), (137, 1724, 72), (137, 1727, 1728), (137, 1731, 1732), (137, 1736, 73), (137, 1740, 74), (137, 1743, 1744), (137, 1748, 75), (137, 1751, 1752), (137, 1756, 76), (137, 1760, 77), (137, 1763, 0), (137, 1766, 0), (137, 1769, 1770), (137, 1774, 78), (137, 1778, 79), (137, 1781, 0), (137, 1784, 1785), (137, 1789, 80), (137, 1793, 81), (137, 1797, 82), (137, 1800, 1801), (137, 1805, 83), (137, 1808, 1809), (137, 1813, 84), (137, 1816, 1817), (137, 1821, 85), (137, 1824, 1825), (137, 1828, 1829), (137, 1833, 86), (137, 1837, 87), (137, 1841, 1842), (137, 1845, 1846), (137, 1850, 88), (137, 1853, 0), (137, 1857, 89), (137, 1860, 1861), (137, 1865, 90), (137, 1869, 91), (137, 1872, 0), (137, 1875, 0), (137, 1878, 1879), (137, 1882, 1883), (137, 1887, 92), (137, 1891, 1892), (137, 1895, 1896), (137, 1900, 93), (137, 1903, 1904), (137, 1909, 1910), (137, 1914, 94), (137, 1917, 1918), (137, 1921, 1922), (137, 1926, 95), (137, 1929, 1930), (137, 1934, 96), (137, 1938, 97), (137, 1941, 1942), (137, 1945, 1946), (137, 1949, 1950), (137, 1953, 1954), (137, 1957, 1958), (137, 1961, 1962), (137, 1965, 1966), (137, 1970, 98), (137, 1974, 99), (137, 1978, 100), (137, 1982, 101), (137, 1985, 1986), (137, 1989, 1990), (137, 1993, 1994), (137, 1998, 102), (137, 2002, 103), (137, 2006, 104), (137, 2010, 105), (137, 2014, 106), (137, 2018, 107), (137, 2022, 108), (137, 2025, 2026), (137, 2029, 2030), (137, 2034, 109), (137, 2038, 110), (137, 2042, 111), (137, 2046, 112), (137, 2050, 113), (137, 2054, 114), (137, 2058, 115), (137, 2062, 116), (137, 2066, 117), (137, 2069, 2070), (137, 2074, 118), (137, 2077, 2078), (137, 2081, 2082), (137, 2085, 2086), (144, 1310, 0), (127, 290, 0), (127, 993, 0), (119, 1338, 0), (119, 1407, 0), (119, 1420, 0), (119, 1429, 0), (0, 0, 0)]
def mwp9 (M : Nat) : Nat × Nat × Nat := mw9.getD M (0, 0, 0)
/-- what the tables say of a method -/
def okM9 (M : Nat) : Bool := decide (lw_tbl[(mwp9 M).1]? = some (.initialized (cn9 (mO9 M))) ∧ (mY9 M).cls = cn9 (mO9 M) ∧ plainName (mY9 M).cls = true ∧ ((mY9 M).cls ≠ "java/lang/invoke/MethodHandle" ∧ (mY9 M).cls ≠ "java/lang/invoke/VarHandle") ∧ mL9 M ≤ 30) &&
  (bif mS9 M then decide (lw_tbl[(mwp9 M).2.1]? = some (.static (mY9 M))) else
    (decide (lw_tbl[(mwp9 M).2.1]? = some (.instanceMethod (mY9 M))) && (decide ((mY9 M).name = "<init>") || decide (lw_tbl[(mwp9 M).2.2]? = some (.selects (cn9 (mO9 M)) (mY9 M) (mY9 M))))))
set_option maxRecDepth 100000 in
theorem okM9_0 : ∀ j, j < 40 → okM9 (0 + j) = true := by decide +kernel
set_option maxRecDepth 100000 in
theorem okM9_40 : ∀ j, j < 40 → okM9 (40 + j) = true := by decide +kernel
set_option maxRecDepth 100000 in
theorem okM9_80 : ∀ j, j < 40 → okM9 (80 + j) = true := by decide +kernel
set_option maxRecDepth 100000 in
theorem okM9_120 : ∀ j, j < 40 → okM9 (120 + j) = true := by decide +kernel
set_option maxRecDepth 100000 in
theorem okM9_160 : ∀ j, j < 40 → okM9 (160 + j) = true := by decide +kernel
set_option maxRecDepth 100000 in
theorem okM9_200 : ∀ j, j < 40 → okM9 (200 + j) = true := by decide +kernel
set_option maxRecDepth 100000 in
theorem okM9_240 : ∀ j, j < 40 → okM9 (240 + j) = true := by decide +kernel
set_option maxRecDepth 100000 in
theorem okM9_280 : ∀ j, j < 21 → okM9 (280 + j) = true := by decide +kernel
theorem okM9_all {M : Nat} (h : M < 301) : okM9 M = true := by
  by_cases h40 : M < 40
  · exact (show 0 + (M - 0) = M by omega) ▸ okM9_0 (M - 0) (by omega)
  by_cases h80 : M < 80
  · exact (show 40 + (M - 40) = M by omega) ▸ okM9_40 (M - 40) (by omega)
  by_cases h120 : M < 120
  · exact (show 80 + (M - 80) = M by omega) ▸ okM9_80 (M - 80) (by omega)
  by_cases h160 : M < 160
  · exact (show 120 + (M - 120) = M by omega) ▸ okM9_120 (M - 120) (by omega)
  by_cases h200 : M < 200
  · exact (show 160 + (M - 160) = M by omega) ▸ okM9_160 (M - 160) (by omega)
  by_cases h240 : M < 240
  · exact (show 200 + (M - 200) = M by omega) ▸ okM9_200 (M - 200) (by omega)
  by_cases h280 : M < 280
  · exact (show 240 + (M - 240) = M by omega) ▸ okM9_240 (M - 240) (by omega)
  by_cases h301 : M < 301
  · exact (show 280 + (M - 280) = M by omega) ▸ okM9_280 (M - 280) (by omega)
  omega
