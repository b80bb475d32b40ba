/-! Names, words, and that the tables are true of the program (written by program). -/
-- the words that methods need
def xm_gw (w : Cond) : Bool := match w with
  | .fieldLinkNest .. => true
  | .methodLinkNest .. => true
  | w => goodWord w
def xm_tg : List Cond := lw_tbl.filter xm_gw
theorem mt_at (i : Nat) {w : Cond} (h : lw_tbl[i]? = some w) (hg : xm_gw w = true := by rfl) : w ∈ xm_tg := List.mem_filter.mpr ⟨List.mem_of_getElem? h, hg⟩
theorem mt_sub {ws : List Cond} (ps : List Nat) (h : ws = ps.filterMap (fun i => lw_tbl[i]?)) (hg : ws.all xm_gw = true) : ∀ w ∈ ws, w ∈ xm_tg := fun w hw => by
  have g := List.all_eq_true.mp hg w hw
  rw [h] at hw
  obtain ⟨i, -, hi⟩ := List.mem_filterMap.mp hw
  exact List.mem_filter.mpr ⟨List.mem_of_getElem? hi, g⟩
theorem mt_good : ∀ w ∈ xm_tg, goodWord w = true ∨ xm_nst w := fun w hw => by
  have h := (List.mem_filter.mp hw).2
  cases w
  case fieldLinkNest a i b n d e => exact Or.inr (Or.inl ⟨a, i, b, n, d, e, rfl⟩)
  case methodLinkNest a i x e => exact Or.inr (Or.inr ⟨a, i, x, e, rfl⟩)
  all_goals exact Or.inl h
def vT_0 : u_T := fun k => match k with
  | 0 => ("MachineMaker", "book", "LMachineMaker$Book;", true)
  | 1 => ("MachineMaker", "word", "LMachineMaker$Word;", true)
  | 2 => ("MachineMaker", "table", "LMachineMaker$WayTable;", true)
  | 3 => ("MachineMaker", "automaton", "LMachineMaker$Automaton;", true)
  | 4 => ("MachineMaker", "game", "LMachineMaker$Game;", true)
  | _ => ("MachineMaker", "winner", "LMachineMaker$Winner;", true)
def vY_0 : Nat → FieldType := fun k => match k with
  | 0 => .object "MachineMaker$Book"
  | 1 => .object "MachineMaker$Word"
  | 2 => .object "MachineMaker$WayTable"
  | 3 => .object "MachineMaker$Automaton"
  | 4 => .object "MachineMaker$Game"
  | _ => .object "MachineMaker$Winner"
theorem vN_0 : ∀ a, a < 6 → ∀ b, b < 6 → a ≠ b → (vT_0 a).2.1 ≠ (vT_0 b).2.1 := by decide +kernel
theorem vD_0 : ∀ k, k < 6 → parseFieldDescriptor (vT_0 k).2.2.1 = some (vY_0 k) := by decide +kernel
set_option maxRecDepth 20000 in
theorem vW_0 : ∀ w ∈ u_ws "MachineMaker" vT_0 6, w ∈ xm_tg := mt_sub [296, 298, 300, 302, 304, 306] (by decide +kernel) (by decide +kernel)
def vT_1 : u_T := fun k => match k with
  | 0 => ("MachineMaker$Book", "kinds", "[I", true)
  | 1 => ("MachineMaker$Book", "firsts", "[I", true)
  | 2 => ("MachineMaker$Book", "seconds", "[I", true)
  | 3 => ("MachineMaker$Book", "partSets", "[I", true)
  | 4 => ("MachineMaker$Book", "duals", "[I", true)
  | _ => ("MachineMaker$Book", "count", "I", false)
def vY_1 : Nat → FieldType := fun k => match k with
  | 0 => .array .int
  | 1 => .array .int
  | 2 => .array .int
  | 3 => .array .int
  | 4 => .array .int
  | _ => .int
theorem vN_1 : ∀ a, a < 6 → ∀ b, b < 6 → a ≠ b → (vT_1 a).2.1 ≠ (vT_1 b).2.1 := by decide +kernel
theorem vD_1 : ∀ k, k < 6 → parseFieldDescriptor (vT_1 k).2.2.1 = some (vY_1 k) := by decide +kernel
set_option maxRecDepth 20000 in
theorem vW_1 : ∀ w ∈ u_ws "MachineMaker$Book" vT_1 6, w ∈ xm_tg := mt_sub [93, 95, 97, 99, 101, 103] (by decide +kernel) (by decide +kernel)
def vT_2 : u_T := fun k => match k with
  | 0 => ("MachineMaker$Word", "book", "LMachineMaker$Book;", true)
  | 1 => ("MachineMaker$Word", "letters", "[I", true)
  | 2 => ("MachineMaker$Word", "holding", "[I", true)
  | 3 => ("MachineMaker$Word", "length", "I", false)
  | _ => ("MachineMaker$Word", "repeated", "I", false)
def vY_2 : Nat → FieldType := fun k => match k with
  | 0 => .object "MachineMaker$Book"
  | 1 => .array .int
  | 2 => .array .int
  | 3 => .int
  | _ => .int
theorem vN_2 : ∀ a, a < 5 → ∀ b, b < 5 → a ≠ b → (vT_2 a).2.1 ≠ (vT_2 b).2.1 := by decide +kernel
theorem vD_2 : ∀ k, k < 5 → parseFieldDescriptor (vT_2 k).2.2.1 = some (vY_2 k) := by decide +kernel
set_option maxRecDepth 20000 in
theorem vW_2 : ∀ w ∈ u_ws "MachineMaker$Word" vT_2 5, w ∈ xm_tg := mt_sub [118, 120, 122, 124, 126] (by decide +kernel) (by decide +kernel)
def vT_3 : u_T := fun k => match k with
  | 0 => ("MachineMaker$WayTable", "book", "LMachineMaker$Book;", true)
  | 1 => ("MachineMaker$WayTable", "starts", "[I", true)
  | 2 => ("MachineMaker$WayTable", "counts", "[I", true)
  | 3 => ("MachineMaker$WayTable", "kept", "[J", false)
  | 4 => ("MachineMaker$WayTable", "used", "I", false)
  | 5 => ("MachineMaker$WayTable", "found", "LMachineMaker$WaySet;", true)
  | 6 => ("MachineMaker$WayTable", "joinedOnce", "LMachineMaker$WaySet;", true)
  | _ => ("MachineMaker$WayTable", "joinedTwice", "LMachineMaker$WaySet;", true)
def vY_3 : Nat → FieldType := fun k => match k with
  | 0 => .object "MachineMaker$Book"
  | 1 => .array .int
  | 2 => .array .int
  | 3 => .array .long
  | 4 => .int
  | 5 => .object "MachineMaker$WaySet"
  | 6 => .object "MachineMaker$WaySet"
  | _ => .object "MachineMaker$WaySet"
theorem vN_3 : ∀ a, a < 8 → ∀ b, b < 8 → a ≠ b → (vT_3 a).2.1 ≠ (vT_3 b).2.1 := by decide +kernel
theorem vD_3 : ∀ k, k < 8 → parseFieldDescriptor (vT_3 k).2.2.1 = some (vY_3 k) := by decide +kernel
set_option maxRecDepth 20000 in
theorem vW_3 : ∀ w ∈ u_ws "MachineMaker$WayTable" vT_3 8, w ∈ xm_tg := mt_sub [167, 169, 171, 173, 175, 177, 179, 181] (by decide +kernel) (by decide +kernel)
def vT_4 : u_T := fun k => match k with
  | 0 => ("MachineMaker$WaySet", "ways", "[J", true)
  | 1 => ("MachineMaker$WaySet", "count", "I", false)
  | _ => ("MachineMaker$WaySet", "over", "Z", false)
def vY_4 : Nat → FieldType := fun k => match k with
  | 0 => .array .long
  | 1 => .int
  | _ => .boolean
theorem vN_4 : ∀ a, a < 3 → ∀ b, b < 3 → a ≠ b → (vT_4 a).2.1 ≠ (vT_4 b).2.1 := by decide +kernel
theorem vD_4 : ∀ k, k < 3 → parseFieldDescriptor (vT_4 k).2.2.1 = some (vY_4 k) := by decide +kernel
set_option maxRecDepth 20000 in
theorem vW_4 : ∀ w ∈ u_ws "MachineMaker$WaySet" vT_4 3, w ∈ xm_tg := mt_sub [150, 152, 154] (by decide +kernel) (by decide +kernel)
def vT_5 : u_T := fun k => match k with
  | 0 => ("MachineMaker$Automaton", "book", "LMachineMaker$Book;", true)
  | 1 => ("MachineMaker$Automaton", "table", "LMachineMaker$WayTable;", true)
  | 2 => ("MachineMaker$Automaton", "untils", "[I", true)
  | 3 => ("MachineMaker$Automaton", "untilCount", "I", false)
  | 4 => ("MachineMaker$Automaton", "sets", "[I", true)
  | 5 => ("MachineMaker$Automaton", "numbers", "[I", true)
  | 6 => ("MachineMaker$Automaton", "count", "I", false)
  | 7 => ("MachineMaker$Automaton", "steps", "[I", true)
  | _ => ("MachineMaker$Automaton", "goodSteps", "[I", true)
def vY_5 : Nat → FieldType := fun k => match k with
  | 0 => .object "MachineMaker$Book"
  | 1 => .object "MachineMaker$WayTable"
  | 2 => .array .int
  | 3 => .int
  | 4 => .array .int
  | 5 => .array .int
  | 6 => .int
  | 7 => .array .int
  | _ => .array .int
theorem vN_5 : ∀ a, a < 9 → ∀ b, b < 9 → a ≠ b → (vT_5 a).2.1 ≠ (vT_5 b).2.1 := by decide +kernel
theorem vD_5 : ∀ k, k < 9 → parseFieldDescriptor (vT_5 k).2.2.1 = some (vY_5 k) := by decide +kernel
set_option maxRecDepth 20000 in
theorem vW_5 : ∀ w ∈ u_ws "MachineMaker$Automaton" vT_5 9, w ∈ xm_tg := mt_sub [203, 205, 207, 209, 211, 213, 215, 217, 219] (by decide +kernel) (by decide +kernel)
def vT_6 : u_T := fun k => match k with
  | 0 => ("MachineMaker$Game", "automaton", "LMachineMaker$Automaton;", true)
  | 1 => ("MachineMaker$Game", "rows", "[J", true)
  | 2 => ("MachineMaker$Game", "count", "I", false)
  | 3 => ("MachineMaker$Game", "followers", "[I", true)
  | 4 => ("MachineMaker$Game", "safe", "[Z", true)
  | _ => ("MachineMaker$Game", "safeCount", "I", false)
def vY_6 : Nat → FieldType := fun k => match k with
  | 0 => .object "MachineMaker$Automaton"
  | 1 => .array .long
  | 2 => .int
  | 3 => .array .int
  | 4 => .array .boolean
  | _ => .int
theorem vN_6 : ∀ a, a < 6 → ∀ b, b < 6 → a ≠ b → (vT_6 a).2.1 ≠ (vT_6 b).2.1 := by decide +kernel
theorem vD_6 : ∀ k, k < 6 → parseFieldDescriptor (vT_6 k).2.2.1 = some (vY_6 k) := by decide +kernel
set_option maxRecDepth 20000 in
theorem vW_6 : ∀ w ∈ u_ws "MachineMaker$Game" vT_6 6, w ∈ xm_tg := mt_sub [236, 238, 240, 242, 244, 246] (by decide +kernel) (by decide +kernel)
def vT_7 : u_T := fun k => match k with
  | 0 => ("MachineMaker$Winner", "game", "LMachineMaker$Game;", true)
  | 1 => ("MachineMaker$Winner", "kind", "I", false)
  | 2 => ("MachineMaker$Winner", "count", "I", false)
  | 3 => ("MachineMaker$Winner", "positions", "I", false)
  | 4 => ("MachineMaker$Winner", "safePositions", "I", false)
  | 5 => ("MachineMaker$Winner", "positionOfState", "[I", true)
  | 6 => ("MachineMaker$Winner", "stateOfPosition", "[I", true)
  | 7 => ("MachineMaker$Winner", "answers", "[I", true)
  | _ => ("MachineMaker$Winner", "followers", "[I", true)
def vY_7 : Nat → FieldType := fun k => match k with
  | 0 => .object "MachineMaker$Game"
  | 1 => .int
  | 2 => .int
  | 3 => .int
  | 4 => .int
  | 5 => .array .int
  | 6 => .array .int
  | 7 => .array .int
  | _ => .array .int
theorem vN_7 : ∀ a, a < 9 → ∀ b, b < 9 → a ≠ b → (vT_7 a).2.1 ≠ (vT_7 b).2.1 := by decide +kernel
theorem vD_7 : ∀ k, k < 9 → parseFieldDescriptor (vT_7 k).2.2.1 = some (vY_7 k) := by decide +kernel
set_option maxRecDepth 20000 in
theorem vW_7 : ∀ w ∈ u_ws "MachineMaker$Winner" vT_7 9, w ∈ xm_tg := mt_sub [271, 273, 275, 277, 279, 281, 283, 285, 287] (by decide +kernel) (by decide +kernel)
def vT_8 : u_T := fun k => match k with
  | 0 => ("MachineMakerModel", "count", "I", false)
  | 1 => ("MachineMakerModel", "kind", "[I", false)
  | 2 => ("MachineMakerModel", "one", "[I", false)
  | 3 => ("MachineMakerModel", "two", "[I", false)
  | 4 => ("MachineMakerModel", "dualOf", "[I", false)
  | 5 => ("MachineMakerModel", "stack", "[I", false)
  | 6 => ("MachineMakerModel", "way", "[J", false)
  | 7 => ("MachineMakerModel", "many", "[I", false)
  | 8 => ("MachineMakerModel", "joined", "[J", false)
  | 9 => ("MachineMakerModel", "joinedMany", "I", false)
  | 10 => ("MachineMakerModel", "spare", "[J", false)
  | 11 => ("MachineMakerModel", "states", "I", false)
  | 12 => ("MachineMakerModel", "set", "[I", false)
  | 13 => ("MachineMakerModel", "number", "[I", false)
  | 14 => ("MachineMakerModel", "step", "[I", false)
  | 15 => ("MachineMakerModel", "goodStep", "[I", false)
  | 16 => ("MachineMakerModel", "untils", "[I", false)
  | 17 => ("MachineMakerModel", "untilCount", "I", false)
  | 18 => ("MachineMakerModel", "positions", "I", false)
  | 19 => ("MachineMakerModel", "position", "[J", false)
  | 20 => ("MachineMakerModel", "to", "[I", false)
  | 21 => ("MachineMakerModel", "safe", "[Z", false)
  | 22 => ("MachineMakerModel", "safeCount", "I", false)
  | 23 => ("MachineMakerModel", "found", "I", false)
  | 24 => ("MachineMakerModel", "size", "I", false)
  | 25 => ("MachineMakerModel", "sizePositions", "I", false)
  | 26 => ("MachineMakerModel", "sizeSafe", "I", false)
  | 27 => ("MachineMakerModel", "numbered", "[I", false)
  | 28 => ("MachineMakerModel", "places", "[I", false)
  | 29 => ("MachineMakerModel", "answer", "[I", false)
  | 30 => ("MachineMakerModel", "follow", "[I", false)
  | _ => ("MachineMakerModel", "mask", "[I", false)
def vY_8 : Nat → FieldType := fun k => match k with
  | 0 => .int
  | 1 => .array .int
  | 2 => .array .int
  | 3 => .array .int
  | 4 => .array .int
  | 5 => .array .int
  | 6 => .array .long
  | 7 => .array .int
  | 8 => .array .long
  | 9 => .int
  | 10 => .array .long
  | 11 => .int
  | 12 => .array .int
  | 13 => .array .int
  | 14 => .array .int
  | 15 => .array .int
  | 16 => .array .int
  | 17 => .int
  | 18 => .int
  | 19 => .array .long
  | 20 => .array .int
  | 21 => .array .boolean
  | 22 => .int
  | 23 => .int
  | 24 => .int
  | 25 => .int
  | 26 => .int
  | 27 => .array .int
  | 28 => .array .int
  | 29 => .array .int
  | 30 => .array .int
  | _ => .array .int
theorem vN_8 : ∀ a, a < 32 → ∀ b, b < 32 → a ≠ b → (vT_8 a).2.1 ≠ (vT_8 b).2.1 := by decide +kernel
theorem vD_8 : ∀ k, k < 32 → parseFieldDescriptor (vT_8 k).2.2.1 = some (vY_8 k) := by decide +kernel
set_option maxRecDepth 20000 in
theorem vW_8 : ∀ w ∈ u_ws "MachineMakerModel" vT_8 32, w ∈ xm_tg := mt_sub [634, 636, 638, 640, 642, 644, 646, 648, 650, 652, 654, 656, 658, 660, 662, 664, 666, 668, 670, 672, 674, 676, 678, 680, 682, 684, 686, 688, 690, 692, 694, 696] (by decide +kernel) (by decide +kernel)
def xm_vc : List vw_C := [("MachineMaker", vT_0, 6), ("MachineMaker$Book", vT_1, 6), ("MachineMaker$Word", vT_2, 5), ("MachineMaker$WayTable", vT_3, 8), ("MachineMaker$WaySet", vT_4, 3), ("MachineMaker$Automaton", vT_5, 9), ("MachineMaker$Game", vT_6, 6), ("MachineMaker$Winner", vT_7, 9), ("MachineMakerModel", vT_8, 32)]
def xm_nl : List (List MethodName) := [[⟨"MachineMakerLaw", "law", "([I)Z"⟩, ⟨"MachineMaker", "<init>", "()V"⟩, ⟨"MachineMaker$Book", "<init>", "()V"⟩, ⟨"java/util/Arrays", "fill", "([II)V"⟩, ⟨"MachineMaker$Word", "<init>", "(LMachineMaker$Book;)V"⟩, ⟨"MachineMaker$WayTable", "<init>", "(LMachineMaker$Book;)V"⟩, ⟨"MachineMaker$WaySet", "<init>", "()V"⟩, ⟨"MachineMaker$Automaton", "<init>", "(LMachineMaker$Book;LMachineMaker$WayTable;)V"⟩, ⟨"MachineMaker$Game", "<init>", "(LMachineMaker$Automaton;)V"⟩, ⟨"MachineMaker$Winner", "<init>", "(LMachineMaker$Game;)V"⟩, ⟨"MachineMaker", "formula", "(III)I"⟩, ⟨"MachineMaker$Book", "canBuild", "(III)Z"⟩, ⟨"MachineMaker$Book", "knows", "(I)Z"⟩, ⟨"MachineMaker$Book", "hasTwoParts", "(I)Z"⟩, ⟨"MachineMaker$Book", "looksAtFirst", "(I)Z"⟩, ⟨"MachineMaker$Book", "looksAtSecond", "(I)Z"⟩], [⟨"MachineMaker$Book", "build", "(III)I"⟩, ⟨"MachineMaker$Book", "hasParts", "(I)Z"⟩, ⟨"MachineMaker", "dual", "(I)I"⟩, ⟨"MachineMaker$Book", "buildDual", "(II)I"⟩, ⟨"MachineMaker", "formulas", "()I"⟩, ⟨"MachineMaker", "has", "(IJIJI)I"⟩, ⟨"MachineMaker$Word", "write", "(JIJI)V"⟩, ⟨"MachineMaker$Word", "beginsWith", "(I)Z"⟩, ⟨"MachineMaker$Book", "isPart", "(II)Z"⟩, ⟨"MachineMaker$Word", "placesOf", "(I)I"⟩, ⟨"MachineMaker$Word", "everywhere", "()I"⟩, ⟨"MachineMaker$Word", "placesWithBit", "(I)I"⟩, ⟨"MachineMaker$Word", "placesAhead", "(I)I"⟩, ⟨"MachineMaker$Word", "placesOfUntil", "(II)I"⟩, ⟨"MachineMaker$Word", "placesOfRelease", "(II)I"⟩, ⟨"MachineMaker", "ways", "(II)I"⟩], [⟨"MachineMaker$WayTable", "learn", "(II)Z"⟩, ⟨"MachineMaker$WayTable", "cell", "(II)I"⟩, ⟨"MachineMaker$WayTable", "find", "(II)V"⟩, ⟨"MachineMaker$WaySet", "clear", "()V"⟩, ⟨"MachineMaker$WaySet", "add", "(J)V"⟩, ⟨"MachineMaker$WayTable", "findJoined", "(III)V"⟩, ⟨"MachineMaker$WayTable", "addEach", "(LMachineMaker$WaySet;IIJ)V"⟩, ⟨"MachineMaker$WaySet", "toHoldNext", "(I)J"⟩, ⟨"MachineMaker$WaySet", "putOff", "(I)J"⟩, ⟨"MachineMaker$WayTable", "keepFound", "(I)V"⟩, ⟨"java/util/Arrays", "copyOf", "([JI)[J"⟩, ⟨"java/lang/Math", "min", "(II)I"⟩, ⟨"MachineMaker$WayTable", "count", "(II)I"⟩, ⟨"MachineMaker", "states", "(I)I"⟩, ⟨"MachineMaker$Automaton", "build", "(I)Z"⟩, ⟨"MachineMaker$Automaton", "listUntils", "(I)V"⟩], [⟨"MachineMaker$Automaton", "addSteps", "(II)Z"⟩, ⟨"MachineMaker$WayTable", "waysOfSet", "(II)LMachineMaker$WaySet;"⟩, ⟨"MachineMaker$WaySet", "putOffSet", "(J)I"⟩, ⟨"MachineMaker$Automaton", "firstPutOff", "(II)I"⟩, ⟨"MachineMaker$WaySet", "nextSet", "(J)I"⟩, ⟨"MachineMaker$Automaton", "stateOf", "(II)I"⟩, ⟨"MachineMaker", "solve", "(II)I"⟩, ⟨"MachineMaker$Winner", "forget", "()V"⟩, ⟨"MachineMaker$Game", "explore", "(I)Z"⟩, ⟨"MachineMaker$Game", "raised", "(JII)J"⟩, ⟨"MachineMaker$Game", "counterOf", "(JI)I"⟩, ⟨"MachineMaker$Game", "rowAfter", "(JII)J"⟩, ⟨"MachineMaker$Game", "allRaised", "(JII)J"⟩, ⟨"MachineMaker$Game", "positionOf", "(J)I"⟩, ⟨"MachineMaker$Game", "isWonBy", "(I)Z"⟩, ⟨"MachineMaker$Game", "dropUnsafe", "(I)Z"⟩], [⟨"MachineMaker$Game", "canStaySafe", "(II)Z"⟩, ⟨"MachineMaker$Game", "safeInput", "(I)I"⟩, ⟨"MachineMaker$Game", "isSafeBy", "(III)Z"⟩, ⟨"MachineMaker$Game", "follower", "(III)I"⟩, ⟨"MachineMaker$Game", "safeOutput", "(II)I"⟩, ⟨"MachineMaker$Winner", "takeMachine", "()V"⟩, ⟨"MachineMaker$Winner", "begin", "(I)V"⟩, ⟨"MachineMaker$Winner", "stateOf", "(I)I"⟩, ⟨"MachineMaker$Winner", "addStep", "(IIII)V"⟩, ⟨"MachineMaker$Winner", "takeOpponent", "()V"⟩, ⟨"MachineMaker", "size", "(I)I"⟩, ⟨"MachineMaker", "gives", "(II)I"⟩, ⟨"MachineMaker$Winner", "knows", "(I)Z"⟩, ⟨"MachineMaker", "isSignal", "(I)Z"⟩, ⟨"MachineMaker", "next", "(II)I"⟩, ⟨"MachineMakerModel", "<init>", "()V"⟩], [⟨"MachineMakerModel", "formula", "(III)I"⟩, ⟨"MachineMakerModel", "isFormula", "(I)Z"⟩, ⟨"MachineMakerModel", "hasTwo", "(I)Z"⟩, ⟨"MachineMakerModel", "make", "(III)I"⟩, ⟨"MachineMakerModel", "dual", "(I)I"⟩, ⟨"MachineMakerModel", "dualKind", "(I)I"⟩, ⟨"MachineMakerModel", "formulas", "()I"⟩, ⟨"MachineMakerModel", "has", "(IJIJI)I"⟩, ⟨"MachineMakerModel", "letterAt", "(JIJI)I"⟩, ⟨"MachineMakerModel", "ahead", "(III)I"⟩, ⟨"MachineMakerModel", "fixed", "(IIZII)I"⟩, ⟨"MachineMakerModel", "ways", "(II)I"⟩, ⟨"MachineMakerModel", "waysUpTo", "(II)V"⟩, ⟨"MachineMakerModel", "waysOf", "(II)V"⟩, ⟨"MachineMakerModel", "addWay", "(IJ)V"⟩, ⟨"MachineMakerModel", "addJoined", "(III)V"⟩], [⟨"MachineMakerModel", "addAll", "(IIJ)V"⟩, ⟨"MachineMakerModel", "states", "(I)I"⟩, ⟨"MachineMakerModel", "automaton", "(I)Z"⟩, ⟨"MachineMakerModel", "findUntils", "(I)V"⟩, ⟨"MachineMakerModel", "stateOf", "(II)I"⟩, ⟨"MachineMakerModel", "join", "(I)Z"⟩, ⟨"MachineMakerModel", "keep", "(IJ)V"⟩, ⟨"MachineMakerModel", "goFrom", "(II)V"⟩, ⟨"MachineMakerModel", "solve", "(II)I"⟩, ⟨"MachineMakerModel", "game", "(I)Z"⟩, ⟨"MachineMakerModel", "positionOf", "(J)I"⟩, ⟨"MachineMakerModel", "after", "(JII)J"⟩, ⟨"MachineMakerModel", "counter", "(JI)I"⟩, ⟨"MachineMakerModel", "findSafe", "(Z)V"⟩, ⟨"MachineMakerModel", "stays", "(IZ)Z"⟩, ⟨"MachineMakerModel", "input", "(I)I"⟩], [⟨"MachineMakerModel", "isSafe", "(I)Z"⟩, ⟨"MachineMakerModel", "output", "(II)I"⟩, ⟨"MachineMakerModel", "build", "(Z)V"⟩, ⟨"MachineMakerModel", "numberOf", "(I)I"⟩, ⟨"MachineMakerModel", "size", "(I)I"⟩, ⟨"MachineMakerModel", "gives", "(II)I"⟩, ⟨"MachineMakerModel", "isThere", "(II)Z"⟩, ⟨"MachineMakerModel", "next", "(II)I"⟩]]
def xm_bl : List (List ByteArray) := [[code, prog_1_method_1_code, prog_3_method_1_code, prog_14_method_103_code, prog_8_method_1_code, prog_6_method_1_code, prog_5_method_1_code, prog_2_method_1_code, prog_4_method_1_code, prog_7_method_1_code, prog_1_method_2_code, prog_3_method_7_code, prog_3_method_2_code, prog_3_method_3_code, prog_3_method_5_code, prog_3_method_6_code], [prog_3_method_8_code, prog_3_method_4_code, prog_1_method_3_code, prog_3_method_9_code, prog_1_method_4_code, prog_1_method_5_code, prog_8_method_2_code, prog_8_method_3_code, prog_3_method_10_code, prog_8_method_4_code, prog_8_method_5_code, prog_8_method_6_code, prog_8_method_7_code, prog_8_method_8_code, prog_8_method_9_code, prog_1_method_6_code], [prog_6_method_4_code, prog_6_method_2_code, prog_6_method_6_code, prog_5_method_2_code, prog_5_method_3_code, prog_6_method_7_code, prog_6_method_8_code, prog_5_method_4_code, prog_5_method_5_code, prog_6_method_5_code, prog_14_method_124_code, prog_12_method_69_code, prog_6_method_3_code, prog_1_method_7_code, prog_2_method_2_code, prog_2_method_3_code], [prog_2_method_4_code, prog_6_method_9_code, prog_5_method_7_code, prog_2_method_5_code, prog_5_method_6_code, prog_2_method_6_code, prog_1_method_8_code, prog_7_method_3_code, prog_4_method_2_code, prog_4_method_4_code, prog_4_method_3_code, prog_4_method_6_code, prog_4_method_5_code, prog_4_method_7_code, prog_4_method_9_code, prog_4_method_10_code], [prog_4_method_11_code, prog_4_method_14_code, prog_4_method_12_code, prog_4_method_8_code, prog_4_method_13_code, prog_7_method_4_code, prog_7_method_6_code, prog_7_method_8_code, prog_7_method_7_code, prog_7_method_5_code, prog_1_method_9_code, prog_1_method_10_code, prog_7_method_2_code, prog_1_method_12_code, prog_1_method_11_code, prog_10_method_1_code], [prog_10_method_5_code, prog_10_method_2_code, prog_10_method_3_code, prog_10_method_4_code, prog_10_method_7_code, prog_10_method_6_code, prog_10_method_8_code, prog_10_method_12_code, prog_10_method_9_code, prog_10_method_10_code, prog_10_method_11_code, prog_10_method_18_code, prog_10_method_17_code, prog_10_method_16_code, prog_10_method_13_code, prog_10_method_15_code], [prog_10_method_14_code, prog_10_method_25_code, prog_10_method_24_code, prog_10_method_21_code, prog_10_method_22_code, prog_10_method_20_code, prog_10_method_19_code, prog_10_method_23_code, prog_10_method_37_code, prog_10_method_29_code, prog_10_method_28_code, prog_10_method_27_code, prog_10_method_26_code, prog_10_method_34_code, prog_10_method_33_code, prog_10_method_32_code], [prog_10_method_30_code, prog_10_method_31_code, prog_10_method_36_code, prog_10_method_35_code, prog_10_method_38_code, prog_10_method_40_code, prog_10_method_39_code, prog_10_method_41_code]]
def xm_rl : List (List (Option FieldType)) := [[some .boolean, none, none, none, none, none, none, none, none, none, some .int, some .boolean, some .boolean, some .boolean, some .boolean, some .boolean], [some .int, some .boolean, some .int, some .int, some .int, some .int, none, some .boolean, some .boolean, some .int, some .int, some .int, some .int, some .int, some .int, some .int], [some .boolean, some .int, none, none, none, none, none, some .long, some .long, none, some (.array .long), some .int, some .int, some .int, some .boolean, none], [some .boolean, some (.object "MachineMaker$WaySet"), some .int, some .int, some .int, some .int, some .int, none, some .boolean, some .long, some .int, some .long, some .long, some .int, some .boolean, some .boolean], [some .boolean, some .int, some .boolean, some .int, some .int, none, none, some .int, none, none, some .int, some .int, some .boolean, some .boolean, some .int, none], [some .int, some .boolean, some .boolean, some .int, some .int, some .int, some .int, some .int, some .int, some .int, some .int, some .int, none, none, none, none], [none, some .int, some .boolean, none, some .int, some .boolean, none, none, some .int, some .boolean, some .int, some .long, some .int, none, some .boolean, some .int], [some .boolean, some .int, none, some .int, some .int, some .int, some .boolean, some .int]]
def ng : xm_N := (fun y => xm_nn ⟨"", "", ""⟩ y xm_nl, fun y => xm_nn ⟨#[]⟩ y xm_bl, fun y => xm_nn none y xm_rl, xm_tg)
