/-! ===== BEGIN words of one list among another's, by their places ===== -/
theorem goodIn_r {big : List Cond} (ws : List Cond) (ps : List Nat) (hp : ws = ps.filterMap (fun i => big[i]?)) (h : ws.all goodWord = true) : GoodIn big ws := by
  intro w hw
  have h1 := List.all_eq_true.mp h w hw
  rw [hp] at hw
  obtain ⟨i, -, hi⟩ := List.mem_filterMap.mp hw
  have hm : w ∈ big := by first | exact List.mem_of_getElem? hi | exact List.getElem?_mem hi
  exact ⟨hm, good_of_word h1⟩
theorem goodIn_app {big a b : List Cond} (ha : GoodIn big a) (hb : GoodIn big b) : GoodIn big (a ++ b) := fun w h => (List.mem_append.mp h).elim (ha w) (hb w)
theorem goodIn_ca {big a b : List Cond} {c : Cond} (ha : GoodIn big (c :: a)) (hb : GoodIn big b) : GoodIn big (c :: (a ++ b)) := fun w h => (List.mem_cons.mp h).elim (fun e => ha w (List.mem_cons.mpr (Or.inl e))) (fun h => (List.mem_append.mp h).elim (fun h => ha w (List.mem_cons.mpr (Or.inr h))) (hb w))
theorem goodIn_sub {big ws : List Cond} (hm : ∀ w ∈ ws, w ∈ big) (h : ws.all goodWord = true) : GoodIn big ws := fun w hw => ⟨hm w hw, good_of_word (List.all_eq_true.mp h w hw)⟩
/-! ===== END ===== -/

/-! ===== BEGIN printed: names, fields, word lists, decode rows ===== -/
def RX0 : String := "CarThreads$Node"
def TX0 : u_T := fun k => match k with
  | 0 => ("CarThreads$Node", "number", "I", true)
  | 1 => ("CarThreads$Node", "steps", "I", true)
  | 2 => ("CarThreads$Node", "failsAt", "I", true)
  | 3 => ("CarThreads$Node", "awaitedBefore", "[LCarThreads$Node;", true)
  | 4 => ("CarThreads$Node", "done", "I", false)
  | 5 => ("CarThreads$Node", "alive", "Z", false)
  | 6 => ("CarThreads$Node", "ready", "Z", false)
  | 7 => ("CarThreads$Node", "toBeNoted", "Z", false)
  | 8 => ("CarThreads$Node", "interrupted", "Z", false)
  | 9 => ("CarThreads$Node", "tookSafeWay", "Z", false)
  | 10 => ("CarThreads$Node", "lastPartsDone", "I", false)
  | _ => ("CarThreads$Node", "cutMicro", "J", false)
def tyX0 : Nat → FieldType := fun k => match k with
  | 0 => .int
  | 1 => .int
  | 2 => .int
  | 3 => .array (.object "CarThreads$Node")
  | 4 => .int
  | 5 => .boolean
  | 6 => .boolean
  | 7 => .boolean
  | 8 => .boolean
  | 9 => .boolean
  | 10 => .int
  | _ => .long
abbrev wsX00 : List Cond := u_ws RX0 TX0 12
theorem nmX0 : ∀ a, a < 12 → ∀ b, b < 12 → a ≠ b → (TX0 a).2.1 ≠ (TX0 b).2.1 := by decide +kernel
theorem tyX0_ok : ∀ k, k < 12 → parseFieldDescriptor (TX0 k).2.2.1 = some (tyX0 k) := by decide +kernel
abbrev cX0_init : ByteArray := prog_2_method_1_code
def yX0_init : MethodName := ⟨RX0, "<init>", "(III)V"⟩
abbrev cX0_hasYetToDo : ByteArray := prog_2_method_2_code
def yX0_hasYetToDo : MethodName := ⟨RX0, "hasYetToDo", "(I)Z"⟩
abbrev cX0_waitsForAnother : ByteArray := prog_2_method_3_code
def yX0_waitsForAnother : MethodName := ⟨RX0, "waitsForAnother", "()Z"⟩
def RX1 : String := "CarThreads"
def TX1 : u_T := fun k => match k with
  | 0 => ("CarThreads", "nodes", "[LCarThreads$Node;", true)
  | 1 => ("CarThreads", "nodeCount", "I", false)
  | 2 => ("CarThreads", "holders", "[LCarThreads$Node;", true)
  | 3 => ("CarThreads", "turnRow", "[I", true)
  | 4 => ("CarThreads", "turnCount", "I", false)
  | 5 => ("CarThreads", "logRow", "[I", true)
  | 6 => ("CarThreads", "logCount", "I", false)
  | 7 => ("CarThreads", "barrierSize", "I", false)
  | _ => ("CarThreads", "nextMicro", "J", false)
def tyX1 : Nat → FieldType := fun k => match k with
  | 0 => .array (.object "CarThreads$Node")
  | 1 => .int
  | 2 => .array (.object "CarThreads$Node")
  | 3 => .array .int
  | 4 => .int
  | 5 => .array .int
  | 6 => .int
  | 7 => .int
  | _ => .long
abbrev wsX10 : List Cond := u_ws RX1 TX1 9
theorem nmX1 : ∀ a, a < 9 → ∀ b, b < 9 → a ≠ b → (TX1 a).2.1 ≠ (TX1 b).2.1 := by decide +kernel
theorem tyX1_ok : ∀ k, k < 9 → parseFieldDescriptor (TX1 k).2.2.1 = some (tyX1 k) := by decide +kernel
abbrev cX1_init : ByteArray := prog_1_method_1_code
def yX1_init : MethodName := ⟨RX1, "<init>", "()V"⟩
abbrev cX1_node : ByteArray := prog_1_method_2_code
def yX1_node : MethodName := ⟨RX1, "node", "(II)I"⟩
abbrev cX1_waits : ByteArray := prog_1_method_3_code
def yX1_waits : MethodName := ⟨RX1, "waits", "(III)Z"⟩
abbrev cX1_turn : ByteArray := prog_1_method_4_code
def yX1_turn : MethodName := ⟨RX1, "turn", "(I)V"⟩
abbrev cX1_run : ByteArray := prog_1_method_5_code
def yX1_run : MethodName := ⟨RX1, "run", "()I"⟩
abbrev cX1_log : ByteArray := prog_1_method_6_code
def yX1_log : MethodName := ⟨RX1, "log", "(I)I"⟩
abbrev cX1_safe : ByteArray := prog_1_method_7_code
def yX1_safe : MethodName := ⟨RX1, "safe", "(I)I"⟩
abbrev cX1_cut : ByteArray := prog_1_method_8_code
def yX1_cut : MethodName := ⟨RX1, "cut", "(IJ)I"⟩
abbrev cX1_interrupt : ByteArray := prog_1_method_9_code
def yX1_interrupt : MethodName := ⟨RX1, "interrupt", "(I)Z"⟩
abbrev cX1_held : ByteArray := prog_1_method_10_code
def yX1_held : MethodName := ⟨RX1, "held", "(II)I"⟩
abbrev cX1_barrier : ByteArray := prog_1_method_11_code
def yX1_barrier : MethodName := ⟨RX1, "barrier", "(I)I"⟩
abbrev cX1_finished : ByteArray := prog_1_method_12_code
def yX1_finished : MethodName := ⟨RX1, "finished", "(I)I"⟩
abbrev cX1_close : ByteArray := prog_1_method_13_code
def yX1_close : MethodName := ⟨RX1, "close", "()I"⟩
abbrev cX1_isKnown : ByteArray := prog_1_method_14_code
def yX1_isKnown : MethodName := ⟨RX1, "isKnown", "(I)Z"⟩
abbrev cX1_nodeOrNull : ByteArray := prog_1_method_15_code
def yX1_nodeOrNull : MethodName := ⟨RX1, "nodeOrNull", "(I)LCarThreads$Node;"⟩
abbrev cX1_microsecondHappens : ByteArray := prog_1_method_16_code
def yX1_microsecondHappens : MethodName := ⟨RX1, "microsecondHappens", "()Z"⟩
abbrev cX1_endNodesCutNow : ByteArray := prog_1_method_17_code
def yX1_endNodesCutNow : MethodName := ⟨RX1, "endNodesCutNow", "()V"⟩
abbrev cX1_findReady : ByteArray := prog_1_method_18_code
def yX1_findReady : MethodName := ⟨RX1, "findReady", "()Z"⟩
abbrev cX1_leastDoneByAlive : ByteArray := prog_1_method_19_code
def yX1_leastDoneByAlive : MethodName := ⟨RX1, "leastDoneByAlive", "()I"⟩
abbrev cX1_waitsAtBarrier : ByteArray := prog_1_method_20_code
def yX1_waitsAtBarrier : MethodName := ⟨RX1, "waitsAtBarrier", "(LCarThreads$Node;I)Z"⟩
abbrev cX1_stepInTurns : ByteArray := prog_1_method_21_code
def yX1_stepInTurns : MethodName := ⟨RX1, "stepInTurns", "()V"⟩
abbrev cX1_stepOthers : ByteArray := prog_1_method_22_code
def yX1_stepOthers : MethodName := ⟨RX1, "stepOthers", "()V"⟩
abbrev cX1_stepOnce : ByteArray := prog_1_method_23_code
def yX1_stepOnce : MethodName := ⟨RX1, "stepOnce", "(LCarThreads$Node;)V"⟩
abbrev cX1_noteSteps : ByteArray := prog_1_method_24_code
def yX1_noteSteps : MethodName := ⟨RX1, "noteSteps", "()V"⟩
abbrev cX1_note : ByteArray := prog_1_method_25_code
def yX1_note : MethodName := ⟨RX1, "note", "(I)V"⟩
abbrev cX1_endNode : ByteArray := prog_1_method_26_code
def yX1_endNode : MethodName := ⟨RX1, "endNode", "(LCarThreads$Node;)V"⟩
abbrev cX1_countThingsOf : ByteArray := prog_1_method_27_code
def yX1_countThingsOf : MethodName := ⟨RX1, "countThingsOf", "(LCarThreads$Node;)I"⟩
def RX2 : String := "CarThreadsModel"
def TX2 : u_T := fun k => match k with
  | 0 => ("CarThreadsModel", "code", "I", false)
  | 1 => ("CarThreadsModel", "nodes", "I", false)
  | _ => ("CarThreadsModel", "steps", "[I", true)
def tyX2 : Nat → FieldType := fun k => match k with
  | 0 => .int
  | 1 => .int
  | _ => .array .int
abbrev wsX20 : List Cond := u_ws RX2 TX2 3
theorem nmX2 : ∀ a, a < 3 → ∀ b, b < 3 → a ≠ b → (TX2 a).2.1 ≠ (TX2 b).2.1 := by decide +kernel
theorem tyX2_ok : ∀ k, k < 3 → parseFieldDescriptor (TX2 k).2.2.1 = some (tyX2 k) := by decide +kernel
abbrev cX2_init : ByteArray := prog_4_method_1_code
def yX2_init : MethodName := ⟨RX2, "<init>", "()V"⟩
def RJ9 : String := "java/lang/Math"
def TJ9 : u_T := fun k => match k with
  | _ => ("", "", "", false)
def tyJ9 : Nat → FieldType := fun k => match k with
  | _ => .int
abbrev wsJ90 : List Cond := u_ws RJ9 TJ9 0
theorem nmJ9 : ∀ a, a < 0 → ∀ b, b < 0 → a ≠ b → (TJ9 a).2.1 ≠ (TJ9 b).2.1 := by decide +kernel
theorem tyJ9_ok : ∀ k, k < 0 → parseFieldDescriptor (TJ9 k).2.2.1 = some (tyJ9 k) := by decide +kernel
abbrev cJ9_min_7cf53 : ByteArray := prog_5_method_69_code
def yJ9_min_7cf53 : MethodName := ⟨RJ9, "min", "(II)I"⟩
def RL : String := "CarThreadsLaw"
abbrev cL_law : ByteArray := code
def yL_law : MethodName := ⟨RL, "law", "([I)Z"⟩
def wsX0_init : List Cond := .code yX0_init cX0_init 4 none :: ([.methodLink RX0 3 objectInit, .instanceMethod objectInit, .code objectInit ⟨#[0xb1]⟩ 1 none, .fieldLink RX0 9 "CarThreads$Node" "number" "I", .fieldLink RX0 15 "CarThreads$Node" "steps" "I", .fieldLink RX0 18 "CarThreads$Node" "failsAt" "I", .classLink RX0 10 RX0, .fieldLink RX0 21 "CarThreads$Node" "awaitedBefore" "[LCarThreads$Node;", .fieldLink RX0 25 "CarThreads$Node" "alive" "Z", .constantLong RX0 29 (-1), .fieldLink RX0 31 "CarThreads$Node" "cutMicro" "J"] ++ wsX00)
def wsX0_hasYetToDo : List Cond := .code yX0_hasYetToDo cX0_hasYetToDo 2 (some .boolean) :: ([.fieldLink RX0 35 "CarThreads$Node" "done" "I", .fieldLink RX0 15 "CarThreads$Node" "steps" "I"] ++ wsX00)
def wsX0_waitsForAnother : List Cond := .code yX0_waitsForAnother cX0_waitsForAnother 3 (some .boolean) :: ([.fieldLink RX0 35 "CarThreads$Node" "done" "I", .fieldLink RX0 21 "CarThreads$Node" "awaitedBefore" "[LCarThreads$Node;", .fieldLink RX0 25 "CarThreads$Node" "alive" "Z", .methodLink RX0 38 yX0_hasYetToDo, .instanceMethod yX0_hasYetToDo, .selects RX0 yX0_hasYetToDo yX0_hasYetToDo, .initialized RX0, .code yX0_hasYetToDo cX0_hasYetToDo 2 (some .boolean), .fieldLink RX0 15 "CarThreads$Node" "steps" "I"] ++ wsX00)
def wsX1_init : List Cond := .code yX1_init cX1_init 1 none :: ([.methodLink RX1 1 objectInit, .instanceMethod objectInit, .code objectInit ⟨#[0xb1]⟩ 1 none, .classLink RX1 9 RX0, .fieldLink RX1 11 "CarThreads" "nodes" "[LCarThreads$Node;", .fieldLink RX1 15 "CarThreads" "holders" "[LCarThreads$Node;", .arrayClass .int, .fieldLink RX1 18 "CarThreads" "turnRow" "[I", .fieldLink RX1 22 "CarThreads" "logRow" "[I"] ++ wsX10)
def wsX1_node : List Cond := .code yX1_node cX1_node 3 (some .int) :: ([.fieldLink RX1 25 "CarThreads" "nodeCount" "I", .fieldLink RX1 11 "CarThreads" "nodes" "[LCarThreads$Node;", .classLink RX1 9 RX0, .instantiable RX0 12, .initialized RX0, .methodLink RX1 29 yX0_init, .instanceMethod yX0_init, .code yX0_init cX0_init 4 none, .methodLink RX0 3 objectInit, .instanceMethod objectInit, .code objectInit ⟨#[0xb1]⟩ 1 none, .fieldLink RX0 9 "CarThreads$Node" "number" "I", .fieldLink RX0 15 "CarThreads$Node" "steps" "I", .fieldLink RX0 18 "CarThreads$Node" "failsAt" "I", .classLink RX0 10 RX0, .fieldLink RX0 21 "CarThreads$Node" "awaitedBefore" "[LCarThreads$Node;", .fieldLink RX0 25 "CarThreads$Node" "alive" "Z", .constantLong RX0 29 (-1), .fieldLink RX0 31 "CarThreads$Node" "cutMicro" "J"] ++ wsX10 ++ wsX00)
def wsX1_isKnown : List Cond := .code yX1_isKnown cX1_isKnown 2 (some .boolean) :: ([.fieldLink RX1 25 "CarThreads" "nodeCount" "I"] ++ wsX10)
def wsX1_nodeOrNull : List Cond := .code yX1_nodeOrNull cX1_nodeOrNull 2 (some (.object "CarThreads$Node")) :: ([.fieldLink RX1 11 "CarThreads" "nodes" "[LCarThreads$Node;", .methodLink RX1 47 yX1_isKnown, .instanceMethod yX1_isKnown, .selects RX1 yX1_isKnown yX1_isKnown, .initialized RX1, .code yX1_isKnown cX1_isKnown 2 (some .boolean), .fieldLink RX1 25 "CarThreads" "nodeCount" "I"] ++ wsX10)
def wsX1_waits : List Cond := .code yX1_waits cX1_waits 6 (some .boolean) :: ([.fieldLink RX1 36 "CarThreads$Node" "alive" "Z", .fieldLink RX1 44 "CarThreads$Node" "awaitedBefore" "[LCarThreads$Node;", .methodLink RX1 32 yX1_nodeOrNull, .instanceMethod yX1_nodeOrNull, .selects RX1 yX1_nodeOrNull yX1_nodeOrNull, .initialized RX1, .code yX1_nodeOrNull cX1_nodeOrNull 2 (some (.object "CarThreads$Node")), .fieldLink RX1 11 "CarThreads" "nodes" "[LCarThreads$Node;", .methodLink RX1 47 yX1_isKnown, .instanceMethod yX1_isKnown, .selects RX1 yX1_isKnown yX1_isKnown, .code yX1_isKnown cX1_isKnown 2 (some .boolean), .fieldLink RX1 25 "CarThreads" "nodeCount" "I", .methodLink RX1 40 yX0_hasYetToDo, .instanceMethod yX0_hasYetToDo, .selects RX0 yX0_hasYetToDo yX0_hasYetToDo, .initialized RX0, .code yX0_hasYetToDo cX0_hasYetToDo 2 (some .boolean), .fieldLink RX0 35 "CarThreads$Node" "done" "I", .fieldLink RX0 15 "CarThreads$Node" "steps" "I"] ++ wsX00 ++ wsX10)
def wsX1_turn : List Cond := .code yX1_turn cX1_turn 2 none :: ([.fieldLink RX1 50 "CarThreads" "turnCount" "I", .fieldLink RX1 18 "CarThreads" "turnRow" "[I", .methodLink RX1 47 yX1_isKnown, .instanceMethod yX1_isKnown, .selects RX1 yX1_isKnown yX1_isKnown, .initialized RX1, .code yX1_isKnown cX1_isKnown 2 (some .boolean), .fieldLink RX1 25 "CarThreads" "nodeCount" "I"] ++ wsX10)
def wsX1_endNode : List Cond := .code yX1_endNode cX1_endNode 3 none :: ([.fieldLink RX1 36 "CarThreads$Node" "alive" "Z", .fieldLink RX1 15 "CarThreads" "holders" "[LCarThreads$Node;", .fieldLink RX1 80 "CarThreads$Node" "lastPartsDone" "I"] ++ wsX00 ++ wsX10)
def wsX1_endNodesCutNow : List Cond := .code yX1_endNodesCutNow cX1_endNodesCutNow 5 none :: ([.fieldLink RX1 11 "CarThreads" "nodes" "[LCarThreads$Node;", .fieldLink RX1 67 "CarThreads$Node" "cutMicro" "J", .fieldLink RX1 63 "CarThreads" "nextMicro" "J", .methodLink RX1 83 yX1_endNode, .instanceMethod yX1_endNode, .selects RX1 yX1_endNode yX1_endNode, .initialized RX1, .code yX1_endNode cX1_endNode 3 none, .fieldLink RX1 36 "CarThreads$Node" "alive" "Z", .fieldLink RX1 15 "CarThreads" "holders" "[LCarThreads$Node;", .fieldLink RX1 80 "CarThreads$Node" "lastPartsDone" "I"] ++ wsX10 ++ wsX00)
def wsX1_leastDoneByAlive : List Cond := .code yX1_leastDoneByAlive cX1_leastDoneByAlive 6 (some .int) :: ([.fieldLink RX1 11 "CarThreads" "nodes" "[LCarThreads$Node;", .fieldLink RX1 36 "CarThreads$Node" "alive" "Z", .fieldLink RX1 116 "CarThreads$Node" "done" "I", .methodLink RX1 119 Lib.Math.min.name, .static Lib.Math.min.name, .initialized "java/lang/Math", .code Lib.Math.min.name Lib.Math.min.code 2 (some .int)] ++ wsX10 ++ wsX00)
def wsX1_waitsAtBarrier : List Cond := .code yX1_waitsAtBarrier cX1_waitsAtBarrier 3 (some .boolean) :: ([.fieldLink RX1 77 "CarThreads" "barrierSize" "I", .fieldLink RX1 116 "CarThreads$Node" "done" "I"] ++ wsX10 ++ wsX00)
def wsX1_findReady_r1 : List Cond := [Cond.fieldLink RX1 11 "CarThreads" "nodes" "[LCarThreads$Node;", Cond.fieldLink RX1 36 "CarThreads$Node" "alive" "Z", Cond.fieldLink RX1 113 "CarThreads$Node" "ready" "Z", Cond.methodLink RX1 102 yX1_leastDoneByAlive, Cond.instanceMethod yX1_leastDoneByAlive, Cond.selects RX1 yX1_leastDoneByAlive yX1_leastDoneByAlive, Cond.initialized RX1, Cond.code yX1_leastDoneByAlive cX1_leastDoneByAlive 6 (some .int), Cond.fieldLink RX1 116 "CarThreads$Node" "done" "I", Cond.methodLink RX1 119 Lib.Math.min.name, Cond.static Lib.Math.min.name, Cond.initialized "java/lang/Math", Cond.code Lib.Math.min.name Lib.Math.min.code 2 (some .int), Cond.methodLink RX1 106 yX0_waitsForAnother, Cond.instanceMethod yX0_waitsForAnother, Cond.selects RX0 yX0_waitsForAnother yX0_waitsForAnother, Cond.initialized RX0, Cond.code yX0_waitsForAnother cX0_waitsForAnother 3 (some .boolean), Cond.fieldLink RX0 35 "CarThreads$Node" "done" "I", Cond.fieldLink RX0 21 "CarThreads$Node" "awaitedBefore" "[LCarThreads$Node;", Cond.fieldLink RX0 25 "CarThreads$Node" "alive" "Z", Cond.methodLink RX0 38 yX0_hasYetToDo, Cond.instanceMethod yX0_hasYetToDo, Cond.selects RX0 yX0_hasYetToDo yX0_hasYetToDo]
def wsX1_findReady_r2 : List Cond := [Cond.code yX0_hasYetToDo cX0_hasYetToDo 2 (some .boolean), Cond.fieldLink RX0 15 "CarThreads$Node" "steps" "I", Cond.methodLink RX1 109 yX1_waitsAtBarrier, Cond.instanceMethod yX1_waitsAtBarrier, Cond.selects RX1 yX1_waitsAtBarrier yX1_waitsAtBarrier, Cond.code yX1_waitsAtBarrier cX1_waitsAtBarrier 3 (some .boolean), Cond.fieldLink RX1 77 "CarThreads" "barrierSize" "I"]
def wsX1_findReady : List Cond := .code yX1_findReady cX1_findReady 7 (some .boolean) :: ((wsX1_findReady_r1 ++ wsX1_findReady_r2) ++ wsX10 ++ wsX00)
def wsX1_stepOnce : List Cond := .code yX1_stepOnce cX1_stepOnce 3 none :: ([.fieldLink RX1 113 "CarThreads$Node" "ready" "Z", .fieldLink RX1 116 "CarThreads$Node" "done" "I", .fieldLink RX1 128 "CarThreads$Node" "failsAt" "I", .fieldLink RX1 60 "CarThreads$Node" "tookSafeWay" "Z", .fieldLink RX1 131 "CarThreads$Node" "toBeNoted" "Z", .fieldLink RX1 70 "CarThreads$Node" "interrupted" "Z", .fieldLink RX1 134 "CarThreads$Node" "steps" "I", .methodLink RX1 83 yX1_endNode, .instanceMethod yX1_endNode, .selects RX1 yX1_endNode yX1_endNode, .initialized RX1, .code yX1_endNode cX1_endNode 3 none, .fieldLink RX1 36 "CarThreads$Node" "alive" "Z", .fieldLink RX1 15 "CarThreads" "holders" "[LCarThreads$Node;", .fieldLink RX1 80 "CarThreads$Node" "lastPartsDone" "I"] ++ wsX00 ++ wsX10)
def wsX1_stepInTurns_r1 : List Cond := [Cond.fieldLink RX1 50 "CarThreads" "turnCount" "I", Cond.fieldLink RX1 18 "CarThreads" "turnRow" "[I", Cond.fieldLink RX1 113 "CarThreads$Node" "ready" "Z", Cond.methodLink RX1 32 yX1_nodeOrNull, Cond.instanceMethod yX1_nodeOrNull, Cond.selects RX1 yX1_nodeOrNull yX1_nodeOrNull, Cond.initialized RX1, Cond.code yX1_nodeOrNull cX1_nodeOrNull 2 (some (.object "CarThreads$Node")), Cond.fieldLink RX1 11 "CarThreads" "nodes" "[LCarThreads$Node;", Cond.methodLink RX1 47 yX1_isKnown, Cond.instanceMethod yX1_isKnown, Cond.selects RX1 yX1_isKnown yX1_isKnown, Cond.code yX1_isKnown cX1_isKnown 2 (some .boolean), Cond.fieldLink RX1 25 "CarThreads" "nodeCount" "I", Cond.methodLink RX1 125 yX1_stepOnce, Cond.instanceMethod yX1_stepOnce, Cond.selects RX1 yX1_stepOnce yX1_stepOnce, Cond.code yX1_stepOnce cX1_stepOnce 3 none, Cond.fieldLink RX1 116 "CarThreads$Node" "done" "I", Cond.fieldLink RX1 128 "CarThreads$Node" "failsAt" "I", Cond.fieldLink RX1 60 "CarThreads$Node" "tookSafeWay" "Z", Cond.fieldLink RX1 131 "CarThreads$Node" "toBeNoted" "Z", Cond.fieldLink RX1 70 "CarThreads$Node" "interrupted" "Z", Cond.fieldLink RX1 134 "CarThreads$Node" "steps" "I"]
def wsX1_stepInTurns_r2 : List Cond := [Cond.methodLink RX1 83 yX1_endNode, Cond.instanceMethod yX1_endNode, Cond.selects RX1 yX1_endNode yX1_endNode, Cond.code yX1_endNode cX1_endNode 3 none, Cond.fieldLink RX1 36 "CarThreads$Node" "alive" "Z", Cond.fieldLink RX1 15 "CarThreads" "holders" "[LCarThreads$Node;", Cond.fieldLink RX1 80 "CarThreads$Node" "lastPartsDone" "I"]
def wsX1_stepInTurns : List Cond := .code yX1_stepInTurns cX1_stepInTurns 3 none :: ((wsX1_stepInTurns_r1 ++ wsX1_stepInTurns_r2) ++ wsX10 ++ wsX00)
def wsX1_stepOthers : List Cond := .code yX1_stepOthers cX1_stepOthers 5 none :: ([.fieldLink RX1 11 "CarThreads" "nodes" "[LCarThreads$Node;", .fieldLink RX1 113 "CarThreads$Node" "ready" "Z", .methodLink RX1 125 yX1_stepOnce, .instanceMethod yX1_stepOnce, .selects RX1 yX1_stepOnce yX1_stepOnce, .initialized RX1, .code yX1_stepOnce cX1_stepOnce 3 none, .fieldLink RX1 116 "CarThreads$Node" "done" "I", .fieldLink RX1 128 "CarThreads$Node" "failsAt" "I", .fieldLink RX1 60 "CarThreads$Node" "tookSafeWay" "Z", .fieldLink RX1 131 "CarThreads$Node" "toBeNoted" "Z", .fieldLink RX1 70 "CarThreads$Node" "interrupted" "Z", .fieldLink RX1 134 "CarThreads$Node" "steps" "I", .methodLink RX1 83 yX1_endNode, .instanceMethod yX1_endNode, .selects RX1 yX1_endNode yX1_endNode, .code yX1_endNode cX1_endNode 3 none, .fieldLink RX1 36 "CarThreads$Node" "alive" "Z", .fieldLink RX1 15 "CarThreads" "holders" "[LCarThreads$Node;", .fieldLink RX1 80 "CarThreads$Node" "lastPartsDone" "I"] ++ wsX10 ++ wsX00)
def wsX1_note : List Cond := .code yX1_note cX1_note 2 none :: ([.fieldLink RX1 57 "CarThreads" "logCount" "I", .fieldLink RX1 22 "CarThreads" "logRow" "[I"] ++ wsX10)
def wsX1_noteSteps : List Cond := .code yX1_noteSteps cX1_noteSteps 5 none :: ([.fieldLink RX1 11 "CarThreads" "nodes" "[LCarThreads$Node;", .fieldLink RX1 131 "CarThreads$Node" "toBeNoted" "Z", .fieldLink RX1 137 "CarThreads$Node" "number" "I", .fieldLink RX1 116 "CarThreads$Node" "done" "I", .methodLink RX1 140 yX1_note, .instanceMethod yX1_note, .selects RX1 yX1_note yX1_note, .initialized RX1, .code yX1_note cX1_note 2 none, .fieldLink RX1 57 "CarThreads" "logCount" "I", .fieldLink RX1 22 "CarThreads" "logRow" "[I"] ++ wsX10 ++ wsX00)
def wsX1_microsecondHappens_r1 : List Cond := [Cond.fieldLink RX1 63 "CarThreads" "nextMicro" "J", Cond.methodLink RX1 87 yX1_endNodesCutNow, Cond.instanceMethod yX1_endNodesCutNow, Cond.selects RX1 yX1_endNodesCutNow yX1_endNodesCutNow, Cond.initialized RX1, Cond.code yX1_endNodesCutNow cX1_endNodesCutNow 5 none, Cond.fieldLink RX1 11 "CarThreads" "nodes" "[LCarThreads$Node;", Cond.fieldLink RX1 67 "CarThreads$Node" "cutMicro" "J", Cond.methodLink RX1 83 yX1_endNode, Cond.instanceMethod yX1_endNode, Cond.selects RX1 yX1_endNode yX1_endNode, Cond.code yX1_endNode cX1_endNode 3 none, Cond.fieldLink RX1 36 "CarThreads$Node" "alive" "Z", Cond.fieldLink RX1 15 "CarThreads" "holders" "[LCarThreads$Node;", Cond.fieldLink RX1 80 "CarThreads$Node" "lastPartsDone" "I", Cond.methodLink RX1 90 yX1_findReady, Cond.instanceMethod yX1_findReady, Cond.selects RX1 yX1_findReady yX1_findReady, Cond.code yX1_findReady cX1_findReady 7 (some .boolean), Cond.fieldLink RX1 113 "CarThreads$Node" "ready" "Z", Cond.methodLink RX1 102 yX1_leastDoneByAlive, Cond.instanceMethod yX1_leastDoneByAlive, Cond.selects RX1 yX1_leastDoneByAlive yX1_leastDoneByAlive, Cond.code yX1_leastDoneByAlive cX1_leastDoneByAlive 6 (some .int)]
def wsX1_microsecondHappens_r2 : List Cond := [Cond.fieldLink RX1 116 "CarThreads$Node" "done" "I", Cond.methodLink RX1 119 Lib.Math.min.name, Cond.static Lib.Math.min.name, Cond.initialized "java/lang/Math", Cond.code Lib.Math.min.name Lib.Math.min.code 2 (some .int), Cond.methodLink RX1 106 yX0_waitsForAnother, Cond.instanceMethod yX0_waitsForAnother, Cond.selects RX0 yX0_waitsForAnother yX0_waitsForAnother, Cond.initialized RX0, Cond.code yX0_waitsForAnother cX0_waitsForAnother 3 (some .boolean), Cond.fieldLink RX0 35 "CarThreads$Node" "done" "I", Cond.fieldLink RX0 21 "CarThreads$Node" "awaitedBefore" "[LCarThreads$Node;", Cond.fieldLink RX0 25 "CarThreads$Node" "alive" "Z", Cond.methodLink RX0 38 yX0_hasYetToDo, Cond.instanceMethod yX0_hasYetToDo, Cond.selects RX0 yX0_hasYetToDo yX0_hasYetToDo, Cond.code yX0_hasYetToDo cX0_hasYetToDo 2 (some .boolean), Cond.fieldLink RX0 15 "CarThreads$Node" "steps" "I", Cond.methodLink RX1 109 yX1_waitsAtBarrier, Cond.instanceMethod yX1_waitsAtBarrier, Cond.selects RX1 yX1_waitsAtBarrier yX1_waitsAtBarrier, Cond.code yX1_waitsAtBarrier cX1_waitsAtBarrier 3 (some .boolean), Cond.fieldLink RX1 77 "CarThreads" "barrierSize" "I", Cond.methodLink RX1 93 yX1_stepInTurns]
def wsX1_microsecondHappens_r3 : List Cond := [Cond.instanceMethod yX1_stepInTurns, Cond.selects RX1 yX1_stepInTurns yX1_stepInTurns, Cond.code yX1_stepInTurns cX1_stepInTurns 3 none, Cond.fieldLink RX1 50 "CarThreads" "turnCount" "I", Cond.fieldLink RX1 18 "CarThreads" "turnRow" "[I", Cond.methodLink RX1 32 yX1_nodeOrNull, Cond.instanceMethod yX1_nodeOrNull, Cond.selects RX1 yX1_nodeOrNull yX1_nodeOrNull, Cond.code yX1_nodeOrNull cX1_nodeOrNull 2 (some (.object "CarThreads$Node")), Cond.methodLink RX1 47 yX1_isKnown, Cond.instanceMethod yX1_isKnown, Cond.selects RX1 yX1_isKnown yX1_isKnown, Cond.code yX1_isKnown cX1_isKnown 2 (some .boolean), Cond.fieldLink RX1 25 "CarThreads" "nodeCount" "I", Cond.methodLink RX1 125 yX1_stepOnce, Cond.instanceMethod yX1_stepOnce, Cond.selects RX1 yX1_stepOnce yX1_stepOnce, Cond.code yX1_stepOnce cX1_stepOnce 3 none, Cond.fieldLink RX1 128 "CarThreads$Node" "failsAt" "I", Cond.fieldLink RX1 60 "CarThreads$Node" "tookSafeWay" "Z", Cond.fieldLink RX1 131 "CarThreads$Node" "toBeNoted" "Z", Cond.fieldLink RX1 70 "CarThreads$Node" "interrupted" "Z", Cond.fieldLink RX1 134 "CarThreads$Node" "steps" "I", Cond.methodLink RX1 96 yX1_stepOthers]
def wsX1_microsecondHappens_r4 : List Cond := [Cond.instanceMethod yX1_stepOthers, Cond.selects RX1 yX1_stepOthers yX1_stepOthers, Cond.code yX1_stepOthers cX1_stepOthers 5 none, Cond.methodLink RX1 99 yX1_noteSteps, Cond.instanceMethod yX1_noteSteps, Cond.selects RX1 yX1_noteSteps yX1_noteSteps, Cond.code yX1_noteSteps cX1_noteSteps 5 none, Cond.fieldLink RX1 137 "CarThreads$Node" "number" "I", Cond.methodLink RX1 140 yX1_note, Cond.instanceMethod yX1_note, Cond.selects RX1 yX1_note yX1_note, Cond.code yX1_note cX1_note 2 none, Cond.fieldLink RX1 57 "CarThreads" "logCount" "I", Cond.fieldLink RX1 22 "CarThreads" "logRow" "[I"]
def wsX1_microsecondHappens : List Cond := .code yX1_microsecondHappens cX1_microsecondHappens 1 (some .boolean) :: ((wsX1_microsecondHappens_r1 ++ (wsX1_microsecondHappens_r2 ++ (wsX1_microsecondHappens_r3 ++ wsX1_microsecondHappens_r4))) ++ wsX10 ++ wsX00)
def wsX1_run_r1 : List Cond := [Cond.fieldLink RX1 50 "CarThreads" "turnCount" "I", Cond.methodLink RX1 53 yX1_microsecondHappens, Cond.instanceMethod yX1_microsecondHappens, Cond.selects RX1 yX1_microsecondHappens yX1_microsecondHappens, Cond.initialized RX1, Cond.code yX1_microsecondHappens cX1_microsecondHappens 1 (some .boolean), Cond.fieldLink RX1 63 "CarThreads" "nextMicro" "J", Cond.methodLink RX1 87 yX1_endNodesCutNow, Cond.instanceMethod yX1_endNodesCutNow, Cond.selects RX1 yX1_endNodesCutNow yX1_endNodesCutNow, Cond.code yX1_endNodesCutNow cX1_endNodesCutNow 5 none, Cond.fieldLink RX1 11 "CarThreads" "nodes" "[LCarThreads$Node;", Cond.fieldLink RX1 67 "CarThreads$Node" "cutMicro" "J", Cond.methodLink RX1 83 yX1_endNode, Cond.instanceMethod yX1_endNode, Cond.selects RX1 yX1_endNode yX1_endNode, Cond.code yX1_endNode cX1_endNode 3 none, Cond.fieldLink RX1 36 "CarThreads$Node" "alive" "Z", Cond.fieldLink RX1 15 "CarThreads" "holders" "[LCarThreads$Node;", Cond.fieldLink RX1 80 "CarThreads$Node" "lastPartsDone" "I", Cond.methodLink RX1 90 yX1_findReady, Cond.instanceMethod yX1_findReady, Cond.selects RX1 yX1_findReady yX1_findReady, Cond.code yX1_findReady cX1_findReady 7 (some .boolean)]
def wsX1_run_r2 : List Cond := [Cond.fieldLink RX1 113 "CarThreads$Node" "ready" "Z", Cond.methodLink RX1 102 yX1_leastDoneByAlive, Cond.instanceMethod yX1_leastDoneByAlive, Cond.selects RX1 yX1_leastDoneByAlive yX1_leastDoneByAlive, Cond.code yX1_leastDoneByAlive cX1_leastDoneByAlive 6 (some .int), Cond.fieldLink RX1 116 "CarThreads$Node" "done" "I", Cond.methodLink RX1 119 Lib.Math.min.name, Cond.static Lib.Math.min.name, Cond.initialized "java/lang/Math", Cond.code Lib.Math.min.name Lib.Math.min.code 2 (some .int), Cond.methodLink RX1 106 yX0_waitsForAnother, Cond.instanceMethod yX0_waitsForAnother, Cond.selects RX0 yX0_waitsForAnother yX0_waitsForAnother, Cond.initialized RX0, Cond.code yX0_waitsForAnother cX0_waitsForAnother 3 (some .boolean), Cond.fieldLink RX0 35 "CarThreads$Node" "done" "I", Cond.fieldLink RX0 21 "CarThreads$Node" "awaitedBefore" "[LCarThreads$Node;", Cond.fieldLink RX0 25 "CarThreads$Node" "alive" "Z", Cond.methodLink RX0 38 yX0_hasYetToDo, Cond.instanceMethod yX0_hasYetToDo, Cond.selects RX0 yX0_hasYetToDo yX0_hasYetToDo, Cond.code yX0_hasYetToDo cX0_hasYetToDo 2 (some .boolean), Cond.fieldLink RX0 15 "CarThreads$Node" "steps" "I", Cond.methodLink RX1 109 yX1_waitsAtBarrier]
def wsX1_run_r3 : List Cond := [Cond.instanceMethod yX1_waitsAtBarrier, Cond.selects RX1 yX1_waitsAtBarrier yX1_waitsAtBarrier, Cond.code yX1_waitsAtBarrier cX1_waitsAtBarrier 3 (some .boolean), Cond.fieldLink RX1 77 "CarThreads" "barrierSize" "I", Cond.methodLink RX1 93 yX1_stepInTurns, Cond.instanceMethod yX1_stepInTurns, Cond.selects RX1 yX1_stepInTurns yX1_stepInTurns, Cond.code yX1_stepInTurns cX1_stepInTurns 3 none, Cond.fieldLink RX1 18 "CarThreads" "turnRow" "[I", Cond.methodLink RX1 32 yX1_nodeOrNull, Cond.instanceMethod yX1_nodeOrNull, Cond.selects RX1 yX1_nodeOrNull yX1_nodeOrNull, Cond.code yX1_nodeOrNull cX1_nodeOrNull 2 (some (.object "CarThreads$Node")), Cond.methodLink RX1 47 yX1_isKnown, Cond.instanceMethod yX1_isKnown, Cond.selects RX1 yX1_isKnown yX1_isKnown, Cond.code yX1_isKnown cX1_isKnown 2 (some .boolean), Cond.fieldLink RX1 25 "CarThreads" "nodeCount" "I", Cond.methodLink RX1 125 yX1_stepOnce, Cond.instanceMethod yX1_stepOnce, Cond.selects RX1 yX1_stepOnce yX1_stepOnce, Cond.code yX1_stepOnce cX1_stepOnce 3 none, Cond.fieldLink RX1 128 "CarThreads$Node" "failsAt" "I", Cond.fieldLink RX1 60 "CarThreads$Node" "tookSafeWay" "Z"]
def wsX1_run_r4 : List Cond := [Cond.fieldLink RX1 131 "CarThreads$Node" "toBeNoted" "Z", Cond.fieldLink RX1 70 "CarThreads$Node" "interrupted" "Z", Cond.fieldLink RX1 134 "CarThreads$Node" "steps" "I", Cond.methodLink RX1 96 yX1_stepOthers, Cond.instanceMethod yX1_stepOthers, Cond.selects RX1 yX1_stepOthers yX1_stepOthers, Cond.code yX1_stepOthers cX1_stepOthers 5 none, Cond.methodLink RX1 99 yX1_noteSteps, Cond.instanceMethod yX1_noteSteps, Cond.selects RX1 yX1_noteSteps yX1_noteSteps, Cond.code yX1_noteSteps cX1_noteSteps 5 none, Cond.fieldLink RX1 137 "CarThreads$Node" "number" "I", Cond.methodLink RX1 140 yX1_note, Cond.instanceMethod yX1_note, Cond.selects RX1 yX1_note yX1_note, Cond.code yX1_note cX1_note 2 none, Cond.fieldLink RX1 57 "CarThreads" "logCount" "I", Cond.fieldLink RX1 22 "CarThreads" "logRow" "[I"]
def wsX1_run : List Cond := .code yX1_run cX1_run 2 (some .int) :: ((wsX1_run_r1 ++ (wsX1_run_r2 ++ (wsX1_run_r3 ++ wsX1_run_r4))) ++ wsX10 ++ wsX00)
def wsX1_log : List Cond := .code yX1_log cX1_log 2 (some .int) :: ([.fieldLink RX1 57 "CarThreads" "logCount" "I", .fieldLink RX1 22 "CarThreads" "logRow" "[I"] ++ wsX10)
def wsX1_safe : List Cond := .code yX1_safe cX1_safe 3 (some .int) :: ([.fieldLink RX1 60 "CarThreads$Node" "tookSafeWay" "Z", .methodLink RX1 32 yX1_nodeOrNull, .instanceMethod yX1_nodeOrNull, .selects RX1 yX1_nodeOrNull yX1_nodeOrNull, .initialized RX1, .code yX1_nodeOrNull cX1_nodeOrNull 2 (some (.object "CarThreads$Node")), .fieldLink RX1 11 "CarThreads" "nodes" "[LCarThreads$Node;", .methodLink RX1 47 yX1_isKnown, .instanceMethod yX1_isKnown, .selects RX1 yX1_isKnown yX1_isKnown, .code yX1_isKnown cX1_isKnown 2 (some .boolean), .fieldLink RX1 25 "CarThreads" "nodeCount" "I"] ++ wsX00 ++ wsX10)
def wsX1_cut : List Cond := .code yX1_cut cX1_cut 5 (some .int) :: ([.fieldLink RX1 63 "CarThreads" "nextMicro" "J", .fieldLink RX1 36 "CarThreads$Node" "alive" "Z", .fieldLink RX1 67 "CarThreads$Node" "cutMicro" "J", .methodLink RX1 32 yX1_nodeOrNull, .instanceMethod yX1_nodeOrNull, .selects RX1 yX1_nodeOrNull yX1_nodeOrNull, .initialized RX1, .code yX1_nodeOrNull cX1_nodeOrNull 2 (some (.object "CarThreads$Node")), .fieldLink RX1 11 "CarThreads" "nodes" "[LCarThreads$Node;", .methodLink RX1 47 yX1_isKnown, .instanceMethod yX1_isKnown, .selects RX1 yX1_isKnown yX1_isKnown, .code yX1_isKnown cX1_isKnown 2 (some .boolean), .fieldLink RX1 25 "CarThreads" "nodeCount" "I"] ++ wsX10 ++ wsX00)
def wsX1_interrupt : List Cond := .code yX1_interrupt cX1_interrupt 3 (some .boolean) :: ([.fieldLink RX1 36 "CarThreads$Node" "alive" "Z", .fieldLink RX1 70 "CarThreads$Node" "interrupted" "Z", .methodLink RX1 32 yX1_nodeOrNull, .instanceMethod yX1_nodeOrNull, .selects RX1 yX1_nodeOrNull yX1_nodeOrNull, .initialized RX1, .code yX1_nodeOrNull cX1_nodeOrNull 2 (some (.object "CarThreads$Node")), .fieldLink RX1 11 "CarThreads" "nodes" "[LCarThreads$Node;", .methodLink RX1 47 yX1_isKnown, .instanceMethod yX1_isKnown, .selects RX1 yX1_isKnown yX1_isKnown, .code yX1_isKnown cX1_isKnown 2 (some .boolean), .fieldLink RX1 25 "CarThreads" "nodeCount" "I"] ++ wsX00 ++ wsX10)
def wsX1_countThingsOf : List Cond := .code yX1_countThingsOf cX1_countThingsOf 4 (some .int) :: ([.fieldLink RX1 15 "CarThreads" "holders" "[LCarThreads$Node;"] ++ wsX10)
def wsX1_held : List Cond := .code yX1_held cX1_held 4 (some .int) :: ([.fieldLink RX1 15 "CarThreads" "holders" "[LCarThreads$Node;", .fieldLink RX1 36 "CarThreads$Node" "alive" "Z", .methodLink RX1 32 yX1_nodeOrNull, .instanceMethod yX1_nodeOrNull, .selects RX1 yX1_nodeOrNull yX1_nodeOrNull, .initialized RX1, .code yX1_nodeOrNull cX1_nodeOrNull 2 (some (.object "CarThreads$Node")), .fieldLink RX1 11 "CarThreads" "nodes" "[LCarThreads$Node;", .methodLink RX1 47 yX1_isKnown, .instanceMethod yX1_isKnown, .selects RX1 yX1_isKnown yX1_isKnown, .code yX1_isKnown cX1_isKnown 2 (some .boolean), .fieldLink RX1 25 "CarThreads" "nodeCount" "I", .methodLink RX1 73 yX1_countThingsOf, .instanceMethod yX1_countThingsOf, .selects RX1 yX1_countThingsOf yX1_countThingsOf, .code yX1_countThingsOf cX1_countThingsOf 4 (some .int)] ++ wsX10 ++ wsX00)
def wsX1_barrier : List Cond := .code yX1_barrier cX1_barrier 3 (some .int) :: ([.fieldLink RX1 77 "CarThreads" "barrierSize" "I"] ++ wsX10)
def wsX1_finished : List Cond := .code yX1_finished cX1_finished 3 (some .int) :: ([.fieldLink RX1 80 "CarThreads$Node" "lastPartsDone" "I", .methodLink RX1 32 yX1_nodeOrNull, .instanceMethod yX1_nodeOrNull, .selects RX1 yX1_nodeOrNull yX1_nodeOrNull, .initialized RX1, .code yX1_nodeOrNull cX1_nodeOrNull 2 (some (.object "CarThreads$Node")), .fieldLink RX1 11 "CarThreads" "nodes" "[LCarThreads$Node;", .methodLink RX1 47 yX1_isKnown, .instanceMethod yX1_isKnown, .selects RX1 yX1_isKnown yX1_isKnown, .code yX1_isKnown cX1_isKnown 2 (some .boolean), .fieldLink RX1 25 "CarThreads" "nodeCount" "I"] ++ wsX00 ++ wsX10)
def wsX1_close : List Cond := .code yX1_close cX1_close 6 (some .int) :: ([.fieldLink RX1 11 "CarThreads" "nodes" "[LCarThreads$Node;", .fieldLink RX1 36 "CarThreads$Node" "alive" "Z", .methodLink RX1 83 yX1_endNode, .instanceMethod yX1_endNode, .selects RX1 yX1_endNode yX1_endNode, .initialized RX1, .code yX1_endNode cX1_endNode 3 none, .fieldLink RX1 15 "CarThreads" "holders" "[LCarThreads$Node;", .fieldLink RX1 80 "CarThreads$Node" "lastPartsDone" "I"] ++ wsX10 ++ wsX00)
def wsX2_init : List Cond := .code yX2_init cX2_init 1 none :: ([.methodLink RX2 1 objectInit, .instanceMethod objectInit, .code objectInit ⟨#[0xb1]⟩ 1 none, .arrayClass .int, .fieldLink RX2 7 "CarThreadsModel" "steps" "[I", .fieldLink RX2 13 "CarThreadsModel" "failsAt" "[I", .fieldLink RX2 16 "CarThreadsModel" "done" "[I", .fieldLink RX2 19 "CarThreadsModel" "ended" "[Z", .fieldLink RX2 23 "CarThreadsModel" "safe" "[Z", .fieldLink RX2 26 "CarThreadsModel" "interrupted" "[Z", .fieldLink RX2 29 "CarThreadsModel" "finished" "[I", .fieldLink RX2 32 "CarThreadsModel" "cutAt" "[J", .fieldLink RX2 36 "CarThreadsModel" "ready" "[Z", .fieldLink RX2 39 "CarThreadsModel" "waits" "[I", .fieldLink RX2 42 "CarThreadsModel" "holder" "[I", .fieldLink RX2 45 "CarThreadsModel" "entry" "[I"] ++ wsX20)
def wsJ9_min_7cf53 : List Cond := .code yJ9_min_7cf53 cJ9_min_7cf53 2 (some .int) :: ([])
def wsL_law_r1 : List Cond := [Cond.classLink RL 7 RX1, Cond.instantiable RX1 9, Cond.initialized RX1, Cond.classLink RL 10 RX2, Cond.instantiable RX2 17, Cond.initialized RX2, Cond.methodLink RL 9 yX1_init, Cond.instanceMethod yX1_init, Cond.code yX1_init cX1_init 1 none, Cond.methodLink RX1 1 objectInit, Cond.instanceMethod objectInit, Cond.code objectInit ⟨#[0xb1]⟩ 1 none, Cond.classLink RX1 9 RX0, Cond.fieldLink RX1 11 "CarThreads" "nodes" "[LCarThreads$Node;", Cond.fieldLink RX1 15 "CarThreads" "holders" "[LCarThreads$Node;", Cond.arrayClass .int, Cond.fieldLink RX1 18 "CarThreads" "turnRow" "[I", Cond.fieldLink RX1 22 "CarThreads" "logRow" "[I", Cond.methodLink RL 12 yX2_init, Cond.instanceMethod yX2_init, Cond.code yX2_init cX2_init 1 none, Cond.methodLink RX2 1 objectInit, Cond.fieldLink RX2 7 "CarThreadsModel" "steps" "[I", Cond.fieldLink RX2 13 "CarThreadsModel" "failsAt" "[I"]
def wsL_law_r2 : List Cond := [Cond.fieldLink RX2 16 "CarThreadsModel" "done" "[I", Cond.fieldLink RX2 19 "CarThreadsModel" "ended" "[Z", Cond.fieldLink RX2 23 "CarThreadsModel" "safe" "[Z", Cond.fieldLink RX2 26 "CarThreadsModel" "interrupted" "[Z", Cond.fieldLink RX2 29 "CarThreadsModel" "finished" "[I", Cond.fieldLink RX2 32 "CarThreadsModel" "cutAt" "[J", Cond.fieldLink RX2 36 "CarThreadsModel" "ready" "[Z", Cond.fieldLink RX2 39 "CarThreadsModel" "waits" "[I", Cond.fieldLink RX2 42 "CarThreadsModel" "holder" "[I", Cond.fieldLink RX2 45 "CarThreadsModel" "entry" "[I", Cond.methodLink RL 13 yX1_node, Cond.instanceMethod yX1_node, Cond.selects RX1 yX1_node yX1_node, Cond.code yX1_node cX1_node 3 (some .int), Cond.fieldLink RX1 25 "CarThreads" "nodeCount" "I", Cond.instantiable RX0 12, Cond.initialized RX0, Cond.methodLink RX1 29 yX0_init, Cond.instanceMethod yX0_init, Cond.code yX0_init cX0_init 4 none, Cond.methodLink RX0 3 objectInit, Cond.fieldLink RX0 9 "CarThreads$Node" "number" "I", Cond.fieldLink RX0 15 "CarThreads$Node" "steps" "I", Cond.fieldLink RX0 18 "CarThreads$Node" "failsAt" "I"]
def wsL_law_r3 : List Cond := [Cond.classLink RX0 10 RX0, Cond.fieldLink RX0 21 "CarThreads$Node" "awaitedBefore" "[LCarThreads$Node;", Cond.fieldLink RX0 25 "CarThreads$Node" "alive" "Z", Cond.constantLong RX0 29 (-1), Cond.fieldLink RX0 31 "CarThreads$Node" "cutMicro" "J", Cond.methodLink RL 18 yX1_waits, Cond.instanceMethod yX1_waits, Cond.selects RX1 yX1_waits yX1_waits, Cond.code yX1_waits cX1_waits 6 (some .boolean), Cond.fieldLink RX1 36 "CarThreads$Node" "alive" "Z", Cond.fieldLink RX1 44 "CarThreads$Node" "awaitedBefore" "[LCarThreads$Node;", Cond.methodLink RX1 32 yX1_nodeOrNull, Cond.instanceMethod yX1_nodeOrNull, Cond.selects RX1 yX1_nodeOrNull yX1_nodeOrNull, Cond.code yX1_nodeOrNull cX1_nodeOrNull 2 (some (.object "CarThreads$Node")), Cond.methodLink RX1 47 yX1_isKnown, Cond.instanceMethod yX1_isKnown, Cond.selects RX1 yX1_isKnown yX1_isKnown, Cond.code yX1_isKnown cX1_isKnown 2 (some .boolean), Cond.methodLink RX1 40 yX0_hasYetToDo, Cond.instanceMethod yX0_hasYetToDo, Cond.selects RX0 yX0_hasYetToDo yX0_hasYetToDo, Cond.code yX0_hasYetToDo cX0_hasYetToDo 2 (some .boolean), Cond.fieldLink RX0 35 "CarThreads$Node" "done" "I"]
def wsL_law_r4 : List Cond := [Cond.methodLink RL 23 yX1_turn, Cond.instanceMethod yX1_turn, Cond.selects RX1 yX1_turn yX1_turn, Cond.code yX1_turn cX1_turn 2 none, Cond.fieldLink RX1 50 "CarThreads" "turnCount" "I", Cond.methodLink RL 28 yX1_run, Cond.instanceMethod yX1_run, Cond.selects RX1 yX1_run yX1_run, Cond.code yX1_run cX1_run 2 (some .int), Cond.methodLink RX1 53 yX1_microsecondHappens, Cond.instanceMethod yX1_microsecondHappens, Cond.selects RX1 yX1_microsecondHappens yX1_microsecondHappens, Cond.code yX1_microsecondHappens cX1_microsecondHappens 1 (some .boolean), Cond.fieldLink RX1 63 "CarThreads" "nextMicro" "J", Cond.methodLink RX1 87 yX1_endNodesCutNow, Cond.instanceMethod yX1_endNodesCutNow, Cond.selects RX1 yX1_endNodesCutNow yX1_endNodesCutNow, Cond.code yX1_endNodesCutNow cX1_endNodesCutNow 5 none, Cond.fieldLink RX1 67 "CarThreads$Node" "cutMicro" "J", Cond.methodLink RX1 83 yX1_endNode, Cond.instanceMethod yX1_endNode, Cond.selects RX1 yX1_endNode yX1_endNode, Cond.code yX1_endNode cX1_endNode 3 none, Cond.fieldLink RX1 80 "CarThreads$Node" "lastPartsDone" "I"]
def wsL_law_r5 : List Cond := [Cond.methodLink RX1 90 yX1_findReady, Cond.instanceMethod yX1_findReady, Cond.selects RX1 yX1_findReady yX1_findReady, Cond.code yX1_findReady cX1_findReady 7 (some .boolean), Cond.fieldLink RX1 113 "CarThreads$Node" "ready" "Z", Cond.methodLink RX1 102 yX1_leastDoneByAlive, Cond.instanceMethod yX1_leastDoneByAlive, Cond.selects RX1 yX1_leastDoneByAlive yX1_leastDoneByAlive, Cond.code yX1_leastDoneByAlive cX1_leastDoneByAlive 6 (some .int), Cond.fieldLink RX1 116 "CarThreads$Node" "done" "I", Cond.methodLink RX1 119 Lib.Math.min.name, Cond.static Lib.Math.min.name, Cond.initialized "java/lang/Math", Cond.code Lib.Math.min.name Lib.Math.min.code 2 (some .int), Cond.methodLink RX1 106 yX0_waitsForAnother, Cond.instanceMethod yX0_waitsForAnother, Cond.selects RX0 yX0_waitsForAnother yX0_waitsForAnother, Cond.code yX0_waitsForAnother cX0_waitsForAnother 3 (some .boolean), Cond.methodLink RX0 38 yX0_hasYetToDo, Cond.methodLink RX1 109 yX1_waitsAtBarrier, Cond.instanceMethod yX1_waitsAtBarrier, Cond.selects RX1 yX1_waitsAtBarrier yX1_waitsAtBarrier, Cond.code yX1_waitsAtBarrier cX1_waitsAtBarrier 3 (some .boolean), Cond.fieldLink RX1 77 "CarThreads" "barrierSize" "I"]
def wsL_law_r6 : List Cond := [Cond.methodLink RX1 93 yX1_stepInTurns, Cond.instanceMethod yX1_stepInTurns, Cond.selects RX1 yX1_stepInTurns yX1_stepInTurns, Cond.code yX1_stepInTurns cX1_stepInTurns 3 none, Cond.methodLink RX1 125 yX1_stepOnce, Cond.instanceMethod yX1_stepOnce, Cond.selects RX1 yX1_stepOnce yX1_stepOnce, Cond.code yX1_stepOnce cX1_stepOnce 3 none, Cond.fieldLink RX1 128 "CarThreads$Node" "failsAt" "I", Cond.fieldLink RX1 60 "CarThreads$Node" "tookSafeWay" "Z", Cond.fieldLink RX1 131 "CarThreads$Node" "toBeNoted" "Z", Cond.fieldLink RX1 70 "CarThreads$Node" "interrupted" "Z", Cond.fieldLink RX1 134 "CarThreads$Node" "steps" "I", Cond.methodLink RX1 96 yX1_stepOthers, Cond.instanceMethod yX1_stepOthers, Cond.selects RX1 yX1_stepOthers yX1_stepOthers, Cond.code yX1_stepOthers cX1_stepOthers 5 none, Cond.methodLink RX1 99 yX1_noteSteps, Cond.instanceMethod yX1_noteSteps, Cond.selects RX1 yX1_noteSteps yX1_noteSteps, Cond.code yX1_noteSteps cX1_noteSteps 5 none, Cond.fieldLink RX1 137 "CarThreads$Node" "number" "I", Cond.methodLink RX1 140 yX1_note, Cond.instanceMethod yX1_note]
def wsL_law_r7 : List Cond := [Cond.selects RX1 yX1_note yX1_note, Cond.code yX1_note cX1_note 2 none, Cond.fieldLink RX1 57 "CarThreads" "logCount" "I", Cond.methodLink RL 33 yX1_log, Cond.instanceMethod yX1_log, Cond.selects RX1 yX1_log yX1_log, Cond.code yX1_log cX1_log 2 (some .int), Cond.methodLink RL 38 yX1_safe, Cond.instanceMethod yX1_safe, Cond.selects RX1 yX1_safe yX1_safe, Cond.code yX1_safe cX1_safe 3 (some .int), Cond.methodLink RL 44 yX1_cut, Cond.instanceMethod yX1_cut, Cond.selects RX1 yX1_cut yX1_cut, Cond.code yX1_cut cX1_cut 5 (some .int), Cond.methodLink RL 49 yX1_interrupt, Cond.instanceMethod yX1_interrupt, Cond.selects RX1 yX1_interrupt yX1_interrupt, Cond.code yX1_interrupt cX1_interrupt 3 (some .boolean), Cond.methodLink RL 54 yX1_held, Cond.instanceMethod yX1_held, Cond.selects RX1 yX1_held yX1_held, Cond.code yX1_held cX1_held 4 (some .int), Cond.methodLink RX1 73 yX1_countThingsOf]
def wsL_law_r8 : List Cond := [Cond.instanceMethod yX1_countThingsOf, Cond.selects RX1 yX1_countThingsOf yX1_countThingsOf, Cond.code yX1_countThingsOf cX1_countThingsOf 4 (some .int), Cond.methodLink RL 58 yX1_barrier, Cond.instanceMethod yX1_barrier, Cond.selects RX1 yX1_barrier yX1_barrier, Cond.code yX1_barrier cX1_barrier 3 (some .int), Cond.methodLink RL 62 yX1_finished, Cond.instanceMethod yX1_finished, Cond.selects RX1 yX1_finished yX1_finished, Cond.code yX1_finished cX1_finished 3 (some .int), Cond.methodLink RL 66 yX1_close, Cond.instanceMethod yX1_close, Cond.selects RX1 yX1_close yX1_close, Cond.code yX1_close cX1_close 6 (some .int)]
def wsL_law : List Cond := (wsL_law_r1 ++ (wsL_law_r2 ++ (wsL_law_r3 ++ (wsL_law_r4 ++ (wsL_law_r5 ++ (wsL_law_r6 ++ (wsL_law_r7 ++ wsL_law_r8))))))) ++ wsX10 ++ wsX20 ++ wsX00 ++ ([] : List Cond)
set_option maxRecDepth 20000 in
theorem wsL_law_in : ∀ w ∈ wsL_law, w ∈ lw_tbl := fun w h => (goodIn_p wsL_law [29, 32, 235, 67, 71, 122, 126, 130, 134, 138, 142, 146, 150, 154, 158, 162, 165, 169, 174, 178, 182, 186, 190, 194, 198, 202, 206, 210, 214, 218, 222, 226, 230] (by decide +kernel) (by decide +kernel) w h).1
theorem inlX0 : ∀ w ∈ wsX00, w ∈ wsL_law := fun _ h => List.mem_append_left _ (List.mem_append_right _ h)
theorem inX0 : ∀ w ∈ wsX00, w ∈ lw_tbl := fun w h => wsL_law_in w (inlX0 w h)
theorem inlX1 : ∀ w ∈ wsX10, w ∈ wsL_law := fun _ h => List.mem_append_left _ (List.mem_append_left _ (List.mem_append_left _ (List.mem_append_right _ h)))
theorem inX1 : ∀ w ∈ wsX10, w ∈ lw_tbl := fun w h => wsL_law_in w (inlX1 w h)
theorem inlX2 : ∀ w ∈ wsX20, w ∈ wsL_law := fun _ h => List.mem_append_left _ (List.mem_append_left _ (List.mem_append_right _ h))
theorem inX2 : ∀ w ∈ wsX20, w ∈ lw_tbl := fun w h => wsL_law_in w (inlX2 w h)
theorem inJ9 : ∀ w ∈ wsJ90, w ∈ lw_tbl := by decide +kernel
theorem dX0_init_0 : decode cX0_init 0 = .ok (.aload_n 0, 1) := by decide +kernel
theorem dX0_init_1 : decode cX0_init 1 = .ok (.invokespecial 3, 3) := by decide +kernel
theorem dX0_init_4 : decode cX0_init 4 = .ok (.aload_n 0, 1) := by decide +kernel
theorem dX0_init_5 : decode cX0_init 5 = .ok (.iload_n 1, 1) := by decide +kernel
theorem dX0_init_6 : decode cX0_init 6 = .ok (.putfield 9, 3) := by decide +kernel
theorem dX0_init_9 : decode cX0_init 9 = .ok (.aload_n 0, 1) := by decide +kernel
theorem dX0_init_10 : decode cX0_init 10 = .ok (.iload_n 2, 1) := by decide +kernel
theorem dX0_init_11 : decode cX0_init 11 = .ok (.putfield 15, 3) := by decide +kernel
theorem dX0_init_14 : decode cX0_init 14 = .ok (.aload_n 0, 1) := by decide +kernel
theorem dX0_init_15 : decode cX0_init 15 = .ok (.iload_n 3, 1) := by decide +kernel
theorem dX0_init_16 : decode cX0_init 16 = .ok (.putfield 18, 3) := by decide +kernel
theorem dX0_init_19 : decode cX0_init 19 = .ok (.aload_n 0, 1) := by decide +kernel
theorem dX0_init_20 : decode cX0_init 20 = .ok (.iload_n 2, 1) := by decide +kernel
theorem dX0_init_21 : decode cX0_init 21 = .ok (.iconst 1, 1) := by decide +kernel
theorem dX0_init_22 : decode cX0_init 22 = .ok (.iadd, 1) := by decide +kernel
theorem dX0_init_23 : decode cX0_init 23 = .ok (.anewarray 10, 3) := by decide +kernel
theorem dX0_init_26 : decode cX0_init 26 = .ok (.putfield 21, 3) := by decide +kernel
theorem dX0_init_29 : decode cX0_init 29 = .ok (.aload_n 0, 1) := by decide +kernel
theorem dX0_init_30 : decode cX0_init 30 = .ok (.iconst 1, 1) := by decide +kernel
theorem dX0_init_31 : decode cX0_init 31 = .ok (.putfield 25, 3) := by decide +kernel
theorem dX0_init_34 : decode cX0_init 34 = .ok (.aload_n 0, 1) := by decide +kernel
theorem dX0_init_35 : decode cX0_init 35 = .ok (.ldc2_w 29, 3) := by decide +kernel
theorem dX0_init_38 : decode cX0_init 38 = .ok (.putfield 31, 3) := by decide +kernel
theorem dX0_init_41 : decode cX0_init 41 = .ok (.return_, 1) := by decide +kernel
theorem dX0_hasYetToDo_0 : decode cX0_hasYetToDo 0 = .ok (.iload_n 1, 1) := by decide +kernel
theorem dX0_hasYetToDo_1 : decode cX0_hasYetToDo 1 = .ok (.aload_n 0, 1) := by decide +kernel
theorem dX0_hasYetToDo_2 : decode cX0_hasYetToDo 2 = .ok (.getfield 35, 3) := by decide +kernel
theorem dX0_hasYetToDo_5 : decode cX0_hasYetToDo 5 = .ok (.if_icmp .le 15, 3) := by decide +kernel
theorem dX0_hasYetToDo_8 : decode cX0_hasYetToDo 8 = .ok (.iload_n 1, 1) := by decide +kernel
theorem dX0_hasYetToDo_9 : decode cX0_hasYetToDo 9 = .ok (.aload_n 0, 1) := by decide +kernel
theorem dX0_hasYetToDo_10 : decode cX0_hasYetToDo 10 = .ok (.getfield 15, 3) := by decide +kernel
theorem dX0_hasYetToDo_13 : decode cX0_hasYetToDo 13 = .ok (.if_icmp .gt 7, 3) := by decide +kernel
theorem dX0_hasYetToDo_16 : decode cX0_hasYetToDo 16 = .ok (.iconst 1, 1) := by decide +kernel
theorem dX0_hasYetToDo_17 : decode cX0_hasYetToDo 17 = .ok (.goto 4, 3) := by decide +kernel
theorem dX0_hasYetToDo_20 : decode cX0_hasYetToDo 20 = .ok (.iconst 0, 1) := by decide +kernel
theorem dX0_hasYetToDo_21 : decode cX0_hasYetToDo 21 = .ok (.ireturn, 1) := by decide +kernel
set_option maxRecDepth 20000 in
theorem ggX0_waitsForAnother_X0_hasYetToDo : GoodIn wsX0_waitsForAnother wsX0_hasYetToDo := goodIn_r _ [8, 1, 9, 10, 11, 12, 13, 14, 15, 16, 17, 18, 19, 20, 21] (by decide +kernel) (by decide +kernel)
set_option maxRecDepth 20000 in
theorem gX0_waitsForAnother_X0_hasYetToDo : GoodIn wsX0_waitsForAnother (wsV RX0 38 RX0 yX0_hasYetToDo wsX0_hasYetToDo) := goodIn_app (goodIn_of _ (by decide +kernel)) ggX0_waitsForAnother_X0_hasYetToDo
theorem dX0_waitsForAnother_0 : decode cX0_waitsForAnother 0 = .ok (.aload_n 0, 1) := by decide +kernel
theorem dX0_waitsForAnother_1 : decode cX0_waitsForAnother 1 = .ok (.getfield 35, 3) := by decide +kernel
theorem dX0_waitsForAnother_4 : decode cX0_waitsForAnother 4 = .ok (.iconst 1, 1) := by decide +kernel
theorem dX0_waitsForAnother_5 : decode cX0_waitsForAnother 5 = .ok (.iadd, 1) := by decide +kernel
theorem dX0_waitsForAnother_6 : decode cX0_waitsForAnother 6 = .ok (.istore_n 1, 1) := by decide +kernel
theorem dX0_waitsForAnother_7 : decode cX0_waitsForAnother 7 = .ok (.aload_n 0, 1) := by decide +kernel
theorem dX0_waitsForAnother_8 : decode cX0_waitsForAnother 8 = .ok (.iload_n 1, 1) := by decide +kernel
theorem dX0_waitsForAnother_9 : decode cX0_waitsForAnother 9 = .ok (.invokevirtual 38, 3) := by decide +kernel
theorem dX0_waitsForAnother_12 : decode cX0_waitsForAnother 12 = .ok (.ifCond .ne 5, 3) := by decide +kernel
theorem dX0_waitsForAnother_15 : decode cX0_waitsForAnother 15 = .ok (.iconst 0, 1) := by decide +kernel
theorem dX0_waitsForAnother_16 : decode cX0_waitsForAnother 16 = .ok (.ireturn, 1) := by decide +kernel
theorem dX0_waitsForAnother_17 : decode cX0_waitsForAnother 17 = .ok (.aload_n 0, 1) := by decide +kernel
theorem dX0_waitsForAnother_18 : decode cX0_waitsForAnother 18 = .ok (.getfield 21, 3) := by decide +kernel
theorem dX0_waitsForAnother_21 : decode cX0_waitsForAnother 21 = .ok (.iload_n 1, 1) := by decide +kernel
theorem dX0_waitsForAnother_22 : decode cX0_waitsForAnother 22 = .ok (.aaload, 1) := by decide +kernel
theorem dX0_waitsForAnother_23 : decode cX0_waitsForAnother 23 = .ok (.astore_n 2, 1) := by decide +kernel
theorem dX0_waitsForAnother_24 : decode cX0_waitsForAnother 24 = .ok (.aload_n 2, 1) := by decide +kernel
theorem dX0_waitsForAnother_25 : decode cX0_waitsForAnother 25 = .ok (.ifnull 22, 3) := by decide +kernel
theorem dX0_waitsForAnother_28 : decode cX0_waitsForAnother 28 = .ok (.aload_n 2, 1) := by decide +kernel
theorem dX0_waitsForAnother_29 : decode cX0_waitsForAnother 29 = .ok (.getfield 25, 3) := by decide +kernel
theorem dX0_waitsForAnother_32 : decode cX0_waitsForAnother 32 = .ok (.ifCond .eq 15, 3) := by decide +kernel
theorem dX0_waitsForAnother_35 : decode cX0_waitsForAnother 35 = .ok (.aload_n 2, 1) := by decide +kernel
theorem dX0_waitsForAnother_36 : decode cX0_waitsForAnother 36 = .ok (.getfield 35, 3) := by decide +kernel
theorem dX0_waitsForAnother_39 : decode cX0_waitsForAnother 39 = .ok (.iload_n 1, 1) := by decide +kernel
theorem dX0_waitsForAnother_40 : decode cX0_waitsForAnother 40 = .ok (.if_icmp .ge 7, 3) := by decide +kernel
theorem dX0_waitsForAnother_43 : decode cX0_waitsForAnother 43 = .ok (.iconst 1, 1) := by decide +kernel
theorem dX0_waitsForAnother_44 : decode cX0_waitsForAnother 44 = .ok (.goto 4, 3) := by decide +kernel
theorem dX0_waitsForAnother_47 : decode cX0_waitsForAnother 47 = .ok (.iconst 0, 1) := by decide +kernel
theorem dX0_waitsForAnother_48 : decode cX0_waitsForAnother 48 = .ok (.ireturn, 1) := by decide +kernel
theorem dX1_init_0 : decode cX1_init 0 = .ok (.aload_n 0, 1) := by decide +kernel
theorem dX1_init_1 : decode cX1_init 1 = .ok (.invokespecial 1, 3) := by decide +kernel
theorem dX1_init_4 : decode cX1_init 4 = .ok (.aload_n 0, 1) := by decide +kernel
theorem dX1_init_5 : decode cX1_init 5 = .ok (.bipush 30, 2) := by decide +kernel
theorem dX1_init_7 : decode cX1_init 7 = .ok (.anewarray 9, 3) := by decide +kernel
theorem dX1_init_10 : decode cX1_init 10 = .ok (.putfield 11, 3) := by decide +kernel
theorem dX1_init_13 : decode cX1_init 13 = .ok (.aload_n 0, 1) := by decide +kernel
theorem dX1_init_14 : decode cX1_init 14 = .ok (.bipush 16, 2) := by decide +kernel
theorem dX1_init_16 : decode cX1_init 16 = .ok (.anewarray 9, 3) := by decide +kernel
theorem dX1_init_19 : decode cX1_init 19 = .ok (.putfield 15, 3) := by decide +kernel
theorem dX1_init_22 : decode cX1_init 22 = .ok (.aload_n 0, 1) := by decide +kernel
theorem dX1_init_23 : decode cX1_init 23 = .ok (.sipush 500, 3) := by decide +kernel
theorem dX1_init_26 : decode cX1_init 26 = .ok (.newarray .int, 2) := by decide +kernel
theorem dX1_init_28 : decode cX1_init 28 = .ok (.putfield 18, 3) := by decide +kernel
theorem dX1_init_31 : decode cX1_init 31 = .ok (.aload_n 0, 1) := by decide +kernel
theorem dX1_init_32 : decode cX1_init 32 = .ok (.sipush 2000, 3) := by decide +kernel
theorem dX1_init_35 : decode cX1_init 35 = .ok (.newarray .int, 2) := by decide +kernel
theorem dX1_init_37 : decode cX1_init 37 = .ok (.putfield 22, 3) := by decide +kernel
theorem dX1_init_40 : decode cX1_init 40 = .ok (.return_, 1) := by decide +kernel
set_option maxRecDepth 20000 in
theorem ggX1_node_X0_init : GoodIn wsX1_node wsX0_init := goodIn_r _ [8, 9, 10, 11, 12, 13, 14, 15, 16, 17, 18, 19, 29, 30, 31, 32, 33, 34, 35, 36, 37, 38, 39, 40] (by decide +kernel) (by decide +kernel)
set_option maxRecDepth 20000 in
theorem gX1_node_X0_init : GoodIn wsX1_node (wsX0_init) := ggX1_node_X0_init
theorem dX1_node_0 : decode cX1_node 0 = .ok (.iload_n 1, 1) := by decide +kernel
theorem dX1_node_1 : decode cX1_node 1 = .ok (.iconst 1, 1) := by decide +kernel
theorem dX1_node_2 : decode cX1_node 2 = .ok (.if_icmp .lt 19, 3) := by decide +kernel
theorem dX1_node_5 : decode cX1_node 5 = .ok (.iload_n 1, 1) := by decide +kernel
theorem dX1_node_6 : decode cX1_node 6 = .ok (.sipush 200, 3) := by decide +kernel
theorem dX1_node_9 : decode cX1_node 9 = .ok (.if_icmp .gt 12, 3) := by decide +kernel
theorem dX1_node_12 : decode cX1_node 12 = .ok (.iload_n 2, 1) := by decide +kernel
theorem dX1_node_13 : decode cX1_node 13 = .ok (.ifCond .lt 8, 3) := by decide +kernel
theorem dX1_node_16 : decode cX1_node 16 = .ok (.iload_n 2, 1) := by decide +kernel
theorem dX1_node_17 : decode cX1_node 17 = .ok (.iload_n 1, 1) := by decide +kernel
theorem dX1_node_18 : decode cX1_node 18 = .ok (.if_icmp .le 6, 3) := by decide +kernel
theorem dX1_node_21 : decode cX1_node 21 = .ok (.bipush (-2), 2) := by decide +kernel
theorem dX1_node_23 : decode cX1_node 23 = .ok (.ireturn, 1) := by decide +kernel
theorem dX1_node_24 : decode cX1_node 24 = .ok (.aload_n 0, 1) := by decide +kernel
theorem dX1_node_25 : decode cX1_node 25 = .ok (.getfield 25, 3) := by decide +kernel
theorem dX1_node_28 : decode cX1_node 28 = .ok (.bipush 30, 2) := by decide +kernel
theorem dX1_node_30 : decode cX1_node 30 = .ok (.if_icmp .lt 6, 3) := by decide +kernel
theorem dX1_node_33 : decode cX1_node 33 = .ok (.bipush (-4), 2) := by decide +kernel
theorem dX1_node_35 : decode cX1_node 35 = .ok (.ireturn, 1) := by decide +kernel
theorem dX1_node_36 : decode cX1_node 36 = .ok (.aload_n 0, 1) := by decide +kernel
theorem dX1_node_37 : decode cX1_node 37 = .ok (.getfield 11, 3) := by decide +kernel
theorem dX1_node_40 : decode cX1_node 40 = .ok (.aload_n 0, 1) := by decide +kernel
theorem dX1_node_41 : decode cX1_node 41 = .ok (.getfield 25, 3) := by decide +kernel
theorem dX1_node_44 : decode cX1_node 44 = .ok (.new 9, 3) := by decide +kernel
theorem dX1_node_47 : decode cX1_node 47 = .ok (.dup, 1) := by decide +kernel
theorem dX1_node_48 : decode cX1_node 48 = .ok (.aload_n 0, 1) := by decide +kernel
theorem dX1_node_49 : decode cX1_node 49 = .ok (.getfield 25, 3) := by decide +kernel
theorem dX1_node_52 : decode cX1_node 52 = .ok (.iconst 1, 1) := by decide +kernel
theorem dX1_node_53 : decode cX1_node 53 = .ok (.iadd, 1) := by decide +kernel
theorem dX1_node_54 : decode cX1_node 54 = .ok (.iload_n 1, 1) := by decide +kernel
theorem dX1_node_55 : decode cX1_node 55 = .ok (.iload_n 2, 1) := by decide +kernel
theorem dX1_node_56 : decode cX1_node 56 = .ok (.invokespecial 29, 3) := by decide +kernel
theorem dX1_node_59 : decode cX1_node 59 = .ok (.aastore, 1) := by decide +kernel
theorem dX1_node_60 : decode cX1_node 60 = .ok (.aload_n 0, 1) := by decide +kernel
theorem dX1_node_61 : decode cX1_node 61 = .ok (.dup, 1) := by decide +kernel
theorem dX1_node_62 : decode cX1_node 62 = .ok (.getfield 25, 3) := by decide +kernel
theorem dX1_node_65 : decode cX1_node 65 = .ok (.iconst 1, 1) := by decide +kernel
theorem dX1_node_66 : decode cX1_node 66 = .ok (.iadd, 1) := by decide +kernel
theorem dX1_node_67 : decode cX1_node 67 = .ok (.putfield 25, 3) := by decide +kernel
theorem dX1_node_70 : decode cX1_node 70 = .ok (.aload_n 0, 1) := by decide +kernel
theorem dX1_node_71 : decode cX1_node 71 = .ok (.getfield 25, 3) := by decide +kernel
theorem dX1_node_74 : decode cX1_node 74 = .ok (.ireturn, 1) := by decide +kernel
set_option maxRecDepth 20000 in
theorem ggX1_waits_X1_nodeOrNull : GoodIn wsX1_waits wsX1_nodeOrNull := goodIn_r _ [7, 8, 9, 10, 11, 6, 12, 13, 33, 34, 35, 36, 37, 38, 39, 40, 41] (by decide +kernel) (by decide +kernel)
set_option maxRecDepth 20000 in
theorem gX1_waits_X1_nodeOrNull : GoodIn wsX1_waits (wsV RX1 32 RX1 yX1_nodeOrNull wsX1_nodeOrNull) := goodIn_app (goodIn_of _ (by decide +kernel)) ggX1_waits_X1_nodeOrNull
set_option maxRecDepth 20000 in
theorem ggX1_waits_X0_hasYetToDo : GoodIn wsX1_waits wsX0_hasYetToDo := goodIn_r _ [18, 19, 20, 21, 22, 23, 24, 25, 26, 27, 28, 29, 30, 31, 32] (by decide +kernel) (by decide +kernel)
set_option maxRecDepth 20000 in
theorem gX1_waits_X0_hasYetToDo : GoodIn wsX1_waits (wsV RX1 40 RX0 yX0_hasYetToDo wsX0_hasYetToDo) := goodIn_app (goodIn_of _ (by decide +kernel)) ggX1_waits_X0_hasYetToDo
theorem dX1_waits_0 : decode cX1_waits 0 = .ok (.aload_n 0, 1) := by decide +kernel
theorem dX1_waits_1 : decode cX1_waits 1 = .ok (.iload_n 1, 1) := by decide +kernel
theorem dX1_waits_2 : decode cX1_waits 2 = .ok (.invokevirtual 32, 3) := by decide +kernel
theorem dX1_waits_5 : decode cX1_waits 5 = .ok (.astore 4, 2) := by decide +kernel
theorem dX1_waits_7 : decode cX1_waits 7 = .ok (.aload_n 0, 1) := by decide +kernel
theorem dX1_waits_8 : decode cX1_waits 8 = .ok (.iload_n 3, 1) := by decide +kernel
theorem dX1_waits_9 : decode cX1_waits 9 = .ok (.invokevirtual 32, 3) := by decide +kernel
theorem dX1_waits_12 : decode cX1_waits 12 = .ok (.astore 5, 2) := by decide +kernel
theorem dX1_waits_14 : decode cX1_waits 14 = .ok (.aload 4, 2) := by decide +kernel
theorem dX1_waits_16 : decode cX1_waits 16 = .ok (.ifnull 15, 3) := by decide +kernel
theorem dX1_waits_19 : decode cX1_waits 19 = .ok (.aload 5, 2) := by decide +kernel
theorem dX1_waits_21 : decode cX1_waits 21 = .ok (.ifnull 10, 3) := by decide +kernel
theorem dX1_waits_24 : decode cX1_waits 24 = .ok (.aload 4, 2) := by decide +kernel
theorem dX1_waits_26 : decode cX1_waits 26 = .ok (.aload 5, 2) := by decide +kernel
theorem dX1_waits_28 : decode cX1_waits 28 = .ok (.if_acmp .ne 5, 3) := by decide +kernel
theorem dX1_waits_31 : decode cX1_waits 31 = .ok (.iconst 0, 1) := by decide +kernel
theorem dX1_waits_32 : decode cX1_waits 32 = .ok (.ireturn, 1) := by decide +kernel
theorem dX1_waits_33 : decode cX1_waits 33 = .ok (.aload 4, 2) := by decide +kernel
theorem dX1_waits_35 : decode cX1_waits 35 = .ok (.getfield 36, 3) := by decide +kernel
theorem dX1_waits_38 : decode cX1_waits 38 = .ok (.ifCond .eq 12, 3) := by decide +kernel
theorem dX1_waits_41 : decode cX1_waits 41 = .ok (.aload 4, 2) := by decide +kernel
theorem dX1_waits_43 : decode cX1_waits 43 = .ok (.iload_n 2, 1) := by decide +kernel
theorem dX1_waits_44 : decode cX1_waits 44 = .ok (.invokevirtual 40, 3) := by decide +kernel
theorem dX1_waits_47 : decode cX1_waits 47 = .ok (.ifCond .ne 5, 3) := by decide +kernel
theorem dX1_waits_50 : decode cX1_waits 50 = .ok (.iconst 0, 1) := by decide +kernel
theorem dX1_waits_51 : decode cX1_waits 51 = .ok (.ireturn, 1) := by decide +kernel
theorem dX1_waits_52 : decode cX1_waits 52 = .ok (.aload 4, 2) := by decide +kernel
theorem dX1_waits_54 : decode cX1_waits 54 = .ok (.getfield 44, 3) := by decide +kernel
theorem dX1_waits_57 : decode cX1_waits 57 = .ok (.iload_n 2, 1) := by decide +kernel
theorem dX1_waits_58 : decode cX1_waits 58 = .ok (.aload 5, 2) := by decide +kernel
theorem dX1_waits_60 : decode cX1_waits 60 = .ok (.aastore, 1) := by decide +kernel
theorem dX1_waits_61 : decode cX1_waits 61 = .ok (.iconst 1, 1) := by decide +kernel
theorem dX1_waits_62 : decode cX1_waits 62 = .ok (.ireturn, 1) := by decide +kernel
set_option maxRecDepth 20000 in
theorem ggX1_turn_X1_isKnown : GoodIn wsX1_turn wsX1_isKnown := goodIn_r _ [7, 8, 9, 10, 11, 12, 13, 14, 15, 16, 17] (by decide +kernel) (by decide +kernel)
set_option maxRecDepth 20000 in
theorem gX1_turn_X1_isKnown : GoodIn wsX1_turn (wsV RX1 47 RX1 yX1_isKnown wsX1_isKnown) := goodIn_app (goodIn_of _ (by decide +kernel)) ggX1_turn_X1_isKnown
theorem dX1_turn_0 : decode cX1_turn 0 = .ok (.aload_n 0, 1) := by decide +kernel
theorem dX1_turn_1 : decode cX1_turn 1 = .ok (.iload_n 1, 1) := by decide +kernel
theorem dX1_turn_2 : decode cX1_turn 2 = .ok (.invokevirtual 47, 3) := by decide +kernel
theorem dX1_turn_5 : decode cX1_turn 5 = .ok (.ifCond .eq 33, 3) := by decide +kernel
theorem dX1_turn_8 : decode cX1_turn 8 = .ok (.aload_n 0, 1) := by decide +kernel
theorem dX1_turn_9 : decode cX1_turn 9 = .ok (.getfield 50, 3) := by decide +kernel
theorem dX1_turn_12 : decode cX1_turn 12 = .ok (.sipush 500, 3) := by decide +kernel
theorem dX1_turn_15 : decode cX1_turn 15 = .ok (.if_icmp .ge 23, 3) := by decide +kernel
theorem dX1_turn_18 : decode cX1_turn 18 = .ok (.aload_n 0, 1) := by decide +kernel
theorem dX1_turn_19 : decode cX1_turn 19 = .ok (.getfield 18, 3) := by decide +kernel
theorem dX1_turn_22 : decode cX1_turn 22 = .ok (.aload_n 0, 1) := by decide +kernel
theorem dX1_turn_23 : decode cX1_turn 23 = .ok (.getfield 50, 3) := by decide +kernel
theorem dX1_turn_26 : decode cX1_turn 26 = .ok (.iload_n 1, 1) := by decide +kernel
theorem dX1_turn_27 : decode cX1_turn 27 = .ok (.iastore, 1) := by decide +kernel
theorem dX1_turn_28 : decode cX1_turn 28 = .ok (.aload_n 0, 1) := by decide +kernel
theorem dX1_turn_29 : decode cX1_turn 29 = .ok (.dup, 1) := by decide +kernel
theorem dX1_turn_30 : decode cX1_turn 30 = .ok (.getfield 50, 3) := by decide +kernel
theorem dX1_turn_33 : decode cX1_turn 33 = .ok (.iconst 1, 1) := by decide +kernel
theorem dX1_turn_34 : decode cX1_turn 34 = .ok (.iadd, 1) := by decide +kernel
theorem dX1_turn_35 : decode cX1_turn 35 = .ok (.putfield 50, 3) := by decide +kernel
theorem dX1_turn_38 : decode cX1_turn 38 = .ok (.return_, 1) := by decide +kernel
set_option maxRecDepth 20000 in
theorem ggX1_run_X1_microsecondHappens : GoodIn wsX1_run wsX1_microsecondHappens := goodIn_r _ [6, 7, 8, 9, 10, 5, 11, 12, 13, 14, 15, 16, 17, 18, 19, 20, 21, 22, 23, 24, 25, 26, 27, 28, 29, 30, 31, 32, 33, 34, 35, 36, 37, 38, 39, 40, 41, 42, 43, 44, 45, 46, 47, 48, 49, 50, 51, 52, 53, 54, 55, 56, 1, 57, 58, 59, 60, 61, 62, 63, 64, 65, 66, 67, 68, 69, 70, 71, 72, 73, 74, 75, 76, 77, 78, 79, 80, 81, 82, 83, 84, 85, 86, 87, 88, 89, 90, 91, 92, 93, 94, 95, 96, 97, 98, 99, 100, 101, 102, 103, 104, 105, 106, 107, 108, 109, 110, 111] (by decide +kernel) (by decide +kernel)
set_option maxRecDepth 20000 in
theorem gX1_run_X1_microsecondHappens : GoodIn wsX1_run (wsV RX1 53 RX1 yX1_microsecondHappens wsX1_microsecondHappens) := goodIn_app (goodIn_of _ (by decide +kernel)) ggX1_run_X1_microsecondHappens
theorem dX1_run_0 : decode cX1_run 0 = .ok (.iconst 0, 1) := by decide +kernel
theorem dX1_run_1 : decode cX1_run 1 = .ok (.istore_n 1, 1) := by decide +kernel
theorem dX1_run_2 : decode cX1_run 2 = .ok (.iload_n 1, 1) := by decide +kernel
theorem dX1_run_3 : decode cX1_run 3 = .ok (.sipush 1000, 3) := by decide +kernel
theorem dX1_run_6 : decode cX1_run 6 = .ok (.if_icmp .ge 16, 3) := by decide +kernel
theorem dX1_run_9 : decode cX1_run 9 = .ok (.aload_n 0, 1) := by decide +kernel
theorem dX1_run_10 : decode cX1_run 10 = .ok (.invokevirtual 53, 3) := by decide +kernel
theorem dX1_run_13 : decode cX1_run 13 = .ok (.ifCond .eq 9, 3) := by decide +kernel
theorem dX1_run_16 : decode cX1_run 16 = .ok (.iinc 1 1, 3) := by decide +kernel
theorem dX1_run_19 : decode cX1_run 19 = .ok (.goto (-17), 3) := by decide +kernel
theorem dX1_run_22 : decode cX1_run 22 = .ok (.aload_n 0, 1) := by decide +kernel
theorem dX1_run_23 : decode cX1_run 23 = .ok (.iconst 0, 1) := by decide +kernel
theorem dX1_run_24 : decode cX1_run 24 = .ok (.putfield 50, 3) := by decide +kernel
theorem dX1_run_27 : decode cX1_run 27 = .ok (.iload_n 1, 1) := by decide +kernel
theorem dX1_run_28 : decode cX1_run 28 = .ok (.ireturn, 1) := by decide +kernel
theorem dX1_log_0 : decode cX1_log 0 = .ok (.iload_n 1, 1) := by decide +kernel
theorem dX1_log_1 : decode cX1_log 1 = .ok (.ifCond .lt 20, 3) := by decide +kernel
theorem dX1_log_4 : decode cX1_log 4 = .ok (.iload_n 1, 1) := by decide +kernel
theorem dX1_log_5 : decode cX1_log 5 = .ok (.aload_n 0, 1) := by decide +kernel
theorem dX1_log_6 : decode cX1_log 6 = .ok (.getfield 57, 3) := by decide +kernel
theorem dX1_log_9 : decode cX1_log 9 = .ok (.if_icmp .ge 12, 3) := by decide +kernel
theorem dX1_log_12 : decode cX1_log 12 = .ok (.aload_n 0, 1) := by decide +kernel
theorem dX1_log_13 : decode cX1_log 13 = .ok (.getfield 22, 3) := by decide +kernel
theorem dX1_log_16 : decode cX1_log 16 = .ok (.iload_n 1, 1) := by decide +kernel
theorem dX1_log_17 : decode cX1_log 17 = .ok (.iaload, 1) := by decide +kernel
theorem dX1_log_18 : decode cX1_log 18 = .ok (.goto 4, 3) := by decide +kernel
theorem dX1_log_21 : decode cX1_log 21 = .ok (.iconst (-1), 1) := by decide +kernel
theorem dX1_log_22 : decode cX1_log 22 = .ok (.ireturn, 1) := by decide +kernel
set_option maxRecDepth 20000 in
theorem ggX1_safe_X1_nodeOrNull : GoodIn wsX1_safe wsX1_nodeOrNull := goodIn_r _ [6, 7, 8, 9, 10, 5, 11, 12, 25, 26, 27, 28, 29, 30, 31, 32, 33] (by decide +kernel) (by decide +kernel)
set_option maxRecDepth 20000 in
theorem gX1_safe_X1_nodeOrNull : GoodIn wsX1_safe (wsV RX1 32 RX1 yX1_nodeOrNull wsX1_nodeOrNull) := goodIn_app (goodIn_of _ (by decide +kernel)) ggX1_safe_X1_nodeOrNull
theorem dX1_safe_0 : decode cX1_safe 0 = .ok (.aload_n 0, 1) := by decide +kernel
theorem dX1_safe_1 : decode cX1_safe 1 = .ok (.iload_n 1, 1) := by decide +kernel
theorem dX1_safe_2 : decode cX1_safe 2 = .ok (.invokevirtual 32, 3) := by decide +kernel
theorem dX1_safe_5 : decode cX1_safe 5 = .ok (.astore_n 2, 1) := by decide +kernel
theorem dX1_safe_6 : decode cX1_safe 6 = .ok (.aload_n 2, 1) := by decide +kernel
theorem dX1_safe_7 : decode cX1_safe 7 = .ok (.ifnonnull 5, 3) := by decide +kernel
theorem dX1_safe_10 : decode cX1_safe 10 = .ok (.iconst (-1), 1) := by decide +kernel
theorem dX1_safe_11 : decode cX1_safe 11 = .ok (.ireturn, 1) := by decide +kernel
theorem dX1_safe_12 : decode cX1_safe 12 = .ok (.aload_n 2, 1) := by decide +kernel
theorem dX1_safe_13 : decode cX1_safe 13 = .ok (.getfield 60, 3) := by decide +kernel
theorem dX1_safe_16 : decode cX1_safe 16 = .ok (.ifCond .eq 7, 3) := by decide +kernel
theorem dX1_safe_19 : decode cX1_safe 19 = .ok (.iconst 1, 1) := by decide +kernel
theorem dX1_safe_20 : decode cX1_safe 20 = .ok (.goto 4, 3) := by decide +kernel
theorem dX1_safe_23 : decode cX1_safe 23 = .ok (.iconst 0, 1) := by decide +kernel
theorem dX1_safe_24 : decode cX1_safe 24 = .ok (.ireturn, 1) := by decide +kernel
set_option maxRecDepth 20000 in
theorem ggX1_cut_X1_nodeOrNull : GoodIn wsX1_cut wsX1_nodeOrNull := goodIn_r _ [8, 9, 10, 11, 12, 7, 13, 14, 15, 16, 17, 18, 19, 20, 21, 22, 23] (by decide +kernel) (by decide +kernel)
set_option maxRecDepth 20000 in
theorem gX1_cut_X1_nodeOrNull : GoodIn wsX1_cut (wsV RX1 32 RX1 yX1_nodeOrNull wsX1_nodeOrNull) := goodIn_app (goodIn_of _ (by decide +kernel)) ggX1_cut_X1_nodeOrNull
theorem dX1_cut_0 : decode cX1_cut 0 = .ok (.aload_n 0, 1) := by decide +kernel
theorem dX1_cut_1 : decode cX1_cut 1 = .ok (.iload_n 1, 1) := by decide +kernel
theorem dX1_cut_2 : decode cX1_cut 2 = .ok (.invokevirtual 32, 3) := by decide +kernel
theorem dX1_cut_5 : decode cX1_cut 5 = .ok (.astore 4, 2) := by decide +kernel
theorem dX1_cut_7 : decode cX1_cut 7 = .ok (.aload 4, 2) := by decide +kernel
theorem dX1_cut_9 : decode cX1_cut 9 = .ok (.ifnonnull 5, 3) := by decide +kernel
theorem dX1_cut_12 : decode cX1_cut 12 = .ok (.iconst (-1), 1) := by decide +kernel
theorem dX1_cut_13 : decode cX1_cut 13 = .ok (.ireturn, 1) := by decide +kernel
theorem dX1_cut_14 : decode cX1_cut 14 = .ok (.lload_n 2, 1) := by decide +kernel
theorem dX1_cut_15 : decode cX1_cut 15 = .ok (.aload_n 0, 1) := by decide +kernel
theorem dX1_cut_16 : decode cX1_cut 16 = .ok (.getfield 63, 3) := by decide +kernel
theorem dX1_cut_19 : decode cX1_cut 19 = .ok (.lcmp, 1) := by decide +kernel
theorem dX1_cut_20 : decode cX1_cut 20 = .ok (.ifCond .ge 6, 3) := by decide +kernel
theorem dX1_cut_23 : decode cX1_cut 23 = .ok (.bipush (-2), 2) := by decide +kernel
theorem dX1_cut_25 : decode cX1_cut 25 = .ok (.ireturn, 1) := by decide +kernel
theorem dX1_cut_26 : decode cX1_cut 26 = .ok (.aload 4, 2) := by decide +kernel
theorem dX1_cut_28 : decode cX1_cut 28 = .ok (.getfield 36, 3) := by decide +kernel
theorem dX1_cut_31 : decode cX1_cut 31 = .ok (.ifCond .ne 6, 3) := by decide +kernel
theorem dX1_cut_34 : decode cX1_cut 34 = .ok (.bipush (-3), 2) := by decide +kernel
theorem dX1_cut_36 : decode cX1_cut 36 = .ok (.ireturn, 1) := by decide +kernel
theorem dX1_cut_37 : decode cX1_cut 37 = .ok (.aload 4, 2) := by decide +kernel
theorem dX1_cut_39 : decode cX1_cut 39 = .ok (.lload_n 2, 1) := by decide +kernel
theorem dX1_cut_40 : decode cX1_cut 40 = .ok (.putfield 67, 3) := by decide +kernel
theorem dX1_cut_43 : decode cX1_cut 43 = .ok (.iconst 1, 1) := by decide +kernel
theorem dX1_cut_44 : decode cX1_cut 44 = .ok (.ireturn, 1) := by decide +kernel
set_option maxRecDepth 20000 in
theorem ggX1_interrupt_X1_nodeOrNull : GoodIn wsX1_interrupt wsX1_nodeOrNull := goodIn_r _ [7, 8, 9, 10, 11, 6, 12, 13, 26, 27, 28, 29, 30, 31, 32, 33, 34] (by decide +kernel) (by decide +kernel)
set_option maxRecDepth 20000 in
theorem gX1_interrupt_X1_nodeOrNull : GoodIn wsX1_interrupt (wsV RX1 32 RX1 yX1_nodeOrNull wsX1_nodeOrNull) := goodIn_app (goodIn_of _ (by decide +kernel)) ggX1_interrupt_X1_nodeOrNull
theorem dX1_interrupt_0 : decode cX1_interrupt 0 = .ok (.aload_n 0, 1) := by decide +kernel
theorem dX1_interrupt_1 : decode cX1_interrupt 1 = .ok (.iload_n 1, 1) := by decide +kernel
theorem dX1_interrupt_2 : decode cX1_interrupt 2 = .ok (.invokevirtual 32, 3) := by decide +kernel
theorem dX1_interrupt_5 : decode cX1_interrupt 5 = .ok (.astore_n 2, 1) := by decide +kernel
theorem dX1_interrupt_6 : decode cX1_interrupt 6 = .ok (.aload_n 2, 1) := by decide +kernel
theorem dX1_interrupt_7 : decode cX1_interrupt 7 = .ok (.ifnull 10, 3) := by decide +kernel
theorem dX1_interrupt_10 : decode cX1_interrupt 10 = .ok (.aload_n 2, 1) := by decide +kernel
theorem dX1_interrupt_11 : decode cX1_interrupt 11 = .ok (.getfield 36, 3) := by decide +kernel
theorem dX1_interrupt_14 : decode cX1_interrupt 14 = .ok (.ifCond .ne 5, 3) := by decide +kernel
theorem dX1_interrupt_17 : decode cX1_interrupt 17 = .ok (.iconst 0, 1) := by decide +kernel
theorem dX1_interrupt_18 : decode cX1_interrupt 18 = .ok (.ireturn, 1) := by decide +kernel
theorem dX1_interrupt_19 : decode cX1_interrupt 19 = .ok (.aload_n 2, 1) := by decide +kernel
theorem dX1_interrupt_20 : decode cX1_interrupt 20 = .ok (.iconst 1, 1) := by decide +kernel
theorem dX1_interrupt_21 : decode cX1_interrupt 21 = .ok (.putfield 70, 3) := by decide +kernel
theorem dX1_interrupt_24 : decode cX1_interrupt 24 = .ok (.iconst 1, 1) := by decide +kernel
theorem dX1_interrupt_25 : decode cX1_interrupt 25 = .ok (.ireturn, 1) := by decide +kernel
set_option maxRecDepth 20000 in
theorem ggX1_held_X1_nodeOrNull : GoodIn wsX1_held wsX1_nodeOrNull := goodIn_r _ [7, 8, 9, 10, 11, 6, 12, 13, 18, 19, 20, 21, 22, 23, 24, 25, 26] (by decide +kernel) (by decide +kernel)
set_option maxRecDepth 20000 in
theorem gX1_held_X1_nodeOrNull : GoodIn wsX1_held (wsV RX1 32 RX1 yX1_nodeOrNull wsX1_nodeOrNull) := goodIn_app (goodIn_of _ (by decide +kernel)) ggX1_held_X1_nodeOrNull
set_option maxRecDepth 20000 in
theorem ggX1_held_X1_countThingsOf : GoodIn wsX1_held wsX1_countThingsOf := goodIn_r _ [17, 1, 18, 19, 20, 21, 22, 23, 24, 25, 26] (by decide +kernel) (by decide +kernel)
set_option maxRecDepth 20000 in
theorem gX1_held_X1_countThingsOf : GoodIn wsX1_held (wsV RX1 73 RX1 yX1_countThingsOf wsX1_countThingsOf) := goodIn_app (goodIn_of _ (by decide +kernel)) ggX1_held_X1_countThingsOf
theorem dX1_held_0 : decode cX1_held 0 = .ok (.aload_n 0, 1) := by decide +kernel
theorem dX1_held_1 : decode cX1_held 1 = .ok (.iload_n 1, 1) := by decide +kernel
theorem dX1_held_2 : decode cX1_held 2 = .ok (.invokevirtual 32, 3) := by decide +kernel
theorem dX1_held_5 : decode cX1_held 5 = .ok (.astore_n 3, 1) := by decide +kernel
theorem dX1_held_6 : decode cX1_held 6 = .ok (.aload_n 3, 1) := by decide +kernel
theorem dX1_held_7 : decode cX1_held 7 = .ok (.ifnonnull 5, 3) := by decide +kernel
theorem dX1_held_10 : decode cX1_held 10 = .ok (.iconst (-1), 1) := by decide +kernel
theorem dX1_held_11 : decode cX1_held 11 = .ok (.ireturn, 1) := by decide +kernel
theorem dX1_held_12 : decode cX1_held 12 = .ok (.iload_n 2, 1) := by decide +kernel
theorem dX1_held_13 : decode cX1_held 13 = .ok (.ifCond .lt 9, 3) := by decide +kernel
theorem dX1_held_16 : decode cX1_held 16 = .ok (.iload_n 2, 1) := by decide +kernel
theorem dX1_held_17 : decode cX1_held 17 = .ok (.bipush 16, 2) := by decide +kernel
theorem dX1_held_19 : decode cX1_held 19 = .ok (.if_icmp .le 6, 3) := by decide +kernel
theorem dX1_held_22 : decode cX1_held 22 = .ok (.bipush (-2), 2) := by decide +kernel
theorem dX1_held_24 : decode cX1_held 24 = .ok (.ireturn, 1) := by decide +kernel
theorem dX1_held_25 : decode cX1_held 25 = .ok (.iload_n 2, 1) := by decide +kernel
theorem dX1_held_26 : decode cX1_held 26 = .ok (.ifCond .le 33, 3) := by decide +kernel
theorem dX1_held_29 : decode cX1_held 29 = .ok (.aload_n 0, 1) := by decide +kernel
theorem dX1_held_30 : decode cX1_held 30 = .ok (.getfield 15, 3) := by decide +kernel
theorem dX1_held_33 : decode cX1_held 33 = .ok (.iload_n 2, 1) := by decide +kernel
theorem dX1_held_34 : decode cX1_held 34 = .ok (.iconst 1, 1) := by decide +kernel
theorem dX1_held_35 : decode cX1_held 35 = .ok (.isub, 1) := by decide +kernel
theorem dX1_held_36 : decode cX1_held 36 = .ok (.aaload, 1) := by decide +kernel
theorem dX1_held_37 : decode cX1_held 37 = .ok (.ifnonnull 10, 3) := by decide +kernel
theorem dX1_held_40 : decode cX1_held 40 = .ok (.aload_n 3, 1) := by decide +kernel
theorem dX1_held_41 : decode cX1_held 41 = .ok (.getfield 36, 3) := by decide +kernel
theorem dX1_held_44 : decode cX1_held 44 = .ok (.ifCond .ne 6, 3) := by decide +kernel
theorem dX1_held_47 : decode cX1_held 47 = .ok (.bipush (-3), 2) := by decide +kernel
theorem dX1_held_49 : decode cX1_held 49 = .ok (.ireturn, 1) := by decide +kernel
theorem dX1_held_50 : decode cX1_held 50 = .ok (.aload_n 0, 1) := by decide +kernel
theorem dX1_held_51 : decode cX1_held 51 = .ok (.getfield 15, 3) := by decide +kernel
theorem dX1_held_54 : decode cX1_held 54 = .ok (.iload_n 2, 1) := by decide +kernel
theorem dX1_held_55 : decode cX1_held 55 = .ok (.iconst 1, 1) := by decide +kernel
theorem dX1_held_56 : decode cX1_held 56 = .ok (.isub, 1) := by decide +kernel
theorem dX1_held_57 : decode cX1_held 57 = .ok (.aload_n 3, 1) := by decide +kernel
theorem dX1_held_58 : decode cX1_held 58 = .ok (.aastore, 1) := by decide +kernel
theorem dX1_held_59 : decode cX1_held 59 = .ok (.aload_n 0, 1) := by decide +kernel
theorem dX1_held_60 : decode cX1_held 60 = .ok (.aload_n 3, 1) := by decide +kernel
theorem dX1_held_61 : decode cX1_held 61 = .ok (.invokevirtual 73, 3) := by decide +kernel
theorem dX1_held_64 : decode cX1_held 64 = .ok (.ireturn, 1) := by decide +kernel
theorem dX1_barrier_0 : decode cX1_barrier 0 = .ok (.iload_n 1, 1) := by decide +kernel
theorem dX1_barrier_1 : decode cX1_barrier 1 = .ok (.ifCond .lt 10, 3) := by decide +kernel
theorem dX1_barrier_4 : decode cX1_barrier 4 = .ok (.iload_n 1, 1) := by decide +kernel
theorem dX1_barrier_5 : decode cX1_barrier 5 = .ok (.sipush 200, 3) := by decide +kernel
theorem dX1_barrier_8 : decode cX1_barrier 8 = .ok (.if_icmp .le 6, 3) := by decide +kernel
theorem dX1_barrier_11 : decode cX1_barrier 11 = .ok (.bipush (-2), 2) := by decide +kernel
theorem dX1_barrier_13 : decode cX1_barrier 13 = .ok (.ireturn, 1) := by decide +kernel
theorem dX1_barrier_14 : decode cX1_barrier 14 = .ok (.aload_n 0, 1) := by decide +kernel
theorem dX1_barrier_15 : decode cX1_barrier 15 = .ok (.getfield 77, 3) := by decide +kernel
theorem dX1_barrier_18 : decode cX1_barrier 18 = .ok (.istore_n 2, 1) := by decide +kernel
theorem dX1_barrier_19 : decode cX1_barrier 19 = .ok (.aload_n 0, 1) := by decide +kernel
theorem dX1_barrier_20 : decode cX1_barrier 20 = .ok (.iload_n 1, 1) := by decide +kernel
theorem dX1_barrier_21 : decode cX1_barrier 21 = .ok (.putfield 77, 3) := by decide +kernel
theorem dX1_barrier_24 : decode cX1_barrier 24 = .ok (.iload_n 2, 1) := by decide +kernel
theorem dX1_barrier_25 : decode cX1_barrier 25 = .ok (.ireturn, 1) := by decide +kernel
set_option maxRecDepth 20000 in
theorem ggX1_finished_X1_nodeOrNull : GoodIn wsX1_finished wsX1_nodeOrNull := goodIn_r _ [6, 7, 8, 9, 10, 5, 11, 12, 25, 26, 27, 28, 29, 30, 31, 32, 33] (by decide +kernel) (by decide +kernel)
set_option maxRecDepth 20000 in
theorem gX1_finished_X1_nodeOrNull : GoodIn wsX1_finished (wsV RX1 32 RX1 yX1_nodeOrNull wsX1_nodeOrNull) := goodIn_app (goodIn_of _ (by decide +kernel)) ggX1_finished_X1_nodeOrNull
theorem dX1_finished_0 : decode cX1_finished 0 = .ok (.aload_n 0, 1) := by decide +kernel
theorem dX1_finished_1 : decode cX1_finished 1 = .ok (.iload_n 1, 1) := by decide +kernel
theorem dX1_finished_2 : decode cX1_finished 2 = .ok (.invokevirtual 32, 3) := by decide +kernel
theorem dX1_finished_5 : decode cX1_finished 5 = .ok (.astore_n 2, 1) := by decide +kernel
theorem dX1_finished_6 : decode cX1_finished 6 = .ok (.aload_n 2, 1) := by decide +kernel
theorem dX1_finished_7 : decode cX1_finished 7 = .ok (.ifnonnull 7, 3) := by decide +kernel
theorem dX1_finished_10 : decode cX1_finished 10 = .ok (.iconst (-1), 1) := by decide +kernel
theorem dX1_finished_11 : decode cX1_finished 11 = .ok (.goto 7, 3) := by decide +kernel
theorem dX1_finished_14 : decode cX1_finished 14 = .ok (.aload_n 2, 1) := by decide +kernel
theorem dX1_finished_15 : decode cX1_finished 15 = .ok (.getfield 80, 3) := by decide +kernel
theorem dX1_finished_18 : decode cX1_finished 18 = .ok (.ireturn, 1) := by decide +kernel
set_option maxRecDepth 20000 in
theorem ggX1_close_X1_endNode : GoodIn wsX1_close wsX1_endNode := goodIn_r _ [7, 2, 8, 9, 19, 20, 21, 22, 23, 24, 25, 26, 27, 28, 29, 30, 10, 11, 12, 13, 14, 15, 16, 17, 18] (by decide +kernel) (by decide +kernel)
set_option maxRecDepth 20000 in
theorem gX1_close_X1_endNode : GoodIn wsX1_close (wsV RX1 83 RX1 yX1_endNode wsX1_endNode) := goodIn_app (goodIn_of _ (by decide +kernel)) ggX1_close_X1_endNode
theorem dX1_close_0 : decode cX1_close 0 = .ok (.iconst 0, 1) := by decide +kernel
theorem dX1_close_1 : decode cX1_close 1 = .ok (.istore_n 1, 1) := by decide +kernel
theorem dX1_close_2 : decode cX1_close 2 = .ok (.aload_n 0, 1) := by decide +kernel
theorem dX1_close_3 : decode cX1_close 3 = .ok (.getfield 11, 3) := by decide +kernel
theorem dX1_close_6 : decode cX1_close 6 = .ok (.astore_n 2, 1) := by decide +kernel
theorem dX1_close_7 : decode cX1_close 7 = .ok (.aload_n 2, 1) := by decide +kernel
theorem dX1_close_8 : decode cX1_close 8 = .ok (.arraylength, 1) := by decide +kernel
theorem dX1_close_9 : decode cX1_close 9 = .ok (.istore_n 3, 1) := by decide +kernel
theorem dX1_close_10 : decode cX1_close 10 = .ok (.iconst 0, 1) := by decide +kernel
theorem dX1_close_11 : decode cX1_close 11 = .ok (.istore 4, 2) := by decide +kernel
theorem dX1_close_13 : decode cX1_close 13 = .ok (.iload 4, 2) := by decide +kernel
theorem dX1_close_15 : decode cX1_close 15 = .ok (.iload_n 3, 1) := by decide +kernel
theorem dX1_close_16 : decode cX1_close 16 = .ok (.if_icmp .ge 37, 3) := by decide +kernel
theorem dX1_close_19 : decode cX1_close 19 = .ok (.aload_n 2, 1) := by decide +kernel
theorem dX1_close_20 : decode cX1_close 20 = .ok (.iload 4, 2) := by decide +kernel
theorem dX1_close_22 : decode cX1_close 22 = .ok (.aaload, 1) := by decide +kernel
theorem dX1_close_23 : decode cX1_close 23 = .ok (.astore 5, 2) := by decide +kernel
theorem dX1_close_25 : decode cX1_close 25 = .ok (.aload 5, 2) := by decide +kernel
theorem dX1_close_27 : decode cX1_close 27 = .ok (.ifnull 20, 3) := by decide +kernel
theorem dX1_close_30 : decode cX1_close 30 = .ok (.aload 5, 2) := by decide +kernel
theorem dX1_close_32 : decode cX1_close 32 = .ok (.getfield 36, 3) := by decide +kernel
theorem dX1_close_35 : decode cX1_close 35 = .ok (.ifCond .eq 12, 3) := by decide +kernel
theorem dX1_close_38 : decode cX1_close 38 = .ok (.aload_n 0, 1) := by decide +kernel
theorem dX1_close_39 : decode cX1_close 39 = .ok (.aload 5, 2) := by decide +kernel
theorem dX1_close_41 : decode cX1_close 41 = .ok (.invokevirtual 83, 3) := by decide +kernel
theorem dX1_close_44 : decode cX1_close 44 = .ok (.iinc 1 1, 3) := by decide +kernel
theorem dX1_close_47 : decode cX1_close 47 = .ok (.iinc 4 1, 3) := by decide +kernel
theorem dX1_close_50 : decode cX1_close 50 = .ok (.goto (-37), 3) := by decide +kernel
theorem dX1_close_53 : decode cX1_close 53 = .ok (.iload_n 1, 1) := by decide +kernel
theorem dX1_close_54 : decode cX1_close 54 = .ok (.ireturn, 1) := by decide +kernel
theorem dX1_isKnown_0 : decode cX1_isKnown 0 = .ok (.iload_n 1, 1) := by decide +kernel
theorem dX1_isKnown_1 : decode cX1_isKnown 1 = .ok (.iconst 1, 1) := by decide +kernel
theorem dX1_isKnown_2 : decode cX1_isKnown 2 = .ok (.if_icmp .lt 15, 3) := by decide +kernel
theorem dX1_isKnown_5 : decode cX1_isKnown 5 = .ok (.iload_n 1, 1) := by decide +kernel
theorem dX1_isKnown_6 : decode cX1_isKnown 6 = .ok (.aload_n 0, 1) := by decide +kernel
theorem dX1_isKnown_7 : decode cX1_isKnown 7 = .ok (.getfield 25, 3) := by decide +kernel
theorem dX1_isKnown_10 : decode cX1_isKnown 10 = .ok (.if_icmp .gt 7, 3) := by decide +kernel
theorem dX1_isKnown_13 : decode cX1_isKnown 13 = .ok (.iconst 1, 1) := by decide +kernel
theorem dX1_isKnown_14 : decode cX1_isKnown 14 = .ok (.goto 4, 3) := by decide +kernel
theorem dX1_isKnown_17 : decode cX1_isKnown 17 = .ok (.iconst 0, 1) := by decide +kernel
theorem dX1_isKnown_18 : decode cX1_isKnown 18 = .ok (.ireturn, 1) := by decide +kernel
set_option maxRecDepth 20000 in
theorem ggX1_nodeOrNull_X1_isKnown : GoodIn wsX1_nodeOrNull wsX1_isKnown := goodIn_r _ [6, 7, 8, 9, 10, 11, 12, 13, 14, 15, 16] (by decide +kernel) (by decide +kernel)
set_option maxRecDepth 20000 in
theorem gX1_nodeOrNull_X1_isKnown : GoodIn wsX1_nodeOrNull (wsV RX1 47 RX1 yX1_isKnown wsX1_isKnown) := goodIn_app (goodIn_of _ (by decide +kernel)) ggX1_nodeOrNull_X1_isKnown
theorem dX1_nodeOrNull_0 : decode cX1_nodeOrNull 0 = .ok (.aload_n 0, 1) := by decide +kernel
theorem dX1_nodeOrNull_1 : decode cX1_nodeOrNull 1 = .ok (.iload_n 1, 1) := by decide +kernel
theorem dX1_nodeOrNull_2 : decode cX1_nodeOrNull 2 = .ok (.invokevirtual 47, 3) := by decide +kernel
theorem dX1_nodeOrNull_5 : decode cX1_nodeOrNull 5 = .ok (.ifCond .eq 14, 3) := by decide +kernel
theorem dX1_nodeOrNull_8 : decode cX1_nodeOrNull 8 = .ok (.aload_n 0, 1) := by decide +kernel
theorem dX1_nodeOrNull_9 : decode cX1_nodeOrNull 9 = .ok (.getfield 11, 3) := by decide +kernel
theorem dX1_nodeOrNull_12 : decode cX1_nodeOrNull 12 = .ok (.iload_n 1, 1) := by decide +kernel
theorem dX1_nodeOrNull_13 : decode cX1_nodeOrNull 13 = .ok (.iconst 1, 1) := by decide +kernel
theorem dX1_nodeOrNull_14 : decode cX1_nodeOrNull 14 = .ok (.isub, 1) := by decide +kernel
theorem dX1_nodeOrNull_15 : decode cX1_nodeOrNull 15 = .ok (.aaload, 1) := by decide +kernel
theorem dX1_nodeOrNull_16 : decode cX1_nodeOrNull 16 = .ok (.goto 4, 3) := by decide +kernel
theorem dX1_nodeOrNull_19 : decode cX1_nodeOrNull 19 = .ok (.aconst_null, 1) := by decide +kernel
theorem dX1_nodeOrNull_20 : decode cX1_nodeOrNull 20 = .ok (.areturn, 1) := by decide +kernel
set_option maxRecDepth 20000 in
theorem ggX1_microsecondHappens_X1_endNodesCutNow : GoodIn wsX1_microsecondHappens wsX1_endNodesCutNow := goodIn_r _ [6, 7, 8, 1, 9, 10, 11, 5, 12, 13, 14, 15, 87, 88, 89, 90, 91, 92, 93, 94, 95, 96, 97, 98, 99, 100, 101, 102, 103, 104, 105, 106, 107] (by decide +kernel) (by decide +kernel)
set_option maxRecDepth 20000 in
theorem gX1_microsecondHappens_X1_endNodesCutNow : GoodIn wsX1_microsecondHappens (wsV RX1 87 RX1 yX1_endNodesCutNow wsX1_endNodesCutNow) := goodIn_app (goodIn_of _ (by decide +kernel)) ggX1_microsecondHappens_X1_endNodesCutNow
set_option maxRecDepth 20000 in
theorem ggX1_microsecondHappens_X1_findReady : GoodIn wsX1_microsecondHappens wsX1_findReady := goodIn_r _ [19, 7, 13, 20, 21, 22, 23, 5, 24, 25, 26, 27, 28, 29, 30, 31, 32, 33, 34, 35, 36, 37, 38, 39, 40, 41, 42, 43, 44, 45, 46, 47, 87, 88, 89, 90, 91, 92, 93, 94, 95, 96, 97, 98, 99, 100, 101, 102, 103, 104, 105, 106, 107] (by decide +kernel) (by decide +kernel)
set_option maxRecDepth 20000 in
theorem gX1_microsecondHappens_X1_findReady : GoodIn wsX1_microsecondHappens (wsV RX1 90 RX1 yX1_findReady wsX1_findReady) := goodIn_app (goodIn_of _ (by decide +kernel)) ggX1_microsecondHappens_X1_findReady
set_option maxRecDepth 20000 in
theorem ggX1_microsecondHappens_X1_stepInTurns : GoodIn wsX1_microsecondHappens wsX1_stepInTurns := goodIn_r _ [51, 52, 53, 20, 54, 55, 56, 5, 57, 7, 58, 59, 60, 61, 62, 63, 64, 65, 66, 25, 67, 68, 69, 70, 71, 9, 10, 11, 12, 13, 14, 15, 87, 88, 89, 90, 91, 92, 93, 94, 95, 96, 97, 98, 99, 100, 101, 102, 103, 104, 105, 106, 107] (by decide +kernel) (by decide +kernel)
set_option maxRecDepth 20000 in
theorem gX1_microsecondHappens_X1_stepInTurns : GoodIn wsX1_microsecondHappens (wsV RX1 93 RX1 yX1_stepInTurns wsX1_stepInTurns) := goodIn_app (goodIn_of _ (by decide +kernel)) ggX1_microsecondHappens_X1_stepInTurns
set_option maxRecDepth 20000 in
theorem ggX1_microsecondHappens_X1_stepOthers : GoodIn wsX1_microsecondHappens wsX1_stepOthers := goodIn_r _ [75, 7, 20, 63, 64, 65, 5, 66, 25, 67, 68, 69, 70, 71, 9, 10, 11, 12, 13, 14, 15, 87, 88, 89, 90, 91, 92, 93, 94, 95, 96, 97, 98, 99, 100, 101, 102, 103, 104, 105, 106, 107] (by decide +kernel) (by decide +kernel)
set_option maxRecDepth 20000 in
theorem gX1_microsecondHappens_X1_stepOthers : GoodIn wsX1_microsecondHappens (wsV RX1 96 RX1 yX1_stepOthers wsX1_stepOthers) := goodIn_app (goodIn_of _ (by decide +kernel)) ggX1_microsecondHappens_X1_stepOthers
set_option maxRecDepth 20000 in
theorem ggX1_microsecondHappens_X1_noteSteps : GoodIn wsX1_microsecondHappens wsX1_noteSteps := goodIn_r _ [79, 7, 69, 80, 25, 81, 82, 83, 5, 84, 85, 86, 87, 88, 89, 90, 91, 92, 93, 94, 95, 96, 97, 98, 99, 100, 101, 102, 103, 104, 105, 106, 107] (by decide +kernel) (by decide +kernel)
set_option maxRecDepth 20000 in
theorem gX1_microsecondHappens_X1_noteSteps : GoodIn wsX1_microsecondHappens (wsV RX1 99 RX1 yX1_noteSteps wsX1_noteSteps) := goodIn_app (goodIn_of _ (by decide +kernel)) ggX1_microsecondHappens_X1_noteSteps
theorem dX1_microsecondHappens_0 : decode cX1_microsecondHappens 0 = .ok (.aload_n 0, 1) := by decide +kernel
theorem dX1_microsecondHappens_1 : decode cX1_microsecondHappens 1 = .ok (.invokevirtual 87, 3) := by decide +kernel
theorem dX1_microsecondHappens_4 : decode cX1_microsecondHappens 4 = .ok (.aload_n 0, 1) := by decide +kernel
theorem dX1_microsecondHappens_5 : decode cX1_microsecondHappens 5 = .ok (.invokevirtual 90, 3) := by decide +kernel
theorem dX1_microsecondHappens_8 : decode cX1_microsecondHappens 8 = .ok (.ifCond .ne 5, 3) := by decide +kernel
theorem dX1_microsecondHappens_11 : decode cX1_microsecondHappens 11 = .ok (.iconst 0, 1) := by decide +kernel
theorem dX1_microsecondHappens_12 : decode cX1_microsecondHappens 12 = .ok (.ireturn, 1) := by decide +kernel
theorem dX1_microsecondHappens_13 : decode cX1_microsecondHappens 13 = .ok (.aload_n 0, 1) := by decide +kernel
theorem dX1_microsecondHappens_14 : decode cX1_microsecondHappens 14 = .ok (.invokevirtual 93, 3) := by decide +kernel
theorem dX1_microsecondHappens_17 : decode cX1_microsecondHappens 17 = .ok (.aload_n 0, 1) := by decide +kernel
theorem dX1_microsecondHappens_18 : decode cX1_microsecondHappens 18 = .ok (.invokevirtual 96, 3) := by decide +kernel
theorem dX1_microsecondHappens_21 : decode cX1_microsecondHappens 21 = .ok (.aload_n 0, 1) := by decide +kernel
theorem dX1_microsecondHappens_22 : decode cX1_microsecondHappens 22 = .ok (.invokevirtual 99, 3) := by decide +kernel
theorem dX1_microsecondHappens_25 : decode cX1_microsecondHappens 25 = .ok (.aload_n 0, 1) := by decide +kernel
theorem dX1_microsecondHappens_26 : decode cX1_microsecondHappens 26 = .ok (.dup, 1) := by decide +kernel
theorem dX1_microsecondHappens_27 : decode cX1_microsecondHappens 27 = .ok (.getfield 63, 3) := by decide +kernel
theorem dX1_microsecondHappens_30 : decode cX1_microsecondHappens 30 = .ok (.lconst 1, 1) := by decide +kernel
theorem dX1_microsecondHappens_31 : decode cX1_microsecondHappens 31 = .ok (.ladd, 1) := by decide +kernel
theorem dX1_microsecondHappens_32 : decode cX1_microsecondHappens 32 = .ok (.putfield 63, 3) := by decide +kernel
theorem dX1_microsecondHappens_35 : decode cX1_microsecondHappens 35 = .ok (.iconst 1, 1) := by decide +kernel
theorem dX1_microsecondHappens_36 : decode cX1_microsecondHappens 36 = .ok (.ireturn, 1) := by decide +kernel
set_option maxRecDepth 20000 in
theorem ggX1_endNodesCutNow_X1_endNode : GoodIn wsX1_endNodesCutNow wsX1_endNode := goodIn_r _ [8, 9, 10, 11, 21, 22, 23, 24, 25, 26, 27, 28, 29, 30, 31, 32, 12, 13, 14, 15, 16, 17, 18, 19, 20] (by decide +kernel) (by decide +kernel)
set_option maxRecDepth 20000 in
theorem gX1_endNodesCutNow_X1_endNode : GoodIn wsX1_endNodesCutNow (wsV RX1 83 RX1 yX1_endNode wsX1_endNode) := goodIn_app (goodIn_of _ (by decide +kernel)) ggX1_endNodesCutNow_X1_endNode
theorem dX1_endNodesCutNow_0 : decode cX1_endNodesCutNow 0 = .ok (.aload_n 0, 1) := by decide +kernel
theorem dX1_endNodesCutNow_1 : decode cX1_endNodesCutNow 1 = .ok (.getfield 11, 3) := by decide +kernel
theorem dX1_endNodesCutNow_4 : decode cX1_endNodesCutNow 4 = .ok (.astore_n 1, 1) := by decide +kernel
theorem dX1_endNodesCutNow_5 : decode cX1_endNodesCutNow 5 = .ok (.aload_n 1, 1) := by decide +kernel
theorem dX1_endNodesCutNow_6 : decode cX1_endNodesCutNow 6 = .ok (.arraylength, 1) := by decide +kernel
theorem dX1_endNodesCutNow_7 : decode cX1_endNodesCutNow 7 = .ok (.istore_n 2, 1) := by decide +kernel
theorem dX1_endNodesCutNow_8 : decode cX1_endNodesCutNow 8 = .ok (.iconst 0, 1) := by decide +kernel
theorem dX1_endNodesCutNow_9 : decode cX1_endNodesCutNow 9 = .ok (.istore_n 3, 1) := by decide +kernel
theorem dX1_endNodesCutNow_10 : decode cX1_endNodesCutNow 10 = .ok (.iload_n 3, 1) := by decide +kernel
theorem dX1_endNodesCutNow_11 : decode cX1_endNodesCutNow 11 = .ok (.iload_n 2, 1) := by decide +kernel
theorem dX1_endNodesCutNow_12 : decode cX1_endNodesCutNow 12 = .ok (.if_icmp .ge 38, 3) := by decide +kernel
theorem dX1_endNodesCutNow_15 : decode cX1_endNodesCutNow 15 = .ok (.aload_n 1, 1) := by decide +kernel
theorem dX1_endNodesCutNow_16 : decode cX1_endNodesCutNow 16 = .ok (.iload_n 3, 1) := by decide +kernel
theorem dX1_endNodesCutNow_17 : decode cX1_endNodesCutNow 17 = .ok (.aaload, 1) := by decide +kernel
theorem dX1_endNodesCutNow_18 : decode cX1_endNodesCutNow 18 = .ok (.astore 4, 2) := by decide +kernel
theorem dX1_endNodesCutNow_20 : decode cX1_endNodesCutNow 20 = .ok (.aload 4, 2) := by decide +kernel
theorem dX1_endNodesCutNow_22 : decode cX1_endNodesCutNow 22 = .ok (.ifnull 22, 3) := by decide +kernel
theorem dX1_endNodesCutNow_25 : decode cX1_endNodesCutNow 25 = .ok (.aload 4, 2) := by decide +kernel
theorem dX1_endNodesCutNow_27 : decode cX1_endNodesCutNow 27 = .ok (.getfield 67, 3) := by decide +kernel
theorem dX1_endNodesCutNow_30 : decode cX1_endNodesCutNow 30 = .ok (.aload_n 0, 1) := by decide +kernel
theorem dX1_endNodesCutNow_31 : decode cX1_endNodesCutNow 31 = .ok (.getfield 63, 3) := by decide +kernel
theorem dX1_endNodesCutNow_34 : decode cX1_endNodesCutNow 34 = .ok (.lcmp, 1) := by decide +kernel
theorem dX1_endNodesCutNow_35 : decode cX1_endNodesCutNow 35 = .ok (.ifCond .ne 9, 3) := by decide +kernel
theorem dX1_endNodesCutNow_38 : decode cX1_endNodesCutNow 38 = .ok (.aload_n 0, 1) := by decide +kernel
theorem dX1_endNodesCutNow_39 : decode cX1_endNodesCutNow 39 = .ok (.aload 4, 2) := by decide +kernel
theorem dX1_endNodesCutNow_41 : decode cX1_endNodesCutNow 41 = .ok (.invokevirtual 83, 3) := by decide +kernel
theorem dX1_endNodesCutNow_44 : decode cX1_endNodesCutNow 44 = .ok (.iinc 3 1, 3) := by decide +kernel
theorem dX1_endNodesCutNow_47 : decode cX1_endNodesCutNow 47 = .ok (.goto (-37), 3) := by decide +kernel
theorem dX1_endNodesCutNow_50 : decode cX1_endNodesCutNow 50 = .ok (.return_, 1) := by decide +kernel
set_option maxRecDepth 20000 in
theorem ggX1_findReady_X1_leastDoneByAlive : GoodIn wsX1_findReady wsX1_leastDoneByAlive := goodIn_r _ [8, 1, 2, 9, 10, 11, 12, 13, 32, 33, 34, 35, 36, 37, 38, 39, 40, 41, 42, 43, 44, 45, 46, 47, 48, 49, 50, 51, 52] (by decide +kernel) (by decide +kernel)
set_option maxRecDepth 20000 in
theorem gX1_findReady_X1_leastDoneByAlive : GoodIn wsX1_findReady (wsV RX1 102 RX1 yX1_leastDoneByAlive wsX1_leastDoneByAlive) := goodIn_app (goodIn_of _ (by decide +kernel)) ggX1_findReady_X1_leastDoneByAlive
set_option maxRecDepth 20000 in
theorem ggX1_findReady_X0_waitsForAnother : GoodIn wsX1_findReady wsX0_waitsForAnother := goodIn_r _ [18, 19, 20, 21, 22, 23, 24, 17, 25, 26, 41, 42, 43, 44, 45, 46, 47, 48, 49, 50, 51, 52] (by decide +kernel) (by decide +kernel)
set_option maxRecDepth 20000 in
theorem gX1_findReady_X0_waitsForAnother : GoodIn wsX1_findReady (wsV RX1 106 RX0 yX0_waitsForAnother wsX0_waitsForAnother) := goodIn_app (goodIn_of _ (by decide +kernel)) ggX1_findReady_X0_waitsForAnother
set_option maxRecDepth 20000 in
theorem ggX1_findReady_X1_waitsAtBarrier : GoodIn wsX1_findReady wsX1_waitsAtBarrier := goodIn_r _ [30, 31, 9, 32, 33, 34, 35, 36, 37, 38, 39, 40, 41, 42, 43, 44, 45, 46, 47, 48, 49, 50, 51, 52] (by decide +kernel) (by decide +kernel)
set_option maxRecDepth 20000 in
theorem gX1_findReady_X1_waitsAtBarrier : GoodIn wsX1_findReady (wsV RX1 109 RX1 yX1_waitsAtBarrier wsX1_waitsAtBarrier) := goodIn_app (goodIn_of _ (by decide +kernel)) ggX1_findReady_X1_waitsAtBarrier
theorem dX1_findReady_0 : decode cX1_findReady 0 = .ok (.aload_n 0, 1) := by decide +kernel
theorem dX1_findReady_1 : decode cX1_findReady 1 = .ok (.invokevirtual 102, 3) := by decide +kernel
theorem dX1_findReady_4 : decode cX1_findReady 4 = .ok (.istore_n 1, 1) := by decide +kernel
theorem dX1_findReady_5 : decode cX1_findReady 5 = .ok (.iconst 0, 1) := by decide +kernel
theorem dX1_findReady_6 : decode cX1_findReady 6 = .ok (.istore_n 2, 1) := by decide +kernel
theorem dX1_findReady_7 : decode cX1_findReady 7 = .ok (.aload_n 0, 1) := by decide +kernel
theorem dX1_findReady_8 : decode cX1_findReady 8 = .ok (.getfield 11, 3) := by decide +kernel
theorem dX1_findReady_11 : decode cX1_findReady 11 = .ok (.astore_n 3, 1) := by decide +kernel
theorem dX1_findReady_12 : decode cX1_findReady 12 = .ok (.aload_n 3, 1) := by decide +kernel
theorem dX1_findReady_13 : decode cX1_findReady 13 = .ok (.arraylength, 1) := by decide +kernel
theorem dX1_findReady_14 : decode cX1_findReady 14 = .ok (.istore 4, 2) := by decide +kernel
theorem dX1_findReady_16 : decode cX1_findReady 16 = .ok (.iconst 0, 1) := by decide +kernel
theorem dX1_findReady_17 : decode cX1_findReady 17 = .ok (.istore 5, 2) := by decide +kernel
theorem dX1_findReady_19 : decode cX1_findReady 19 = .ok (.iload 5, 2) := by decide +kernel
theorem dX1_findReady_21 : decode cX1_findReady 21 = .ok (.iload 4, 2) := by decide +kernel
theorem dX1_findReady_23 : decode cX1_findReady 23 = .ok (.if_icmp .ge 74, 3) := by decide +kernel
theorem dX1_findReady_26 : decode cX1_findReady 26 = .ok (.aload_n 3, 1) := by decide +kernel
theorem dX1_findReady_27 : decode cX1_findReady 27 = .ok (.iload 5, 2) := by decide +kernel
theorem dX1_findReady_29 : decode cX1_findReady 29 = .ok (.aaload, 1) := by decide +kernel
theorem dX1_findReady_30 : decode cX1_findReady 30 = .ok (.astore 6, 2) := by decide +kernel
theorem dX1_findReady_32 : decode cX1_findReady 32 = .ok (.aload 6, 2) := by decide +kernel
theorem dX1_findReady_34 : decode cX1_findReady 34 = .ok (.ifnull 57, 3) := by decide +kernel
theorem dX1_findReady_37 : decode cX1_findReady 37 = .ok (.aload 6, 2) := by decide +kernel
theorem dX1_findReady_39 : decode cX1_findReady 39 = .ok (.aload 6, 2) := by decide +kernel
theorem dX1_findReady_41 : decode cX1_findReady 41 = .ok (.getfield 36, 3) := by decide +kernel
theorem dX1_findReady_44 : decode cX1_findReady 44 = .ok (.ifCond .eq 25, 3) := by decide +kernel
theorem dX1_findReady_47 : decode cX1_findReady 47 = .ok (.aload 6, 2) := by decide +kernel
theorem dX1_findReady_49 : decode cX1_findReady 49 = .ok (.invokevirtual 106, 3) := by decide +kernel
theorem dX1_findReady_52 : decode cX1_findReady 52 = .ok (.ifCond .ne 17, 3) := by decide +kernel
theorem dX1_findReady_55 : decode cX1_findReady 55 = .ok (.aload_n 0, 1) := by decide +kernel
theorem dX1_findReady_56 : decode cX1_findReady 56 = .ok (.aload 6, 2) := by decide +kernel
theorem dX1_findReady_58 : decode cX1_findReady 58 = .ok (.iload_n 1, 1) := by decide +kernel
theorem dX1_findReady_59 : decode cX1_findReady 59 = .ok (.invokevirtual 109, 3) := by decide +kernel
theorem dX1_findReady_62 : decode cX1_findReady 62 = .ok (.ifCond .ne 7, 3) := by decide +kernel
theorem dX1_findReady_65 : decode cX1_findReady 65 = .ok (.iconst 1, 1) := by decide +kernel
theorem dX1_findReady_66 : decode cX1_findReady 66 = .ok (.goto 4, 3) := by decide +kernel
theorem dX1_findReady_69 : decode cX1_findReady 69 = .ok (.iconst 0, 1) := by decide +kernel
theorem dX1_findReady_70 : decode cX1_findReady 70 = .ok (.putfield 113, 3) := by decide +kernel
theorem dX1_findReady_73 : decode cX1_findReady 73 = .ok (.iload_n 2, 1) := by decide +kernel
theorem dX1_findReady_74 : decode cX1_findReady 74 = .ok (.ifCond .ne 11, 3) := by decide +kernel
theorem dX1_findReady_77 : decode cX1_findReady 77 = .ok (.aload 6, 2) := by decide +kernel
theorem dX1_findReady_79 : decode cX1_findReady 79 = .ok (.getfield 113, 3) := by decide +kernel
theorem dX1_findReady_82 : decode cX1_findReady 82 = .ok (.ifCond .eq 7, 3) := by decide +kernel
theorem dX1_findReady_85 : decode cX1_findReady 85 = .ok (.iconst 1, 1) := by decide +kernel
theorem dX1_findReady_86 : decode cX1_findReady 86 = .ok (.goto 4, 3) := by decide +kernel
theorem dX1_findReady_89 : decode cX1_findReady 89 = .ok (.iconst 0, 1) := by decide +kernel
theorem dX1_findReady_90 : decode cX1_findReady 90 = .ok (.istore_n 2, 1) := by decide +kernel
theorem dX1_findReady_91 : decode cX1_findReady 91 = .ok (.iinc 5 1, 3) := by decide +kernel
theorem dX1_findReady_94 : decode cX1_findReady 94 = .ok (.goto (-75), 3) := by decide +kernel
theorem dX1_findReady_97 : decode cX1_findReady 97 = .ok (.iload_n 2, 1) := by decide +kernel
theorem dX1_findReady_98 : decode cX1_findReady 98 = .ok (.ireturn, 1) := by decide +kernel
theorem dX1_leastDoneByAlive_0 : decode cX1_leastDoneByAlive 0 = .ok (.sipush 200, 3) := by decide +kernel
theorem dX1_leastDoneByAlive_3 : decode cX1_leastDoneByAlive 3 = .ok (.istore_n 1, 1) := by decide +kernel
theorem dX1_leastDoneByAlive_4 : decode cX1_leastDoneByAlive 4 = .ok (.aload_n 0, 1) := by decide +kernel
theorem dX1_leastDoneByAlive_5 : decode cX1_leastDoneByAlive 5 = .ok (.getfield 11, 3) := by decide +kernel
theorem dX1_leastDoneByAlive_8 : decode cX1_leastDoneByAlive 8 = .ok (.astore_n 2, 1) := by decide +kernel
theorem dX1_leastDoneByAlive_9 : decode cX1_leastDoneByAlive 9 = .ok (.aload_n 2, 1) := by decide +kernel
theorem dX1_leastDoneByAlive_10 : decode cX1_leastDoneByAlive 10 = .ok (.arraylength, 1) := by decide +kernel
theorem dX1_leastDoneByAlive_11 : decode cX1_leastDoneByAlive 11 = .ok (.istore_n 3, 1) := by decide +kernel
theorem dX1_leastDoneByAlive_12 : decode cX1_leastDoneByAlive 12 = .ok (.iconst 0, 1) := by decide +kernel
theorem dX1_leastDoneByAlive_13 : decode cX1_leastDoneByAlive 13 = .ok (.istore 4, 2) := by decide +kernel
theorem dX1_leastDoneByAlive_15 : decode cX1_leastDoneByAlive 15 = .ok (.iload 4, 2) := by decide +kernel
theorem dX1_leastDoneByAlive_17 : decode cX1_leastDoneByAlive 17 = .ok (.iload_n 3, 1) := by decide +kernel
theorem dX1_leastDoneByAlive_18 : decode cX1_leastDoneByAlive 18 = .ok (.if_icmp .ge 38, 3) := by decide +kernel
theorem dX1_leastDoneByAlive_21 : decode cX1_leastDoneByAlive 21 = .ok (.aload_n 2, 1) := by decide +kernel
theorem dX1_leastDoneByAlive_22 : decode cX1_leastDoneByAlive 22 = .ok (.iload 4, 2) := by decide +kernel
theorem dX1_leastDoneByAlive_24 : decode cX1_leastDoneByAlive 24 = .ok (.aaload, 1) := by decide +kernel
theorem dX1_leastDoneByAlive_25 : decode cX1_leastDoneByAlive 25 = .ok (.astore 5, 2) := by decide +kernel
theorem dX1_leastDoneByAlive_27 : decode cX1_leastDoneByAlive 27 = .ok (.aload 5, 2) := by decide +kernel
theorem dX1_leastDoneByAlive_29 : decode cX1_leastDoneByAlive 29 = .ok (.ifnull 21, 3) := by decide +kernel
theorem dX1_leastDoneByAlive_32 : decode cX1_leastDoneByAlive 32 = .ok (.aload 5, 2) := by decide +kernel
theorem dX1_leastDoneByAlive_34 : decode cX1_leastDoneByAlive 34 = .ok (.getfield 36, 3) := by decide +kernel
theorem dX1_leastDoneByAlive_37 : decode cX1_leastDoneByAlive 37 = .ok (.ifCond .eq 13, 3) := by decide +kernel
theorem dX1_leastDoneByAlive_40 : decode cX1_leastDoneByAlive 40 = .ok (.iload_n 1, 1) := by decide +kernel
theorem dX1_leastDoneByAlive_41 : decode cX1_leastDoneByAlive 41 = .ok (.aload 5, 2) := by decide +kernel
theorem dX1_leastDoneByAlive_43 : decode cX1_leastDoneByAlive 43 = .ok (.getfield 116, 3) := by decide +kernel
theorem dX1_leastDoneByAlive_46 : decode cX1_leastDoneByAlive 46 = .ok (.invokestatic 119, 3) := by decide +kernel
theorem dX1_leastDoneByAlive_49 : decode cX1_leastDoneByAlive 49 = .ok (.istore_n 1, 1) := by decide +kernel
theorem dX1_leastDoneByAlive_50 : decode cX1_leastDoneByAlive 50 = .ok (.iinc 4 1, 3) := by decide +kernel
theorem dX1_leastDoneByAlive_53 : decode cX1_leastDoneByAlive 53 = .ok (.goto (-38), 3) := by decide +kernel
theorem dX1_leastDoneByAlive_56 : decode cX1_leastDoneByAlive 56 = .ok (.iload_n 1, 1) := by decide +kernel
theorem dX1_leastDoneByAlive_57 : decode cX1_leastDoneByAlive 57 = .ok (.ireturn, 1) := by decide +kernel
theorem dX1_waitsAtBarrier_0 : decode cX1_waitsAtBarrier 0 = .ok (.aload_n 0, 1) := by decide +kernel
theorem dX1_waitsAtBarrier_1 : decode cX1_waitsAtBarrier 1 = .ok (.getfield 77, 3) := by decide +kernel
theorem dX1_waitsAtBarrier_4 : decode cX1_waitsAtBarrier 4 = .ok (.ifCond .le 27, 3) := by decide +kernel
theorem dX1_waitsAtBarrier_7 : decode cX1_waitsAtBarrier 7 = .ok (.aload_n 1, 1) := by decide +kernel
theorem dX1_waitsAtBarrier_8 : decode cX1_waitsAtBarrier 8 = .ok (.getfield 116, 3) := by decide +kernel
theorem dX1_waitsAtBarrier_11 : decode cX1_waitsAtBarrier 11 = .ok (.aload_n 0, 1) := by decide +kernel
theorem dX1_waitsAtBarrier_12 : decode cX1_waitsAtBarrier 12 = .ok (.getfield 77, 3) := by decide +kernel
theorem dX1_waitsAtBarrier_15 : decode cX1_waitsAtBarrier 15 = .ok (.irem, 1) := by decide +kernel
theorem dX1_waitsAtBarrier_16 : decode cX1_waitsAtBarrier 16 = .ok (.ifCond .ne 15, 3) := by decide +kernel
theorem dX1_waitsAtBarrier_19 : decode cX1_waitsAtBarrier 19 = .ok (.iload_n 2, 1) := by decide +kernel
theorem dX1_waitsAtBarrier_20 : decode cX1_waitsAtBarrier 20 = .ok (.aload_n 1, 1) := by decide +kernel
theorem dX1_waitsAtBarrier_21 : decode cX1_waitsAtBarrier 21 = .ok (.getfield 116, 3) := by decide +kernel
theorem dX1_waitsAtBarrier_24 : decode cX1_waitsAtBarrier 24 = .ok (.if_icmp .ge 7, 3) := by decide +kernel
theorem dX1_waitsAtBarrier_27 : decode cX1_waitsAtBarrier 27 = .ok (.iconst 1, 1) := by decide +kernel
theorem dX1_waitsAtBarrier_28 : decode cX1_waitsAtBarrier 28 = .ok (.goto 4, 3) := by decide +kernel
theorem dX1_waitsAtBarrier_31 : decode cX1_waitsAtBarrier 31 = .ok (.iconst 0, 1) := by decide +kernel
theorem dX1_waitsAtBarrier_32 : decode cX1_waitsAtBarrier 32 = .ok (.ireturn, 1) := by decide +kernel
set_option maxRecDepth 20000 in
theorem ggX1_stepInTurns_X1_nodeOrNull : GoodIn wsX1_stepInTurns wsX1_nodeOrNull := goodIn_r _ [8, 9, 10, 11, 12, 7, 13, 14, 32, 33, 34, 35, 36, 37, 38, 39, 40] (by decide +kernel) (by decide +kernel)
set_option maxRecDepth 20000 in
theorem gX1_stepInTurns_X1_nodeOrNull : GoodIn wsX1_stepInTurns (wsV RX1 32 RX1 yX1_nodeOrNull wsX1_nodeOrNull) := goodIn_app (goodIn_of _ (by decide +kernel)) ggX1_stepInTurns_X1_nodeOrNull
set_option maxRecDepth 20000 in
theorem ggX1_stepInTurns_X1_stepOnce : GoodIn wsX1_stepInTurns wsX1_stepOnce := goodIn_r _ [18, 3, 19, 20, 21, 22, 23, 24, 25, 26, 27, 7, 28, 29, 30, 31, 41, 42, 43, 44, 45, 46, 47, 48, 49, 50, 51, 52, 32, 33, 34, 35, 36, 37, 38, 39, 40] (by decide +kernel) (by decide +kernel)
set_option maxRecDepth 20000 in
theorem gX1_stepInTurns_X1_stepOnce : GoodIn wsX1_stepInTurns (wsV RX1 125 RX1 yX1_stepOnce wsX1_stepOnce) := goodIn_app (goodIn_of _ (by decide +kernel)) ggX1_stepInTurns_X1_stepOnce
theorem dX1_stepInTurns_0 : decode cX1_stepInTurns 0 = .ok (.iconst 0, 1) := by decide +kernel
theorem dX1_stepInTurns_1 : decode cX1_stepInTurns 1 = .ok (.istore_n 1, 1) := by decide +kernel
theorem dX1_stepInTurns_2 : decode cX1_stepInTurns 2 = .ok (.iload_n 1, 1) := by decide +kernel
theorem dX1_stepInTurns_3 : decode cX1_stepInTurns 3 = .ok (.aload_n 0, 1) := by decide +kernel
theorem dX1_stepInTurns_4 : decode cX1_stepInTurns 4 = .ok (.getfield 50, 3) := by decide +kernel
theorem dX1_stepInTurns_7 : decode cX1_stepInTurns 7 = .ok (.if_icmp .ge 36, 3) := by decide +kernel
theorem dX1_stepInTurns_10 : decode cX1_stepInTurns 10 = .ok (.aload_n 0, 1) := by decide +kernel
theorem dX1_stepInTurns_11 : decode cX1_stepInTurns 11 = .ok (.aload_n 0, 1) := by decide +kernel
theorem dX1_stepInTurns_12 : decode cX1_stepInTurns 12 = .ok (.getfield 18, 3) := by decide +kernel
theorem dX1_stepInTurns_15 : decode cX1_stepInTurns 15 = .ok (.iload_n 1, 1) := by decide +kernel
theorem dX1_stepInTurns_16 : decode cX1_stepInTurns 16 = .ok (.iaload, 1) := by decide +kernel
theorem dX1_stepInTurns_17 : decode cX1_stepInTurns 17 = .ok (.invokevirtual 32, 3) := by decide +kernel
theorem dX1_stepInTurns_20 : decode cX1_stepInTurns 20 = .ok (.astore_n 2, 1) := by decide +kernel
theorem dX1_stepInTurns_21 : decode cX1_stepInTurns 21 = .ok (.aload_n 2, 1) := by decide +kernel
theorem dX1_stepInTurns_22 : decode cX1_stepInTurns 22 = .ok (.ifnull 15, 3) := by decide +kernel
theorem dX1_stepInTurns_25 : decode cX1_stepInTurns 25 = .ok (.aload_n 2, 1) := by decide +kernel
theorem dX1_stepInTurns_26 : decode cX1_stepInTurns 26 = .ok (.getfield 113, 3) := by decide +kernel
theorem dX1_stepInTurns_29 : decode cX1_stepInTurns 29 = .ok (.ifCond .eq 8, 3) := by decide +kernel
theorem dX1_stepInTurns_32 : decode cX1_stepInTurns 32 = .ok (.aload_n 0, 1) := by decide +kernel
theorem dX1_stepInTurns_33 : decode cX1_stepInTurns 33 = .ok (.aload_n 2, 1) := by decide +kernel
theorem dX1_stepInTurns_34 : decode cX1_stepInTurns 34 = .ok (.invokevirtual 125, 3) := by decide +kernel
theorem dX1_stepInTurns_37 : decode cX1_stepInTurns 37 = .ok (.iinc 1 1, 3) := by decide +kernel
theorem dX1_stepInTurns_40 : decode cX1_stepInTurns 40 = .ok (.goto (-38), 3) := by decide +kernel
theorem dX1_stepInTurns_43 : decode cX1_stepInTurns 43 = .ok (.aload_n 0, 1) := by decide +kernel
theorem dX1_stepInTurns_44 : decode cX1_stepInTurns 44 = .ok (.iconst 0, 1) := by decide +kernel
theorem dX1_stepInTurns_45 : decode cX1_stepInTurns 45 = .ok (.putfield 50, 3) := by decide +kernel
theorem dX1_stepInTurns_48 : decode cX1_stepInTurns 48 = .ok (.return_, 1) := by decide +kernel
set_option maxRecDepth 20000 in
theorem ggX1_stepOthers_X1_stepOnce : GoodIn wsX1_stepOthers wsX1_stepOnce := goodIn_r _ [7, 2, 8, 9, 10, 11, 12, 13, 14, 15, 16, 6, 17, 18, 19, 20, 30, 31, 32, 33, 34, 35, 36, 37, 38, 39, 40, 41, 21, 22, 23, 24, 25, 26, 27, 28, 29] (by decide +kernel) (by decide +kernel)
set_option maxRecDepth 20000 in
theorem gX1_stepOthers_X1_stepOnce : GoodIn wsX1_stepOthers (wsV RX1 125 RX1 yX1_stepOnce wsX1_stepOnce) := goodIn_app (goodIn_of _ (by decide +kernel)) ggX1_stepOthers_X1_stepOnce
theorem dX1_stepOthers_0 : decode cX1_stepOthers 0 = .ok (.aload_n 0, 1) := by decide +kernel
theorem dX1_stepOthers_1 : decode cX1_stepOthers 1 = .ok (.getfield 11, 3) := by decide +kernel
theorem dX1_stepOthers_4 : decode cX1_stepOthers 4 = .ok (.astore_n 1, 1) := by decide +kernel
theorem dX1_stepOthers_5 : decode cX1_stepOthers 5 = .ok (.aload_n 1, 1) := by decide +kernel
theorem dX1_stepOthers_6 : decode cX1_stepOthers 6 = .ok (.arraylength, 1) := by decide +kernel
theorem dX1_stepOthers_7 : decode cX1_stepOthers 7 = .ok (.istore_n 2, 1) := by decide +kernel
theorem dX1_stepOthers_8 : decode cX1_stepOthers 8 = .ok (.iconst 0, 1) := by decide +kernel
theorem dX1_stepOthers_9 : decode cX1_stepOthers 9 = .ok (.istore_n 3, 1) := by decide +kernel
theorem dX1_stepOthers_10 : decode cX1_stepOthers 10 = .ok (.iload_n 3, 1) := by decide +kernel
theorem dX1_stepOthers_11 : decode cX1_stepOthers 11 = .ok (.iload_n 2, 1) := by decide +kernel
theorem dX1_stepOthers_12 : decode cX1_stepOthers 12 = .ok (.if_icmp .ge 33, 3) := by decide +kernel
theorem dX1_stepOthers_15 : decode cX1_stepOthers 15 = .ok (.aload_n 1, 1) := by decide +kernel
theorem dX1_stepOthers_16 : decode cX1_stepOthers 16 = .ok (.iload_n 3, 1) := by decide +kernel
theorem dX1_stepOthers_17 : decode cX1_stepOthers 17 = .ok (.aaload, 1) := by decide +kernel
theorem dX1_stepOthers_18 : decode cX1_stepOthers 18 = .ok (.astore 4, 2) := by decide +kernel
theorem dX1_stepOthers_20 : decode cX1_stepOthers 20 = .ok (.aload 4, 2) := by decide +kernel
theorem dX1_stepOthers_22 : decode cX1_stepOthers 22 = .ok (.ifnull 17, 3) := by decide +kernel
theorem dX1_stepOthers_25 : decode cX1_stepOthers 25 = .ok (.aload 4, 2) := by decide +kernel
theorem dX1_stepOthers_27 : decode cX1_stepOthers 27 = .ok (.getfield 113, 3) := by decide +kernel
theorem dX1_stepOthers_30 : decode cX1_stepOthers 30 = .ok (.ifCond .eq 9, 3) := by decide +kernel
theorem dX1_stepOthers_33 : decode cX1_stepOthers 33 = .ok (.aload_n 0, 1) := by decide +kernel
theorem dX1_stepOthers_34 : decode cX1_stepOthers 34 = .ok (.aload 4, 2) := by decide +kernel
theorem dX1_stepOthers_36 : decode cX1_stepOthers 36 = .ok (.invokevirtual 125, 3) := by decide +kernel
theorem dX1_stepOthers_39 : decode cX1_stepOthers 39 = .ok (.iinc 3 1, 3) := by decide +kernel
theorem dX1_stepOthers_42 : decode cX1_stepOthers 42 = .ok (.goto (-32), 3) := by decide +kernel
theorem dX1_stepOthers_45 : decode cX1_stepOthers 45 = .ok (.return_, 1) := by decide +kernel
set_option maxRecDepth 20000 in
theorem ggX1_stepOnce_X1_endNode : GoodIn wsX1_stepOnce wsX1_endNode := goodIn_r _ [12, 13, 14, 15, 16, 17, 18, 19, 20, 21, 22, 23, 24, 25, 26, 27, 28, 29, 30, 31, 32, 33, 34, 35, 36] (by decide +kernel) (by decide +kernel)
set_option maxRecDepth 20000 in
theorem gX1_stepOnce_X1_endNode : GoodIn wsX1_stepOnce (wsV RX1 83 RX1 yX1_endNode wsX1_endNode) := goodIn_app (goodIn_of _ (by decide +kernel)) ggX1_stepOnce_X1_endNode
theorem dX1_stepOnce_0 : decode cX1_stepOnce 0 = .ok (.aload_n 1, 1) := by decide +kernel
theorem dX1_stepOnce_1 : decode cX1_stepOnce 1 = .ok (.iconst 0, 1) := by decide +kernel
theorem dX1_stepOnce_2 : decode cX1_stepOnce 2 = .ok (.putfield 113, 3) := by decide +kernel
theorem dX1_stepOnce_5 : decode cX1_stepOnce 5 = .ok (.aload_n 1, 1) := by decide +kernel
theorem dX1_stepOnce_6 : decode cX1_stepOnce 6 = .ok (.getfield 116, 3) := by decide +kernel
theorem dX1_stepOnce_9 : decode cX1_stepOnce 9 = .ok (.iconst 1, 1) := by decide +kernel
theorem dX1_stepOnce_10 : decode cX1_stepOnce 10 = .ok (.iadd, 1) := by decide +kernel
theorem dX1_stepOnce_11 : decode cX1_stepOnce 11 = .ok (.istore_n 2, 1) := by decide +kernel
theorem dX1_stepOnce_12 : decode cX1_stepOnce 12 = .ok (.iload_n 2, 1) := by decide +kernel
theorem dX1_stepOnce_13 : decode cX1_stepOnce 13 = .ok (.aload_n 1, 1) := by decide +kernel
theorem dX1_stepOnce_14 : decode cX1_stepOnce 14 = .ok (.getfield 128, 3) := by decide +kernel
theorem dX1_stepOnce_17 : decode cX1_stepOnce 17 = .ok (.if_icmp .ne 14, 3) := by decide +kernel
theorem dX1_stepOnce_20 : decode cX1_stepOnce 20 = .ok (.aload_n 1, 1) := by decide +kernel
theorem dX1_stepOnce_21 : decode cX1_stepOnce 21 = .ok (.iconst 1, 1) := by decide +kernel
theorem dX1_stepOnce_22 : decode cX1_stepOnce 22 = .ok (.putfield 60, 3) := by decide +kernel
theorem dX1_stepOnce_25 : decode cX1_stepOnce 25 = .ok (.aload_n 0, 1) := by decide +kernel
theorem dX1_stepOnce_26 : decode cX1_stepOnce 26 = .ok (.aload_n 1, 1) := by decide +kernel
theorem dX1_stepOnce_27 : decode cX1_stepOnce 27 = .ok (.invokevirtual 83, 3) := by decide +kernel
theorem dX1_stepOnce_30 : decode cX1_stepOnce 30 = .ok (.return_, 1) := by decide +kernel
theorem dX1_stepOnce_31 : decode cX1_stepOnce 31 = .ok (.aload_n 1, 1) := by decide +kernel
theorem dX1_stepOnce_32 : decode cX1_stepOnce 32 = .ok (.iload_n 2, 1) := by decide +kernel
theorem dX1_stepOnce_33 : decode cX1_stepOnce 33 = .ok (.putfield 116, 3) := by decide +kernel
theorem dX1_stepOnce_36 : decode cX1_stepOnce 36 = .ok (.aload_n 1, 1) := by decide +kernel
theorem dX1_stepOnce_37 : decode cX1_stepOnce 37 = .ok (.iconst 1, 1) := by decide +kernel
theorem dX1_stepOnce_38 : decode cX1_stepOnce 38 = .ok (.putfield 131, 3) := by decide +kernel
theorem dX1_stepOnce_41 : decode cX1_stepOnce 41 = .ok (.aload_n 1, 1) := by decide +kernel
theorem dX1_stepOnce_42 : decode cX1_stepOnce 42 = .ok (.getfield 70, 3) := by decide +kernel
theorem dX1_stepOnce_45 : decode cX1_stepOnce 45 = .ok (.ifCond .ne 14, 3) := by decide +kernel
theorem dX1_stepOnce_48 : decode cX1_stepOnce 48 = .ok (.aload_n 1, 1) := by decide +kernel
theorem dX1_stepOnce_49 : decode cX1_stepOnce 49 = .ok (.getfield 116, 3) := by decide +kernel
theorem dX1_stepOnce_52 : decode cX1_stepOnce 52 = .ok (.aload_n 1, 1) := by decide +kernel
theorem dX1_stepOnce_53 : decode cX1_stepOnce 53 = .ok (.getfield 134, 3) := by decide +kernel
theorem dX1_stepOnce_56 : decode cX1_stepOnce 56 = .ok (.if_icmp .ne 8, 3) := by decide +kernel
theorem dX1_stepOnce_59 : decode cX1_stepOnce 59 = .ok (.aload_n 0, 1) := by decide +kernel
theorem dX1_stepOnce_60 : decode cX1_stepOnce 60 = .ok (.aload_n 1, 1) := by decide +kernel
theorem dX1_stepOnce_61 : decode cX1_stepOnce 61 = .ok (.invokevirtual 83, 3) := by decide +kernel
theorem dX1_stepOnce_64 : decode cX1_stepOnce 64 = .ok (.return_, 1) := by decide +kernel
set_option maxRecDepth 20000 in
theorem ggX1_noteSteps_X1_note : GoodIn wsX1_noteSteps wsX1_note := goodIn_r _ [9, 10, 11, 12, 13, 14, 15, 16, 17, 18, 19, 20] (by decide +kernel) (by decide +kernel)
set_option maxRecDepth 20000 in
theorem gX1_noteSteps_X1_note : GoodIn wsX1_noteSteps (wsV RX1 140 RX1 yX1_note wsX1_note) := goodIn_app (goodIn_of _ (by decide +kernel)) ggX1_noteSteps_X1_note
theorem dX1_noteSteps_0 : decode cX1_noteSteps 0 = .ok (.aload_n 0, 1) := by decide +kernel
theorem dX1_noteSteps_1 : decode cX1_noteSteps 1 = .ok (.getfield 11, 3) := by decide +kernel
theorem dX1_noteSteps_4 : decode cX1_noteSteps 4 = .ok (.astore_n 1, 1) := by decide +kernel
theorem dX1_noteSteps_5 : decode cX1_noteSteps 5 = .ok (.aload_n 1, 1) := by decide +kernel
theorem dX1_noteSteps_6 : decode cX1_noteSteps 6 = .ok (.arraylength, 1) := by decide +kernel
theorem dX1_noteSteps_7 : decode cX1_noteSteps 7 = .ok (.istore_n 2, 1) := by decide +kernel
theorem dX1_noteSteps_8 : decode cX1_noteSteps 8 = .ok (.iconst 0, 1) := by decide +kernel
theorem dX1_noteSteps_9 : decode cX1_noteSteps 9 = .ok (.istore_n 3, 1) := by decide +kernel
theorem dX1_noteSteps_10 : decode cX1_noteSteps 10 = .ok (.iload_n 3, 1) := by decide +kernel
theorem dX1_noteSteps_11 : decode cX1_noteSteps 11 = .ok (.iload_n 2, 1) := by decide +kernel
theorem dX1_noteSteps_12 : decode cX1_noteSteps 12 = .ok (.if_icmp .ge 52, 3) := by decide +kernel
theorem dX1_noteSteps_15 : decode cX1_noteSteps 15 = .ok (.aload_n 1, 1) := by decide +kernel
theorem dX1_noteSteps_16 : decode cX1_noteSteps 16 = .ok (.iload_n 3, 1) := by decide +kernel
theorem dX1_noteSteps_17 : decode cX1_noteSteps 17 = .ok (.aaload, 1) := by decide +kernel
theorem dX1_noteSteps_18 : decode cX1_noteSteps 18 = .ok (.astore 4, 2) := by decide +kernel
theorem dX1_noteSteps_20 : decode cX1_noteSteps 20 = .ok (.aload 4, 2) := by decide +kernel
theorem dX1_noteSteps_22 : decode cX1_noteSteps 22 = .ok (.ifnull 36, 3) := by decide +kernel
theorem dX1_noteSteps_25 : decode cX1_noteSteps 25 = .ok (.aload 4, 2) := by decide +kernel
theorem dX1_noteSteps_27 : decode cX1_noteSteps 27 = .ok (.getfield 131, 3) := by decide +kernel
theorem dX1_noteSteps_30 : decode cX1_noteSteps 30 = .ok (.ifCond .eq 28, 3) := by decide +kernel
theorem dX1_noteSteps_33 : decode cX1_noteSteps 33 = .ok (.aload 4, 2) := by decide +kernel
theorem dX1_noteSteps_35 : decode cX1_noteSteps 35 = .ok (.iconst 0, 1) := by decide +kernel
theorem dX1_noteSteps_36 : decode cX1_noteSteps 36 = .ok (.putfield 131, 3) := by decide +kernel
theorem dX1_noteSteps_39 : decode cX1_noteSteps 39 = .ok (.aload_n 0, 1) := by decide +kernel
theorem dX1_noteSteps_40 : decode cX1_noteSteps 40 = .ok (.aload 4, 2) := by decide +kernel
theorem dX1_noteSteps_42 : decode cX1_noteSteps 42 = .ok (.getfield 137, 3) := by decide +kernel
theorem dX1_noteSteps_45 : decode cX1_noteSteps 45 = .ok (.sipush 1000, 3) := by decide +kernel
theorem dX1_noteSteps_48 : decode cX1_noteSteps 48 = .ok (.imul, 1) := by decide +kernel
theorem dX1_noteSteps_49 : decode cX1_noteSteps 49 = .ok (.aload 4, 2) := by decide +kernel
theorem dX1_noteSteps_51 : decode cX1_noteSteps 51 = .ok (.getfield 116, 3) := by decide +kernel
theorem dX1_noteSteps_54 : decode cX1_noteSteps 54 = .ok (.iadd, 1) := by decide +kernel
theorem dX1_noteSteps_55 : decode cX1_noteSteps 55 = .ok (.invokevirtual 140, 3) := by decide +kernel
theorem dX1_noteSteps_58 : decode cX1_noteSteps 58 = .ok (.iinc 3 1, 3) := by decide +kernel
theorem dX1_noteSteps_61 : decode cX1_noteSteps 61 = .ok (.goto (-51), 3) := by decide +kernel
theorem dX1_noteSteps_64 : decode cX1_noteSteps 64 = .ok (.return_, 1) := by decide +kernel
theorem dX1_note_0 : decode cX1_note 0 = .ok (.aload_n 0, 1) := by decide +kernel
theorem dX1_note_1 : decode cX1_note 1 = .ok (.getfield 57, 3) := by decide +kernel
theorem dX1_note_4 : decode cX1_note 4 = .ok (.sipush 2000, 3) := by decide +kernel
theorem dX1_note_7 : decode cX1_note 7 = .ok (.if_icmp .ge 23, 3) := by decide +kernel
theorem dX1_note_10 : decode cX1_note 10 = .ok (.aload_n 0, 1) := by decide +kernel
theorem dX1_note_11 : decode cX1_note 11 = .ok (.getfield 22, 3) := by decide +kernel
theorem dX1_note_14 : decode cX1_note 14 = .ok (.aload_n 0, 1) := by decide +kernel
theorem dX1_note_15 : decode cX1_note 15 = .ok (.getfield 57, 3) := by decide +kernel
theorem dX1_note_18 : decode cX1_note 18 = .ok (.iload_n 1, 1) := by decide +kernel
theorem dX1_note_19 : decode cX1_note 19 = .ok (.iastore, 1) := by decide +kernel
theorem dX1_note_20 : decode cX1_note 20 = .ok (.aload_n 0, 1) := by decide +kernel
theorem dX1_note_21 : decode cX1_note 21 = .ok (.dup, 1) := by decide +kernel
theorem dX1_note_22 : decode cX1_note 22 = .ok (.getfield 57, 3) := by decide +kernel
theorem dX1_note_25 : decode cX1_note 25 = .ok (.iconst 1, 1) := by decide +kernel
theorem dX1_note_26 : decode cX1_note 26 = .ok (.iadd, 1) := by decide +kernel
theorem dX1_note_27 : decode cX1_note 27 = .ok (.putfield 57, 3) := by decide +kernel
theorem dX1_note_30 : decode cX1_note 30 = .ok (.return_, 1) := by decide +kernel
theorem dX1_endNode_0 : decode cX1_endNode 0 = .ok (.aload_n 1, 1) := by decide +kernel
theorem dX1_endNode_1 : decode cX1_endNode 1 = .ok (.getfield 36, 3) := by decide +kernel
theorem dX1_endNode_4 : decode cX1_endNode 4 = .ok (.ifCond .ne 4, 3) := by decide +kernel
theorem dX1_endNode_7 : decode cX1_endNode 7 = .ok (.return_, 1) := by decide +kernel
theorem dX1_endNode_8 : decode cX1_endNode 8 = .ok (.aload_n 1, 1) := by decide +kernel
theorem dX1_endNode_9 : decode cX1_endNode 9 = .ok (.iconst 0, 1) := by decide +kernel
theorem dX1_endNode_10 : decode cX1_endNode 10 = .ok (.putfield 36, 3) := by decide +kernel
theorem dX1_endNode_13 : decode cX1_endNode 13 = .ok (.iconst 0, 1) := by decide +kernel
theorem dX1_endNode_14 : decode cX1_endNode 14 = .ok (.istore_n 2, 1) := by decide +kernel
theorem dX1_endNode_15 : decode cX1_endNode 15 = .ok (.iload_n 2, 1) := by decide +kernel
theorem dX1_endNode_16 : decode cX1_endNode 16 = .ok (.bipush 16, 2) := by decide +kernel
theorem dX1_endNode_18 : decode cX1_endNode 18 = .ok (.if_icmp .ge 26, 3) := by decide +kernel
theorem dX1_endNode_21 : decode cX1_endNode 21 = .ok (.aload_n 0, 1) := by decide +kernel
theorem dX1_endNode_22 : decode cX1_endNode 22 = .ok (.getfield 15, 3) := by decide +kernel
theorem dX1_endNode_25 : decode cX1_endNode 25 = .ok (.iload_n 2, 1) := by decide +kernel
theorem dX1_endNode_26 : decode cX1_endNode 26 = .ok (.aaload, 1) := by decide +kernel
theorem dX1_endNode_27 : decode cX1_endNode 27 = .ok (.aload_n 1, 1) := by decide +kernel
theorem dX1_endNode_28 : decode cX1_endNode 28 = .ok (.if_acmp .ne 10, 3) := by decide +kernel
theorem dX1_endNode_31 : decode cX1_endNode 31 = .ok (.aload_n 0, 1) := by decide +kernel
theorem dX1_endNode_32 : decode cX1_endNode 32 = .ok (.getfield 15, 3) := by decide +kernel
theorem dX1_endNode_35 : decode cX1_endNode 35 = .ok (.iload_n 2, 1) := by decide +kernel
theorem dX1_endNode_36 : decode cX1_endNode 36 = .ok (.aconst_null, 1) := by decide +kernel
theorem dX1_endNode_37 : decode cX1_endNode 37 = .ok (.aastore, 1) := by decide +kernel
theorem dX1_endNode_38 : decode cX1_endNode 38 = .ok (.iinc 2 1, 3) := by decide +kernel
theorem dX1_endNode_41 : decode cX1_endNode 41 = .ok (.goto (-26), 3) := by decide +kernel
theorem dX1_endNode_44 : decode cX1_endNode 44 = .ok (.aload_n 1, 1) := by decide +kernel
theorem dX1_endNode_45 : decode cX1_endNode 45 = .ok (.dup, 1) := by decide +kernel
theorem dX1_endNode_46 : decode cX1_endNode 46 = .ok (.getfield 80, 3) := by decide +kernel
theorem dX1_endNode_49 : decode cX1_endNode 49 = .ok (.iconst 1, 1) := by decide +kernel
theorem dX1_endNode_50 : decode cX1_endNode 50 = .ok (.iadd, 1) := by decide +kernel
theorem dX1_endNode_51 : decode cX1_endNode 51 = .ok (.putfield 80, 3) := by decide +kernel
theorem dX1_endNode_54 : decode cX1_endNode 54 = .ok (.return_, 1) := by decide +kernel
theorem dX1_countThingsOf_0 : decode cX1_countThingsOf 0 = .ok (.iconst 0, 1) := by decide +kernel
theorem dX1_countThingsOf_1 : decode cX1_countThingsOf 1 = .ok (.istore_n 2, 1) := by decide +kernel
theorem dX1_countThingsOf_2 : decode cX1_countThingsOf 2 = .ok (.iconst 0, 1) := by decide +kernel
theorem dX1_countThingsOf_3 : decode cX1_countThingsOf 3 = .ok (.istore_n 3, 1) := by decide +kernel
theorem dX1_countThingsOf_4 : decode cX1_countThingsOf 4 = .ok (.iload_n 3, 1) := by decide +kernel
theorem dX1_countThingsOf_5 : decode cX1_countThingsOf 5 = .ok (.bipush 16, 2) := by decide +kernel
theorem dX1_countThingsOf_7 : decode cX1_countThingsOf 7 = .ok (.if_icmp .ge 22, 3) := by decide +kernel
theorem dX1_countThingsOf_10 : decode cX1_countThingsOf 10 = .ok (.aload_n 0, 1) := by decide +kernel
theorem dX1_countThingsOf_11 : decode cX1_countThingsOf 11 = .ok (.getfield 15, 3) := by decide +kernel
theorem dX1_countThingsOf_14 : decode cX1_countThingsOf 14 = .ok (.iload_n 3, 1) := by decide +kernel
theorem dX1_countThingsOf_15 : decode cX1_countThingsOf 15 = .ok (.aaload, 1) := by decide +kernel
theorem dX1_countThingsOf_16 : decode cX1_countThingsOf 16 = .ok (.aload_n 1, 1) := by decide +kernel
theorem dX1_countThingsOf_17 : decode cX1_countThingsOf 17 = .ok (.if_acmp .ne 6, 3) := by decide +kernel
theorem dX1_countThingsOf_20 : decode cX1_countThingsOf 20 = .ok (.iinc 2 1, 3) := by decide +kernel
theorem dX1_countThingsOf_23 : decode cX1_countThingsOf 23 = .ok (.iinc 3 1, 3) := by decide +kernel
theorem dX1_countThingsOf_26 : decode cX1_countThingsOf 26 = .ok (.goto (-22), 3) := by decide +kernel
theorem dX1_countThingsOf_29 : decode cX1_countThingsOf 29 = .ok (.iload_n 2, 1) := by decide +kernel
theorem dX1_countThingsOf_30 : decode cX1_countThingsOf 30 = .ok (.ireturn, 1) := by decide +kernel
theorem dX2_init_0 : decode cX2_init 0 = .ok (.aload_n 0, 1) := by decide +kernel
theorem dX2_init_1 : decode cX2_init 1 = .ok (.invokespecial 1, 3) := by decide +kernel
theorem dX2_init_4 : decode cX2_init 4 = .ok (.aload_n 0, 1) := by decide +kernel
theorem dX2_init_5 : decode cX2_init 5 = .ok (.bipush 31, 2) := by decide +kernel
theorem dX2_init_7 : decode cX2_init 7 = .ok (.newarray .int, 2) := by decide +kernel
theorem dX2_init_9 : decode cX2_init 9 = .ok (.putfield 7, 3) := by decide +kernel
theorem dX2_init_12 : decode cX2_init 12 = .ok (.aload_n 0, 1) := by decide +kernel
theorem dX2_init_13 : decode cX2_init 13 = .ok (.bipush 31, 2) := by decide +kernel
theorem dX2_init_15 : decode cX2_init 15 = .ok (.newarray .int, 2) := by decide +kernel
theorem dX2_init_17 : decode cX2_init 17 = .ok (.putfield 13, 3) := by decide +kernel
theorem dX2_init_20 : decode cX2_init 20 = .ok (.aload_n 0, 1) := by decide +kernel
theorem dX2_init_21 : decode cX2_init 21 = .ok (.bipush 31, 2) := by decide +kernel
theorem dX2_init_23 : decode cX2_init 23 = .ok (.newarray .int, 2) := by decide +kernel
theorem dX2_init_25 : decode cX2_init 25 = .ok (.putfield 16, 3) := by decide +kernel
theorem dX2_init_28 : decode cX2_init 28 = .ok (.aload_n 0, 1) := by decide +kernel
theorem dX2_init_29 : decode cX2_init 29 = .ok (.bipush 31, 2) := by decide +kernel
theorem dX2_init_31 : decode cX2_init 31 = .ok (.newarray .boolean, 2) := by decide +kernel
theorem dX2_init_33 : decode cX2_init 33 = .ok (.putfield 19, 3) := by decide +kernel
theorem dX2_init_36 : decode cX2_init 36 = .ok (.aload_n 0, 1) := by decide +kernel
theorem dX2_init_37 : decode cX2_init 37 = .ok (.bipush 31, 2) := by decide +kernel
theorem dX2_init_39 : decode cX2_init 39 = .ok (.newarray .boolean, 2) := by decide +kernel
theorem dX2_init_41 : decode cX2_init 41 = .ok (.putfield 23, 3) := by decide +kernel
theorem dX2_init_44 : decode cX2_init 44 = .ok (.aload_n 0, 1) := by decide +kernel
theorem dX2_init_45 : decode cX2_init 45 = .ok (.bipush 31, 2) := by decide +kernel
theorem dX2_init_47 : decode cX2_init 47 = .ok (.newarray .boolean, 2) := by decide +kernel
theorem dX2_init_49 : decode cX2_init 49 = .ok (.putfield 26, 3) := by decide +kernel
theorem dX2_init_52 : decode cX2_init 52 = .ok (.aload_n 0, 1) := by decide +kernel
theorem dX2_init_53 : decode cX2_init 53 = .ok (.bipush 31, 2) := by decide +kernel
theorem dX2_init_55 : decode cX2_init 55 = .ok (.newarray .int, 2) := by decide +kernel
theorem dX2_init_57 : decode cX2_init 57 = .ok (.putfield 29, 3) := by decide +kernel
theorem dX2_init_60 : decode cX2_init 60 = .ok (.aload_n 0, 1) := by decide +kernel
theorem dX2_init_61 : decode cX2_init 61 = .ok (.bipush 31, 2) := by decide +kernel
theorem dX2_init_63 : decode cX2_init 63 = .ok (.newarray .long, 2) := by decide +kernel
theorem dX2_init_65 : decode cX2_init 65 = .ok (.putfield 32, 3) := by decide +kernel
theorem dX2_init_68 : decode cX2_init 68 = .ok (.aload_n 0, 1) := by decide +kernel
theorem dX2_init_69 : decode cX2_init 69 = .ok (.bipush 31, 2) := by decide +kernel
theorem dX2_init_71 : decode cX2_init 71 = .ok (.newarray .boolean, 2) := by decide +kernel
theorem dX2_init_73 : decode cX2_init 73 = .ok (.putfield 36, 3) := by decide +kernel
theorem dX2_init_76 : decode cX2_init 76 = .ok (.aload_n 0, 1) := by decide +kernel
theorem dX2_init_77 : decode cX2_init 77 = .ok (.sipush 6231, 3) := by decide +kernel
theorem dX2_init_80 : decode cX2_init 80 = .ok (.newarray .int, 2) := by decide +kernel
theorem dX2_init_82 : decode cX2_init 82 = .ok (.putfield 39, 3) := by decide +kernel
theorem dX2_init_85 : decode cX2_init 85 = .ok (.aload_n 0, 1) := by decide +kernel
theorem dX2_init_86 : decode cX2_init 86 = .ok (.bipush 17, 2) := by decide +kernel
theorem dX2_init_88 : decode cX2_init 88 = .ok (.newarray .int, 2) := by decide +kernel
theorem dX2_init_90 : decode cX2_init 90 = .ok (.putfield 42, 3) := by decide +kernel
theorem dX2_init_93 : decode cX2_init 93 = .ok (.aload_n 0, 1) := by decide +kernel
theorem dX2_init_94 : decode cX2_init 94 = .ok (.sipush 2000, 3) := by decide +kernel
theorem dX2_init_97 : decode cX2_init 97 = .ok (.newarray .int, 2) := by decide +kernel
theorem dX2_init_99 : decode cX2_init 99 = .ok (.putfield 45, 3) := by decide +kernel
theorem dX2_init_102 : decode cX2_init 102 = .ok (.return_, 1) := by decide +kernel
theorem dJ9_min_7cf53_0 : decode cJ9_min_7cf53 0 = .ok (.iload_n 0, 1) := by decide +kernel
theorem dJ9_min_7cf53_1 : decode cJ9_min_7cf53 1 = .ok (.iload_n 1, 1) := by decide +kernel
theorem dJ9_min_7cf53_2 : decode cJ9_min_7cf53 2 = .ok (.if_icmp .gt 7, 3) := by decide +kernel
theorem dJ9_min_7cf53_5 : decode cJ9_min_7cf53 5 = .ok (.iload_n 0, 1) := by decide +kernel
theorem dJ9_min_7cf53_6 : decode cJ9_min_7cf53 6 = .ok (.goto 4, 3) := by decide +kernel
theorem dJ9_min_7cf53_9 : decode cJ9_min_7cf53 9 = .ok (.iload_n 1, 1) := by decide +kernel
theorem dJ9_min_7cf53_10 : decode cJ9_min_7cf53 10 = .ok (.ireturn, 1) := by decide +kernel
set_option maxRecDepth 20000 in
theorem ggL_law_X1_init : GoodIn wsL_law wsX1_init := goodIn_r _ [8, 9, 10, 11, 12, 13, 14, 15, 16, 17, 183, 184, 185, 186, 187, 188, 189, 190, 191] (by decide +kernel) (by decide +kernel)
set_option maxRecDepth 20000 in
theorem gL_law_X1_init : GoodIn wsL_law (wsX1_init) := ggL_law_X1_init
set_option maxRecDepth 20000 in
theorem ggL_law_X2_init : GoodIn wsL_law wsX2_init := goodIn_r _ [20, 21, 10, 11, 15, 22, 23, 24, 25, 26, 27, 28, 29, 30, 31, 32, 33, 192, 193, 194] (by decide +kernel) (by decide +kernel)
set_option maxRecDepth 20000 in
theorem gL_law_X2_init : GoodIn wsL_law (wsX2_init) := ggL_law_X2_init
set_option maxRecDepth 20000 in
theorem ggL_law_X1_node : GoodIn wsL_law wsX1_node := goodIn_r _ [37, 38, 13, 12, 39, 40, 41, 42, 43, 44, 10, 11, 45, 46, 47, 48, 49, 50, 51, 52, 183, 184, 185, 186, 187, 188, 189, 190, 191, 195, 196, 197, 198, 199, 200, 201, 202, 203, 204, 205, 206] (by decide +kernel) (by decide +kernel)
set_option maxRecDepth 20000 in
theorem gL_law_X1_node : GoodIn wsL_law (wsV RL 13 RX1 yX1_node wsX1_node) := goodIn_app (goodIn_of _ (by decide +kernel)) ggL_law_X1_node
set_option maxRecDepth 20000 in
theorem ggL_law_X1_waits : GoodIn wsL_law wsX1_waits := goodIn_r _ [56, 57, 58, 59, 60, 61, 2, 62, 13, 63, 64, 65, 66, 38, 67, 68, 69, 40, 70, 71, 46, 195, 196, 197, 198, 199, 200, 201, 202, 203, 204, 205, 206, 183, 184, 185, 186, 187, 188, 189, 190, 191] (by decide +kernel) (by decide +kernel)
set_option maxRecDepth 20000 in
theorem gL_law_X1_waits : GoodIn wsL_law (wsV RL 18 RX1 yX1_waits wsX1_waits) := goodIn_app (goodIn_of _ (by decide +kernel)) ggL_law_X1_waits
set_option maxRecDepth 20000 in
theorem ggL_law_X1_turn : GoodIn wsL_law wsX1_turn := goodIn_r _ [75, 76, 16, 63, 64, 65, 2, 66, 38, 183, 184, 185, 186, 187, 188, 189, 190, 191] (by decide +kernel) (by decide +kernel)
set_option maxRecDepth 20000 in
theorem gL_law_X1_turn : GoodIn wsL_law (wsV RL 23 RX1 yX1_turn wsX1_turn) := goodIn_app (goodIn_of _ (by decide +kernel)) ggL_law_X1_turn
set_option maxRecDepth 20000 in
theorem ggL_law_X1_run : GoodIn wsL_law wsX1_run := goodIn_r _ [80, 76, 81, 82, 83, 2, 84, 85, 86, 87, 88, 89, 13, 90, 91, 92, 93, 94, 57, 14, 95, 96, 97, 98, 99, 100, 101, 102, 103, 104, 105, 106, 107, 108, 109, 110, 111, 112, 40, 113, 71, 49, 50, 114, 68, 69, 70, 46, 115, 116, 117, 118, 119, 120, 121, 122, 123, 16, 59, 60, 61, 62, 63, 64, 65, 66, 38, 124, 125, 126, 127, 128, 129, 130, 131, 132, 133, 134, 135, 136, 137, 138, 139, 140, 141, 142, 143, 144, 145, 146, 17, 183, 184, 185, 186, 187, 188, 189, 190, 191, 195, 196, 197, 198, 199, 200, 201, 202, 203, 204, 205, 206] (by decide +kernel) (by decide +kernel)
set_option maxRecDepth 20000 in
theorem gL_law_X1_run : GoodIn wsL_law (wsV RL 28 RX1 yX1_run wsX1_run) := goodIn_app (goodIn_of _ (by decide +kernel)) ggL_law_X1_run
set_option maxRecDepth 20000 in
theorem ggL_law_X1_log : GoodIn wsL_law wsX1_log := goodIn_r _ [150, 146, 17, 183, 184, 185, 186, 187, 188, 189, 190, 191] (by decide +kernel) (by decide +kernel)
set_option maxRecDepth 20000 in
theorem gL_law_X1_log : GoodIn wsL_law (wsV RL 33 RX1 yX1_log wsX1_log) := goodIn_app (goodIn_of _ (by decide +kernel)) ggL_law_X1_log
set_option maxRecDepth 20000 in
theorem ggL_law_X1_safe : GoodIn wsL_law wsX1_safe := goodIn_r _ [154, 129, 59, 60, 61, 2, 62, 13, 63, 64, 65, 66, 38, 195, 196, 197, 198, 199, 200, 201, 202, 203, 204, 205, 206, 183, 184, 185, 186, 187, 188, 189, 190, 191] (by decide +kernel) (by decide +kernel)
set_option maxRecDepth 20000 in
theorem gL_law_X1_safe : GoodIn wsL_law (wsV RL 38 RX1 yX1_safe wsX1_safe) := goodIn_app (goodIn_of _ (by decide +kernel)) ggL_law_X1_safe
set_option maxRecDepth 20000 in
theorem ggL_law_X1_cut : GoodIn wsL_law wsX1_cut := goodIn_r _ [158, 85, 57, 90, 59, 60, 61, 2, 62, 13, 63, 64, 65, 66, 38, 183, 184, 185, 186, 187, 188, 189, 190, 191, 195, 196, 197, 198, 199, 200, 201, 202, 203, 204, 205, 206] (by decide +kernel) (by decide +kernel)
set_option maxRecDepth 20000 in
theorem gL_law_X1_cut : GoodIn wsL_law (wsV RL 44 RX1 yX1_cut wsX1_cut) := goodIn_app (goodIn_of _ (by decide +kernel)) ggL_law_X1_cut
set_option maxRecDepth 20000 in
theorem ggL_law_X1_interrupt : GoodIn wsL_law wsX1_interrupt := goodIn_r _ [162, 57, 131, 59, 60, 61, 2, 62, 13, 63, 64, 65, 66, 38, 195, 196, 197, 198, 199, 200, 201, 202, 203, 204, 205, 206, 183, 184, 185, 186, 187, 188, 189, 190, 191] (by decide +kernel) (by decide +kernel)
set_option maxRecDepth 20000 in
theorem gL_law_X1_interrupt : GoodIn wsL_law (wsV RL 49 RX1 yX1_interrupt wsX1_interrupt) := goodIn_app (goodIn_of _ (by decide +kernel)) ggL_law_X1_interrupt
set_option maxRecDepth 20000 in
theorem ggL_law_X1_held : GoodIn wsL_law wsX1_held := goodIn_r _ [166, 14, 57, 59, 60, 61, 2, 62, 13, 63, 64, 65, 66, 38, 167, 168, 169, 170, 183, 184, 185, 186, 187, 188, 189, 190, 191, 195, 196, 197, 198, 199, 200, 201, 202, 203, 204, 205, 206] (by decide +kernel) (by decide +kernel)
set_option maxRecDepth 20000 in
theorem gL_law_X1_held : GoodIn wsL_law (wsV RL 54 RX1 yX1_held wsX1_held) := goodIn_app (goodIn_of _ (by decide +kernel)) ggL_law_X1_held
set_option maxRecDepth 20000 in
theorem ggL_law_X1_barrier : GoodIn wsL_law wsX1_barrier := goodIn_r _ [174, 119, 183, 184, 185, 186, 187, 188, 189, 190, 191] (by decide +kernel) (by decide +kernel)
set_option maxRecDepth 20000 in
theorem gL_law_X1_barrier : GoodIn wsL_law (wsV RL 58 RX1 yX1_barrier wsX1_barrier) := goodIn_app (goodIn_of _ (by decide +kernel)) ggL_law_X1_barrier
set_option maxRecDepth 20000 in
theorem ggL_law_X1_finished : GoodIn wsL_law wsX1_finished := goodIn_r _ [178, 95, 59, 60, 61, 2, 62, 13, 63, 64, 65, 66, 38, 195, 196, 197, 198, 199, 200, 201, 202, 203, 204, 205, 206, 183, 184, 185, 186, 187, 188, 189, 190, 191] (by decide +kernel) (by decide +kernel)
set_option maxRecDepth 20000 in
theorem gL_law_X1_finished : GoodIn wsL_law (wsV RL 62 RX1 yX1_finished wsX1_finished) := goodIn_app (goodIn_of _ (by decide +kernel)) ggL_law_X1_finished
set_option maxRecDepth 20000 in
theorem ggL_law_X1_close : GoodIn wsL_law wsX1_close := goodIn_r _ [182, 13, 57, 91, 92, 93, 2, 94, 14, 95, 183, 184, 185, 186, 187, 188, 189, 190, 191, 195, 196, 197, 198, 199, 200, 201, 202, 203, 204, 205, 206] (by decide +kernel) (by decide +kernel)
set_option maxRecDepth 20000 in
theorem gL_law_X1_close : GoodIn wsL_law (wsV RL 66 RX1 yX1_close wsX1_close) := goodIn_app (goodIn_of _ (by decide +kernel)) ggL_law_X1_close
theorem dL_law_0 : decode cL_law 0 = .ok (.new 7, 3) := by decide +kernel
theorem dL_law_3 : decode cL_law 3 = .ok (.dup, 1) := by decide +kernel
theorem dL_law_4 : decode cL_law 4 = .ok (.invokespecial 9, 3) := by decide +kernel
theorem dL_law_7 : decode cL_law 7 = .ok (.astore_n 1, 1) := by decide +kernel
theorem dL_law_8 : decode cL_law 8 = .ok (.new 10, 3) := by decide +kernel
theorem dL_law_11 : decode cL_law 11 = .ok (.dup, 1) := by decide +kernel
theorem dL_law_12 : decode cL_law 12 = .ok (.invokespecial 12, 3) := by decide +kernel
theorem dL_law_15 : decode cL_law 15 = .ok (.astore_n 2, 1) := by decide +kernel
theorem dL_law_16 : decode cL_law 16 = .ok (.iconst 0, 1) := by decide +kernel
theorem dL_law_17 : decode cL_law 17 = .ok (.istore_n 3, 1) := by decide +kernel
theorem dL_law_18 : decode cL_law 18 = .ok (.iload_n 3, 1) := by decide +kernel
theorem dL_law_19 : decode cL_law 19 = .ok (.aload_n 0, 1) := by decide +kernel
theorem dL_law_20 : decode cL_law 20 = .ok (.arraylength, 1) := by decide +kernel
theorem dL_law_21 : decode cL_law 21 = .ok (.iconst 4, 1) := by decide +kernel
theorem dL_law_22 : decode cL_law 22 = .ok (.isub, 1) := by decide +kernel
theorem dL_law_23 : decode cL_law 23 = .ok (.if_icmp .gt 413, 3) := by decide +kernel
theorem dL_law_26 : decode cL_law 26 = .ok (.aload_n 0, 1) := by decide +kernel
theorem dL_law_27 : decode cL_law 27 = .ok (.iload_n 3, 1) := by decide +kernel
theorem dL_law_28 : decode cL_law 28 = .ok (.iaload, 1) := by decide +kernel
theorem dL_law_29 : decode cL_law 29 = .ok (.bipush 15, 2) := by decide +kernel
theorem dL_law_31 : decode cL_law 31 = .ok (.iand, 1) := by decide +kernel
theorem dL_law_32 : decode cL_law 32 = .ok (.tableswitch 398 0 11 #[64, 97, 140, 161, 174, 197, 220, 283, 306, 339, 362, 385], 64) := by decide +kernel
theorem dL_law_96 : decode cL_law 96 = .ok (.aload_n 1, 1) := by decide +kernel
theorem dL_law_97 : decode cL_law 97 = .ok (.aload_n 0, 1) := by decide +kernel
theorem dL_law_98 : decode cL_law 98 = .ok (.iload_n 3, 1) := by decide +kernel
theorem dL_law_99 : decode cL_law 99 = .ok (.iconst 1, 1) := by decide +kernel
theorem dL_law_100 : decode cL_law 100 = .ok (.iadd, 1) := by decide +kernel
theorem dL_law_101 : decode cL_law 101 = .ok (.iaload, 1) := by decide +kernel
theorem dL_law_102 : decode cL_law 102 = .ok (.aload_n 0, 1) := by decide +kernel
theorem dL_law_103 : decode cL_law 103 = .ok (.iload_n 3, 1) := by decide +kernel
theorem dL_law_104 : decode cL_law 104 = .ok (.iconst 2, 1) := by decide +kernel
theorem dL_law_105 : decode cL_law 105 = .ok (.iadd, 1) := by decide +kernel
theorem dL_law_106 : decode cL_law 106 = .ok (.iaload, 1) := by decide +kernel
theorem dL_law_107 : decode cL_law 107 = .ok (.invokevirtual 13, 3) := by decide +kernel
theorem dL_law_110 : decode cL_law 110 = .ok (.aload_n 2, 1) := by decide +kernel
theorem dL_law_111 : decode cL_law 111 = .ok (.aload_n 0, 1) := by decide +kernel
theorem dL_law_112 : decode cL_law 112 = .ok (.iload_n 3, 1) := by decide +kernel
theorem dL_law_113 : decode cL_law 113 = .ok (.iconst 1, 1) := by decide +kernel
theorem dL_law_114 : decode cL_law 114 = .ok (.iadd, 1) := by decide +kernel
theorem dL_law_115 : decode cL_law 115 = .ok (.iaload, 1) := by decide +kernel
theorem dL_law_116 : decode cL_law 116 = .ok (.aload_n 0, 1) := by decide +kernel
theorem dL_law_117 : decode cL_law 117 = .ok (.iload_n 3, 1) := by decide +kernel
theorem dL_law_118 : decode cL_law 118 = .ok (.iconst 2, 1) := by decide +kernel
theorem dL_law_119 : decode cL_law 119 = .ok (.iadd, 1) := by decide +kernel
theorem dL_law_120 : decode cL_law 120 = .ok (.iaload, 1) := by decide +kernel
theorem dL_law_121 : decode cL_law 121 = .ok (.invokevirtual 17, 3) := by decide +kernel
theorem dL_law_124 : decode cL_law 124 = .ok (.if_icmp .eq 306, 3) := by decide +kernel
theorem dL_law_127 : decode cL_law 127 = .ok (.iconst 0, 1) := by decide +kernel
theorem dL_law_128 : decode cL_law 128 = .ok (.ireturn, 1) := by decide +kernel
theorem dL_law_129 : decode cL_law 129 = .ok (.aload_n 1, 1) := by decide +kernel
theorem dL_law_130 : decode cL_law 130 = .ok (.aload_n 0, 1) := by decide +kernel
theorem dL_law_131 : decode cL_law 131 = .ok (.iload_n 3, 1) := by decide +kernel
theorem dL_law_132 : decode cL_law 132 = .ok (.iconst 1, 1) := by decide +kernel
theorem dL_law_133 : decode cL_law 133 = .ok (.iadd, 1) := by decide +kernel
theorem dL_law_134 : decode cL_law 134 = .ok (.iaload, 1) := by decide +kernel
theorem dL_law_135 : decode cL_law 135 = .ok (.aload_n 0, 1) := by decide +kernel
theorem dL_law_136 : decode cL_law 136 = .ok (.iload_n 3, 1) := by decide +kernel
theorem dL_law_137 : decode cL_law 137 = .ok (.iconst 2, 1) := by decide +kernel
theorem dL_law_138 : decode cL_law 138 = .ok (.iadd, 1) := by decide +kernel
theorem dL_law_139 : decode cL_law 139 = .ok (.iaload, 1) := by decide +kernel
theorem dL_law_140 : decode cL_law 140 = .ok (.aload_n 0, 1) := by decide +kernel
theorem dL_law_141 : decode cL_law 141 = .ok (.iload_n 3, 1) := by decide +kernel
theorem dL_law_142 : decode cL_law 142 = .ok (.iconst 3, 1) := by decide +kernel
theorem dL_law_143 : decode cL_law 143 = .ok (.iadd, 1) := by decide +kernel
theorem dL_law_144 : decode cL_law 144 = .ok (.iaload, 1) := by decide +kernel
theorem dL_law_145 : decode cL_law 145 = .ok (.invokevirtual 18, 3) := by decide +kernel
theorem dL_law_148 : decode cL_law 148 = .ok (.aload_n 2, 1) := by decide +kernel
theorem dL_law_149 : decode cL_law 149 = .ok (.aload_n 0, 1) := by decide +kernel
theorem dL_law_150 : decode cL_law 150 = .ok (.iload_n 3, 1) := by decide +kernel
theorem dL_law_151 : decode cL_law 151 = .ok (.iconst 1, 1) := by decide +kernel
theorem dL_law_152 : decode cL_law 152 = .ok (.iadd, 1) := by decide +kernel
theorem dL_law_153 : decode cL_law 153 = .ok (.iaload, 1) := by decide +kernel
theorem dL_law_154 : decode cL_law 154 = .ok (.aload_n 0, 1) := by decide +kernel
theorem dL_law_155 : decode cL_law 155 = .ok (.iload_n 3, 1) := by decide +kernel
theorem dL_law_156 : decode cL_law 156 = .ok (.iconst 2, 1) := by decide +kernel
theorem dL_law_157 : decode cL_law 157 = .ok (.iadd, 1) := by decide +kernel
theorem dL_law_158 : decode cL_law 158 = .ok (.iaload, 1) := by decide +kernel
theorem dL_law_159 : decode cL_law 159 = .ok (.aload_n 0, 1) := by decide +kernel
theorem dL_law_160 : decode cL_law 160 = .ok (.iload_n 3, 1) := by decide +kernel
theorem dL_law_161 : decode cL_law 161 = .ok (.iconst 3, 1) := by decide +kernel
theorem dL_law_162 : decode cL_law 162 = .ok (.iadd, 1) := by decide +kernel
theorem dL_law_163 : decode cL_law 163 = .ok (.iaload, 1) := by decide +kernel
theorem dL_law_164 : decode cL_law 164 = .ok (.invokevirtual 22, 3) := by decide +kernel
theorem dL_law_167 : decode cL_law 167 = .ok (.if_icmp .eq 263, 3) := by decide +kernel
theorem dL_law_170 : decode cL_law 170 = .ok (.iconst 0, 1) := by decide +kernel
theorem dL_law_171 : decode cL_law 171 = .ok (.ireturn, 1) := by decide +kernel
theorem dL_law_172 : decode cL_law 172 = .ok (.aload_n 1, 1) := by decide +kernel
theorem dL_law_173 : decode cL_law 173 = .ok (.aload_n 0, 1) := by decide +kernel
theorem dL_law_174 : decode cL_law 174 = .ok (.iload_n 3, 1) := by decide +kernel
theorem dL_law_175 : decode cL_law 175 = .ok (.iconst 1, 1) := by decide +kernel
theorem dL_law_176 : decode cL_law 176 = .ok (.iadd, 1) := by decide +kernel
theorem dL_law_177 : decode cL_law 177 = .ok (.iaload, 1) := by decide +kernel
theorem dL_law_178 : decode cL_law 178 = .ok (.invokevirtual 23, 3) := by decide +kernel
theorem dL_law_181 : decode cL_law 181 = .ok (.aload_n 2, 1) := by decide +kernel
theorem dL_law_182 : decode cL_law 182 = .ok (.aload_n 0, 1) := by decide +kernel
theorem dL_law_183 : decode cL_law 183 = .ok (.iload_n 3, 1) := by decide +kernel
theorem dL_law_184 : decode cL_law 184 = .ok (.iconst 1, 1) := by decide +kernel
theorem dL_law_185 : decode cL_law 185 = .ok (.iadd, 1) := by decide +kernel
theorem dL_law_186 : decode cL_law 186 = .ok (.iaload, 1) := by decide +kernel
theorem dL_law_187 : decode cL_law 187 = .ok (.invokevirtual 27, 3) := by decide +kernel
theorem dL_law_190 : decode cL_law 190 = .ok (.goto 240, 3) := by decide +kernel
theorem dL_law_193 : decode cL_law 193 = .ok (.aload_n 1, 1) := by decide +kernel
theorem dL_law_194 : decode cL_law 194 = .ok (.invokevirtual 28, 3) := by decide +kernel
theorem dL_law_197 : decode cL_law 197 = .ok (.aload_n 2, 1) := by decide +kernel
theorem dL_law_198 : decode cL_law 198 = .ok (.invokevirtual 32, 3) := by decide +kernel
theorem dL_law_201 : decode cL_law 201 = .ok (.if_icmp .eq 229, 3) := by decide +kernel
theorem dL_law_204 : decode cL_law 204 = .ok (.iconst 0, 1) := by decide +kernel
theorem dL_law_205 : decode cL_law 205 = .ok (.ireturn, 1) := by decide +kernel
theorem dL_law_206 : decode cL_law 206 = .ok (.aload_n 1, 1) := by decide +kernel
theorem dL_law_207 : decode cL_law 207 = .ok (.aload_n 0, 1) := by decide +kernel
theorem dL_law_208 : decode cL_law 208 = .ok (.iload_n 3, 1) := by decide +kernel
theorem dL_law_209 : decode cL_law 209 = .ok (.iconst 1, 1) := by decide +kernel
theorem dL_law_210 : decode cL_law 210 = .ok (.iadd, 1) := by decide +kernel
theorem dL_law_211 : decode cL_law 211 = .ok (.iaload, 1) := by decide +kernel
theorem dL_law_212 : decode cL_law 212 = .ok (.invokevirtual 33, 3) := by decide +kernel
theorem dL_law_215 : decode cL_law 215 = .ok (.aload_n 2, 1) := by decide +kernel
theorem dL_law_216 : decode cL_law 216 = .ok (.aload_n 0, 1) := by decide +kernel
theorem dL_law_217 : decode cL_law 217 = .ok (.iload_n 3, 1) := by decide +kernel
theorem dL_law_218 : decode cL_law 218 = .ok (.iconst 1, 1) := by decide +kernel
theorem dL_law_219 : decode cL_law 219 = .ok (.iadd, 1) := by decide +kernel
theorem dL_law_220 : decode cL_law 220 = .ok (.iaload, 1) := by decide +kernel
theorem dL_law_221 : decode cL_law 221 = .ok (.invokevirtual 37, 3) := by decide +kernel
theorem dL_law_224 : decode cL_law 224 = .ok (.if_icmp .eq 206, 3) := by decide +kernel
theorem dL_law_227 : decode cL_law 227 = .ok (.iconst 0, 1) := by decide +kernel
theorem dL_law_228 : decode cL_law 228 = .ok (.ireturn, 1) := by decide +kernel
theorem dL_law_229 : decode cL_law 229 = .ok (.aload_n 1, 1) := by decide +kernel
theorem dL_law_230 : decode cL_law 230 = .ok (.aload_n 0, 1) := by decide +kernel
theorem dL_law_231 : decode cL_law 231 = .ok (.iload_n 3, 1) := by decide +kernel
theorem dL_law_232 : decode cL_law 232 = .ok (.iconst 1, 1) := by decide +kernel
theorem dL_law_233 : decode cL_law 233 = .ok (.iadd, 1) := by decide +kernel
theorem dL_law_234 : decode cL_law 234 = .ok (.iaload, 1) := by decide +kernel
theorem dL_law_235 : decode cL_law 235 = .ok (.invokevirtual 38, 3) := by decide +kernel
theorem dL_law_238 : decode cL_law 238 = .ok (.aload_n 2, 1) := by decide +kernel
theorem dL_law_239 : decode cL_law 239 = .ok (.aload_n 0, 1) := by decide +kernel
theorem dL_law_240 : decode cL_law 240 = .ok (.iload_n 3, 1) := by decide +kernel
theorem dL_law_241 : decode cL_law 241 = .ok (.iconst 1, 1) := by decide +kernel
theorem dL_law_242 : decode cL_law 242 = .ok (.iadd, 1) := by decide +kernel
theorem dL_law_243 : decode cL_law 243 = .ok (.iaload, 1) := by decide +kernel
theorem dL_law_244 : decode cL_law 244 = .ok (.invokevirtual 41, 3) := by decide +kernel
theorem dL_law_247 : decode cL_law 247 = .ok (.if_icmp .eq 183, 3) := by decide +kernel
theorem dL_law_250 : decode cL_law 250 = .ok (.iconst 0, 1) := by decide +kernel
theorem dL_law_251 : decode cL_law 251 = .ok (.ireturn, 1) := by decide +kernel
theorem dL_law_252 : decode cL_law 252 = .ok (.aload_n 1, 1) := by decide +kernel
theorem dL_law_253 : decode cL_law 253 = .ok (.aload_n 0, 1) := by decide +kernel
theorem dL_law_254 : decode cL_law 254 = .ok (.iload_n 3, 1) := by decide +kernel
theorem dL_law_255 : decode cL_law 255 = .ok (.iconst 1, 1) := by decide +kernel
theorem dL_law_256 : decode cL_law 256 = .ok (.iadd, 1) := by decide +kernel
theorem dL_law_257 : decode cL_law 257 = .ok (.iaload, 1) := by decide +kernel
theorem dL_law_258 : decode cL_law 258 = .ok (.aload_n 0, 1) := by decide +kernel
theorem dL_law_259 : decode cL_law 259 = .ok (.iload_n 3, 1) := by decide +kernel
theorem dL_law_260 : decode cL_law 260 = .ok (.iconst 2, 1) := by decide +kernel
theorem dL_law_261 : decode cL_law 261 = .ok (.iadd, 1) := by decide +kernel
theorem dL_law_262 : decode cL_law 262 = .ok (.iaload, 1) := by decide +kernel
theorem dL_law_263 : decode cL_law 263 = .ok (.i2l, 1) := by decide +kernel
theorem dL_law_264 : decode cL_law 264 = .ok (.bipush 32, 2) := by decide +kernel
theorem dL_law_266 : decode cL_law 266 = .ok (.lshl, 1) := by decide +kernel
theorem dL_law_267 : decode cL_law 267 = .ok (.aload_n 0, 1) := by decide +kernel
theorem dL_law_268 : decode cL_law 268 = .ok (.iload_n 3, 1) := by decide +kernel
theorem dL_law_269 : decode cL_law 269 = .ok (.iconst 3, 1) := by decide +kernel
theorem dL_law_270 : decode cL_law 270 = .ok (.iadd, 1) := by decide +kernel
theorem dL_law_271 : decode cL_law 271 = .ok (.iaload, 1) := by decide +kernel
theorem dL_law_272 : decode cL_law 272 = .ok (.i2l, 1) := by decide +kernel
theorem dL_law_273 : decode cL_law 273 = .ok (.ldc2_w 42, 3) := by decide +kernel
theorem dL_law_276 : decode cL_law 276 = .ok (.land, 1) := by decide +kernel
theorem dL_law_277 : decode cL_law 277 = .ok (.lor, 1) := by decide +kernel
theorem dL_law_278 : decode cL_law 278 = .ok (.invokevirtual 44, 3) := by decide +kernel
theorem dL_law_281 : decode cL_law 281 = .ok (.aload_n 2, 1) := by decide +kernel
theorem dL_law_282 : decode cL_law 282 = .ok (.aload_n 0, 1) := by decide +kernel
theorem dL_law_283 : decode cL_law 283 = .ok (.iload_n 3, 1) := by decide +kernel
theorem dL_law_284 : decode cL_law 284 = .ok (.iconst 1, 1) := by decide +kernel
theorem dL_law_285 : decode cL_law 285 = .ok (.iadd, 1) := by decide +kernel
theorem dL_law_286 : decode cL_law 286 = .ok (.iaload, 1) := by decide +kernel
theorem dL_law_287 : decode cL_law 287 = .ok (.aload_n 0, 1) := by decide +kernel
theorem dL_law_288 : decode cL_law 288 = .ok (.iload_n 3, 1) := by decide +kernel
theorem dL_law_289 : decode cL_law 289 = .ok (.iconst 2, 1) := by decide +kernel
theorem dL_law_290 : decode cL_law 290 = .ok (.iadd, 1) := by decide +kernel
theorem dL_law_291 : decode cL_law 291 = .ok (.iaload, 1) := by decide +kernel
theorem dL_law_292 : decode cL_law 292 = .ok (.i2l, 1) := by decide +kernel
theorem dL_law_293 : decode cL_law 293 = .ok (.bipush 32, 2) := by decide +kernel
theorem dL_law_295 : decode cL_law 295 = .ok (.lshl, 1) := by decide +kernel
theorem dL_law_296 : decode cL_law 296 = .ok (.aload_n 0, 1) := by decide +kernel
theorem dL_law_297 : decode cL_law 297 = .ok (.iload_n 3, 1) := by decide +kernel
theorem dL_law_298 : decode cL_law 298 = .ok (.iconst 3, 1) := by decide +kernel
theorem dL_law_299 : decode cL_law 299 = .ok (.iadd, 1) := by decide +kernel
theorem dL_law_300 : decode cL_law 300 = .ok (.iaload, 1) := by decide +kernel
theorem dL_law_301 : decode cL_law 301 = .ok (.i2l, 1) := by decide +kernel
theorem dL_law_302 : decode cL_law 302 = .ok (.ldc2_w 42, 3) := by decide +kernel
theorem dL_law_305 : decode cL_law 305 = .ok (.land, 1) := by decide +kernel
theorem dL_law_306 : decode cL_law 306 = .ok (.lor, 1) := by decide +kernel
theorem dL_law_307 : decode cL_law 307 = .ok (.invokevirtual 48, 3) := by decide +kernel
theorem dL_law_310 : decode cL_law 310 = .ok (.if_icmp .eq 120, 3) := by decide +kernel
theorem dL_law_313 : decode cL_law 313 = .ok (.iconst 0, 1) := by decide +kernel
theorem dL_law_314 : decode cL_law 314 = .ok (.ireturn, 1) := by decide +kernel
theorem dL_law_315 : decode cL_law 315 = .ok (.aload_n 1, 1) := by decide +kernel
theorem dL_law_316 : decode cL_law 316 = .ok (.aload_n 0, 1) := by decide +kernel
theorem dL_law_317 : decode cL_law 317 = .ok (.iload_n 3, 1) := by decide +kernel
theorem dL_law_318 : decode cL_law 318 = .ok (.iconst 1, 1) := by decide +kernel
theorem dL_law_319 : decode cL_law 319 = .ok (.iadd, 1) := by decide +kernel
theorem dL_law_320 : decode cL_law 320 = .ok (.iaload, 1) := by decide +kernel
theorem dL_law_321 : decode cL_law 321 = .ok (.invokevirtual 49, 3) := by decide +kernel
theorem dL_law_324 : decode cL_law 324 = .ok (.aload_n 2, 1) := by decide +kernel
theorem dL_law_325 : decode cL_law 325 = .ok (.aload_n 0, 1) := by decide +kernel
theorem dL_law_326 : decode cL_law 326 = .ok (.iload_n 3, 1) := by decide +kernel
theorem dL_law_327 : decode cL_law 327 = .ok (.iconst 1, 1) := by decide +kernel
theorem dL_law_328 : decode cL_law 328 = .ok (.iadd, 1) := by decide +kernel
theorem dL_law_329 : decode cL_law 329 = .ok (.iaload, 1) := by decide +kernel
theorem dL_law_330 : decode cL_law 330 = .ok (.invokevirtual 53, 3) := by decide +kernel
theorem dL_law_333 : decode cL_law 333 = .ok (.if_icmp .eq 97, 3) := by decide +kernel
theorem dL_law_336 : decode cL_law 336 = .ok (.iconst 0, 1) := by decide +kernel
theorem dL_law_337 : decode cL_law 337 = .ok (.ireturn, 1) := by decide +kernel
theorem dL_law_338 : decode cL_law 338 = .ok (.aload_n 1, 1) := by decide +kernel
theorem dL_law_339 : decode cL_law 339 = .ok (.aload_n 0, 1) := by decide +kernel
theorem dL_law_340 : decode cL_law 340 = .ok (.iload_n 3, 1) := by decide +kernel
theorem dL_law_341 : decode cL_law 341 = .ok (.iconst 1, 1) := by decide +kernel
theorem dL_law_342 : decode cL_law 342 = .ok (.iadd, 1) := by decide +kernel
theorem dL_law_343 : decode cL_law 343 = .ok (.iaload, 1) := by decide +kernel
theorem dL_law_344 : decode cL_law 344 = .ok (.aload_n 0, 1) := by decide +kernel
theorem dL_law_345 : decode cL_law 345 = .ok (.iload_n 3, 1) := by decide +kernel
theorem dL_law_346 : decode cL_law 346 = .ok (.iconst 2, 1) := by decide +kernel
theorem dL_law_347 : decode cL_law 347 = .ok (.iadd, 1) := by decide +kernel
theorem dL_law_348 : decode cL_law 348 = .ok (.iaload, 1) := by decide +kernel
theorem dL_law_349 : decode cL_law 349 = .ok (.invokevirtual 54, 3) := by decide +kernel
theorem dL_law_352 : decode cL_law 352 = .ok (.aload_n 2, 1) := by decide +kernel
theorem dL_law_353 : decode cL_law 353 = .ok (.aload_n 0, 1) := by decide +kernel
theorem dL_law_354 : decode cL_law 354 = .ok (.iload_n 3, 1) := by decide +kernel
theorem dL_law_355 : decode cL_law 355 = .ok (.iconst 1, 1) := by decide +kernel
theorem dL_law_356 : decode cL_law 356 = .ok (.iadd, 1) := by decide +kernel
theorem dL_law_357 : decode cL_law 357 = .ok (.iaload, 1) := by decide +kernel
theorem dL_law_358 : decode cL_law 358 = .ok (.aload_n 0, 1) := by decide +kernel
theorem dL_law_359 : decode cL_law 359 = .ok (.iload_n 3, 1) := by decide +kernel
theorem dL_law_360 : decode cL_law 360 = .ok (.iconst 2, 1) := by decide +kernel
theorem dL_law_361 : decode cL_law 361 = .ok (.iadd, 1) := by decide +kernel
theorem dL_law_362 : decode cL_law 362 = .ok (.iaload, 1) := by decide +kernel
theorem dL_law_363 : decode cL_law 363 = .ok (.invokevirtual 57, 3) := by decide +kernel
theorem dL_law_366 : decode cL_law 366 = .ok (.if_icmp .eq 64, 3) := by decide +kernel
theorem dL_law_369 : decode cL_law 369 = .ok (.iconst 0, 1) := by decide +kernel
theorem dL_law_370 : decode cL_law 370 = .ok (.ireturn, 1) := by decide +kernel
theorem dL_law_371 : decode cL_law 371 = .ok (.aload_n 1, 1) := by decide +kernel
theorem dL_law_372 : decode cL_law 372 = .ok (.aload_n 0, 1) := by decide +kernel
theorem dL_law_373 : decode cL_law 373 = .ok (.iload_n 3, 1) := by decide +kernel
theorem dL_law_374 : decode cL_law 374 = .ok (.iconst 1, 1) := by decide +kernel
theorem dL_law_375 : decode cL_law 375 = .ok (.iadd, 1) := by decide +kernel
theorem dL_law_376 : decode cL_law 376 = .ok (.iaload, 1) := by decide +kernel
theorem dL_law_377 : decode cL_law 377 = .ok (.invokevirtual 58, 3) := by decide +kernel
theorem dL_law_380 : decode cL_law 380 = .ok (.aload_n 2, 1) := by decide +kernel
theorem dL_law_381 : decode cL_law 381 = .ok (.aload_n 0, 1) := by decide +kernel
theorem dL_law_382 : decode cL_law 382 = .ok (.iload_n 3, 1) := by decide +kernel
theorem dL_law_383 : decode cL_law 383 = .ok (.iconst 1, 1) := by decide +kernel
theorem dL_law_384 : decode cL_law 384 = .ok (.iadd, 1) := by decide +kernel
theorem dL_law_385 : decode cL_law 385 = .ok (.iaload, 1) := by decide +kernel
theorem dL_law_386 : decode cL_law 386 = .ok (.invokevirtual 61, 3) := by decide +kernel
theorem dL_law_389 : decode cL_law 389 = .ok (.if_icmp .eq 41, 3) := by decide +kernel
theorem dL_law_392 : decode cL_law 392 = .ok (.iconst 0, 1) := by decide +kernel
theorem dL_law_393 : decode cL_law 393 = .ok (.ireturn, 1) := by decide +kernel
theorem dL_law_394 : decode cL_law 394 = .ok (.aload_n 1, 1) := by decide +kernel
theorem dL_law_395 : decode cL_law 395 = .ok (.aload_n 0, 1) := by decide +kernel
theorem dL_law_396 : decode cL_law 396 = .ok (.iload_n 3, 1) := by decide +kernel
theorem dL_law_397 : decode cL_law 397 = .ok (.iconst 1, 1) := by decide +kernel
theorem dL_law_398 : decode cL_law 398 = .ok (.iadd, 1) := by decide +kernel
theorem dL_law_399 : decode cL_law 399 = .ok (.iaload, 1) := by decide +kernel
theorem dL_law_400 : decode cL_law 400 = .ok (.invokevirtual 62, 3) := by decide +kernel
theorem dL_law_403 : decode cL_law 403 = .ok (.aload_n 2, 1) := by decide +kernel
theorem dL_law_404 : decode cL_law 404 = .ok (.aload_n 0, 1) := by decide +kernel
theorem dL_law_405 : decode cL_law 405 = .ok (.iload_n 3, 1) := by decide +kernel
theorem dL_law_406 : decode cL_law 406 = .ok (.iconst 1, 1) := by decide +kernel
theorem dL_law_407 : decode cL_law 407 = .ok (.iadd, 1) := by decide +kernel
theorem dL_law_408 : decode cL_law 408 = .ok (.iaload, 1) := by decide +kernel
theorem dL_law_409 : decode cL_law 409 = .ok (.invokevirtual 65, 3) := by decide +kernel
theorem dL_law_412 : decode cL_law 412 = .ok (.if_icmp .eq 18, 3) := by decide +kernel
theorem dL_law_415 : decode cL_law 415 = .ok (.iconst 0, 1) := by decide +kernel
theorem dL_law_416 : decode cL_law 416 = .ok (.ireturn, 1) := by decide +kernel
theorem dL_law_417 : decode cL_law 417 = .ok (.aload_n 1, 1) := by decide +kernel
theorem dL_law_418 : decode cL_law 418 = .ok (.invokevirtual 66, 3) := by decide +kernel
theorem dL_law_421 : decode cL_law 421 = .ok (.aload_n 2, 1) := by decide +kernel
theorem dL_law_422 : decode cL_law 422 = .ok (.invokevirtual 69, 3) := by decide +kernel
theorem dL_law_425 : decode cL_law 425 = .ok (.if_icmp .eq 5, 3) := by decide +kernel
theorem dL_law_428 : decode cL_law 428 = .ok (.iconst 0, 1) := by decide +kernel
theorem dL_law_429 : decode cL_law 429 = .ok (.ireturn, 1) := by decide +kernel
theorem dL_law_430 : decode cL_law 430 = .ok (.iinc 3 4, 3) := by decide +kernel
theorem dL_law_433 : decode cL_law 433 = .ok (.goto (-415), 3) := by decide +kernel
theorem dL_law_436 : decode cL_law 436 = .ok (.iconst 1, 1) := by decide +kernel
theorem dL_law_437 : decode cL_law 437 = .ok (.ireturn, 1) := by decide +kernel
