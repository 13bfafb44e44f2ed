/-! Names of the reference, by a program of my own (the printed names stop at its fifth field). -/
def TY2 : u_T := fun k => match k with
  | 0 => ("CarThreadsModel", "code", "I", false)
  | 1 => ("CarThreadsModel", "nodes", "I", false)
  | 2 => ("CarThreadsModel", "steps", "[I", true)
  | 3 => ("CarThreadsModel", "failsAt", "[I", true)
  | 4 => ("CarThreadsModel", "done", "[I", true)
  | 5 => ("CarThreadsModel", "ended", "[Z", true)
  | 6 => ("CarThreadsModel", "safe", "[Z", true)
  | 7 => ("CarThreadsModel", "interrupted", "[Z", true)
  | 8 => ("CarThreadsModel", "finished", "[I", true)
  | 9 => ("CarThreadsModel", "cutAt", "[J", true)
  | 10 => ("CarThreadsModel", "ready", "[Z", true)
  | 11 => ("CarThreadsModel", "waits", "[I", true)
  | 12 => ("CarThreadsModel", "holder", "[I", true)
  | 13 => ("CarThreadsModel", "barrier", "I", false)
  | 14 => ("CarThreadsModel", "now", "J", false)
  | 15 => ("CarThreadsModel", "entries", "I", false)
  | _ => ("CarThreadsModel", "entry", "[I", true)
def tyY2 : Nat → FieldType := fun k => match k with
  | 0 => .int
  | 1 => .int
  | 2 => .array .int
  | 3 => .array .int
  | 4 => .array .int
  | 5 => .array .boolean
  | 6 => .array .boolean
  | 7 => .array .boolean
  | 8 => .array .int
  | 9 => .array .long
  | 10 => .array .boolean
  | 11 => .array .int
  | 12 => .array .int
  | 13 => .int
  | 14 => .long
  | 15 => .int
  | _ => .array .int
abbrev wsY20 : List Cond := u_ws RX2 TY2 17
theorem nmY2 : ∀ a, a < 17 → ∀ b, b < 17 → a ≠ b → (TY2 a).2.1 ≠ (TY2 b).2.1 := by decide +kernel
theorem tyY2_ok : ∀ k, k < 17 → parseFieldDescriptor (TY2 k).2.2.1 = some (tyY2 k) := by decide +kernel
abbrev cY2_init : ByteArray := prog_4_method_1_code
def yY2_init : MethodName := ⟨RX2, "<init>", "()V"⟩
abbrev cY2_none : ByteArray := prog_4_method_3_code
def yY2_none : MethodName := ⟨RX2, "none", "(I)Z"⟩
abbrev cY2_node : ByteArray := prog_4_method_4_code
def yY2_node : MethodName := ⟨RX2, "node", "(II)I"⟩
abbrev cY2_waits : ByteArray := prog_4_method_5_code
def yY2_waits : MethodName := ⟨RX2, "waits", "(III)Z"⟩
abbrev cY2_turn : ByteArray := prog_4_method_6_code
def yY2_turn : MethodName := ⟨RX2, "turn", "(I)V"⟩
abbrev cY2_end : ByteArray := prog_4_method_7_code
def yY2_end : MethodName := ⟨RX2, "end", "(I)V"⟩
abbrev cY2_mayGo : ByteArray := prog_4_method_8_code
def yY2_mayGo : MethodName := ⟨RX2, "mayGo", "(I)Z"⟩
abbrev cY2_begin : ByteArray := prog_4_method_9_code
def yY2_begin : MethodName := ⟨RX2, "begin", "()Z"⟩
abbrev cY2_step : ByteArray := prog_4_method_10_code
def yY2_step : MethodName := ⟨RX2, "step", "(I)V"⟩
abbrev cY2_run : ByteArray := prog_4_method_11_code
def yY2_run : MethodName := ⟨RX2, "run", "()I"⟩
abbrev cY2_log : ByteArray := prog_4_method_12_code
def yY2_log : MethodName := ⟨RX2, "log", "(I)I"⟩
abbrev cY2_safe : ByteArray := prog_4_method_13_code
def yY2_safe : MethodName := ⟨RX2, "safe", "(I)I"⟩
abbrev cY2_cut : ByteArray := prog_4_method_14_code
def yY2_cut : MethodName := ⟨RX2, "cut", "(IJ)I"⟩
abbrev cY2_interrupt : ByteArray := prog_4_method_15_code
def yY2_interrupt : MethodName := ⟨RX2, "interrupt", "(I)Z"⟩
abbrev cY2_holds : ByteArray := prog_4_method_16_code
def yY2_holds : MethodName := ⟨RX2, "holds", "(I)I"⟩
abbrev cY2_held : ByteArray := prog_4_method_17_code
def yY2_held : MethodName := ⟨RX2, "held", "(II)I"⟩
abbrev cY2_barrier : ByteArray := prog_4_method_18_code
def yY2_barrier : MethodName := ⟨RX2, "barrier", "(I)I"⟩
abbrev cY2_finished : ByteArray := prog_4_method_19_code
def yY2_finished : MethodName := ⟨RX2, "finished", "(I)I"⟩
abbrev cY2_close : ByteArray := prog_4_method_20_code
def yY2_close : MethodName := ⟨RX2, "close", "()I"⟩
def wsY2_none : List Cond := .code yY2_none cY2_none 2 (some .boolean) :: ([.fieldLink RX2 48 "CarThreadsModel" "code" "I", .fieldLink RX2 52 "CarThreadsModel" "nodes" "I"] ++ wsY20)
def wsY2_node : List Cond := .code yY2_node cY2_node 3 (some .int) :: ([.fieldLink RX2 48 "CarThreadsModel" "code" "I", .fieldLink RX2 52 "CarThreadsModel" "nodes" "I", .fieldLink RX2 7 "CarThreadsModel" "steps" "[I", .fieldLink RX2 13 "CarThreadsModel" "failsAt" "[I", .fieldLink RX2 32 "CarThreadsModel" "cutAt" "[J", .constantLong RX2 55 (-1)] ++ wsY20)
def wsY2_waits : List Cond := .code yY2_waits cY2_waits 4 (some .boolean) :: ([.fieldLink RX2 19 "CarThreadsModel" "ended" "[Z", .fieldLink RX2 16 "CarThreadsModel" "done" "[I", .fieldLink RX2 7 "CarThreadsModel" "steps" "[I", .fieldLink RX2 39 "CarThreadsModel" "waits" "[I", .methodLink RX2 57 yY2_none, .instanceMethod yY2_none, .selects RX2 yY2_none yY2_none, .initialized RX2, .code yY2_none cY2_none 2 (some .boolean), .fieldLink RX2 48 "CarThreadsModel" "code" "I", .fieldLink RX2 52 "CarThreadsModel" "nodes" "I"] ++ wsY20)
def wsY2_turn : List Cond := .code yY2_turn cY2_turn 2 none :: ([.fieldLink RX2 48 "CarThreadsModel" "code" "I"] ++ wsY20)
def wsY2_end : List Cond := .code yY2_end cY2_end 3 none :: ([.fieldLink RX2 19 "CarThreadsModel" "ended" "[Z", .fieldLink RX2 29 "CarThreadsModel" "finished" "[I", .fieldLink RX2 42 "CarThreadsModel" "holder" "[I"] ++ wsY20)
def wsY2_mayGo : List Cond := .code yY2_mayGo cY2_mayGo 5 (some .boolean) :: ([.fieldLink RX2 19 "CarThreadsModel" "ended" "[Z", .fieldLink RX2 39 "CarThreadsModel" "waits" "[I", .fieldLink RX2 16 "CarThreadsModel" "done" "[I", .fieldLink RX2 61 "CarThreadsModel" "barrier" "I", .fieldLink RX2 52 "CarThreadsModel" "nodes" "I"] ++ wsY20)
def wsY2_begin : List Cond := .code yY2_begin cY2_begin 3 (some .boolean) :: ([.fieldLink RX2 52 "CarThreadsModel" "nodes" "I", .fieldLink RX2 19 "CarThreadsModel" "ended" "[Z", .fieldLink RX2 32 "CarThreadsModel" "cutAt" "[J", .fieldLink RX2 64 "CarThreadsModel" "now" "J", .fieldLink RX2 36 "CarThreadsModel" "ready" "[Z", .methodLink RX2 68 yY2_end, .instanceMethod yY2_end, .selects RX2 yY2_end yY2_end, .initialized RX2, .code yY2_end cY2_end 3 none, .fieldLink RX2 29 "CarThreadsModel" "finished" "[I", .fieldLink RX2 42 "CarThreadsModel" "holder" "[I", .methodLink RX2 72 yY2_mayGo, .instanceMethod yY2_mayGo, .selects RX2 yY2_mayGo yY2_mayGo, .code yY2_mayGo cY2_mayGo 5 (some .boolean), .fieldLink RX2 39 "CarThreadsModel" "waits" "[I", .fieldLink RX2 16 "CarThreadsModel" "done" "[I", .fieldLink RX2 61 "CarThreadsModel" "barrier" "I"] ++ wsY20)
def wsY2_step : List Cond := .code yY2_step cY2_step 2 none :: ([.fieldLink RX2 16 "CarThreadsModel" "done" "[I", .fieldLink RX2 13 "CarThreadsModel" "failsAt" "[I", .fieldLink RX2 23 "CarThreadsModel" "safe" "[Z", .fieldLink RX2 75 "CarThreadsModel" "entries" "I", .fieldLink RX2 45 "CarThreadsModel" "entry" "[I", .fieldLink RX2 26 "CarThreadsModel" "interrupted" "[Z", .fieldLink RX2 7 "CarThreadsModel" "steps" "[I", .methodLink RX2 68 yY2_end, .instanceMethod yY2_end, .selects RX2 yY2_end yY2_end, .initialized RX2, .code yY2_end cY2_end 3 none, .fieldLink RX2 19 "CarThreadsModel" "ended" "[Z", .fieldLink RX2 29 "CarThreadsModel" "finished" "[I", .fieldLink RX2 42 "CarThreadsModel" "holder" "[I"] ++ wsY20)
def wsY2_run : List Cond := .code yY2_run cY2_run 3 (some .int) :: ([.fieldLink RX2 48 "CarThreadsModel" "code" "I", .fieldLink RX2 52 "CarThreadsModel" "nodes" "I", .fieldLink RX2 36 "CarThreadsModel" "ready" "[Z", .fieldLink RX2 64 "CarThreadsModel" "now" "J", .methodLink RX2 78 yY2_begin, .instanceMethod yY2_begin, .selects RX2 yY2_begin yY2_begin, .initialized RX2, .code yY2_begin cY2_begin 3 (some .boolean), .fieldLink RX2 19 "CarThreadsModel" "ended" "[Z", .fieldLink RX2 32 "CarThreadsModel" "cutAt" "[J", .methodLink RX2 68 yY2_end, .instanceMethod yY2_end, .selects RX2 yY2_end yY2_end, .code yY2_end cY2_end 3 none, .fieldLink RX2 29 "CarThreadsModel" "finished" "[I", .fieldLink RX2 42 "CarThreadsModel" "holder" "[I", .methodLink RX2 72 yY2_mayGo, .instanceMethod yY2_mayGo, .selects RX2 yY2_mayGo yY2_mayGo, .code yY2_mayGo cY2_mayGo 5 (some .boolean), .fieldLink RX2 39 "CarThreadsModel" "waits" "[I", .fieldLink RX2 16 "CarThreadsModel" "done" "[I", .fieldLink RX2 61 "CarThreadsModel" "barrier" "I", .methodLink RX2 82 yY2_step, .instanceMethod yY2_step, .selects RX2 yY2_step yY2_step, .code yY2_step cY2_step 2 none, .fieldLink RX2 13 "CarThreadsModel" "failsAt" "[I", .fieldLink RX2 23 "CarThreadsModel" "safe" "[Z", .fieldLink RX2 75 "CarThreadsModel" "entries" "I", .fieldLink RX2 45 "CarThreadsModel" "entry" "[I", .fieldLink RX2 26 "CarThreadsModel" "interrupted" "[Z", .fieldLink RX2 7 "CarThreadsModel" "steps" "[I"] ++ wsY20)
def wsY2_log : List Cond := .code yY2_log cY2_log 2 (some .int) :: ([.fieldLink RX2 48 "CarThreadsModel" "code" "I", .fieldLink RX2 75 "CarThreadsModel" "entries" "I", .fieldLink RX2 45 "CarThreadsModel" "entry" "[I"] ++ wsY20)
def wsY2_safe : List Cond := .code yY2_safe cY2_safe 2 (some .int) :: ([.fieldLink RX2 23 "CarThreadsModel" "safe" "[Z", .methodLink RX2 57 yY2_none, .instanceMethod yY2_none, .selects RX2 yY2_none yY2_none, .initialized RX2, .code yY2_none cY2_none 2 (some .boolean), .fieldLink RX2 48 "CarThreadsModel" "code" "I", .fieldLink RX2 52 "CarThreadsModel" "nodes" "I"] ++ wsY20)
def wsY2_cut : List Cond := .code yY2_cut cY2_cut 4 (some .int) :: ([.fieldLink RX2 64 "CarThreadsModel" "now" "J", .fieldLink RX2 19 "CarThreadsModel" "ended" "[Z", .fieldLink RX2 32 "CarThreadsModel" "cutAt" "[J", .methodLink RX2 57 yY2_none, .instanceMethod yY2_none, .selects RX2 yY2_none yY2_none, .initialized RX2, .code yY2_none cY2_none 2 (some .boolean), .fieldLink RX2 48 "CarThreadsModel" "code" "I", .fieldLink RX2 52 "CarThreadsModel" "nodes" "I"] ++ wsY20)
def wsY2_interrupt : List Cond := .code yY2_interrupt cY2_interrupt 2 (some .boolean) :: ([.fieldLink RX2 19 "CarThreadsModel" "ended" "[Z", .fieldLink RX2 26 "CarThreadsModel" "interrupted" "[Z", .methodLink RX2 57 yY2_none, .instanceMethod yY2_none, .selects RX2 yY2_none yY2_none, .initialized RX2, .code yY2_none cY2_none 2 (some .boolean), .fieldLink RX2 48 "CarThreadsModel" "code" "I", .fieldLink RX2 52 "CarThreadsModel" "nodes" "I"] ++ wsY20)
def wsY2_holds : List Cond := .code yY2_holds cY2_holds 4 (some .int) :: ([.fieldLink RX2 42 "CarThreadsModel" "holder" "[I"] ++ wsY20)
def wsY2_held : List Cond := .code yY2_held cY2_held 3 (some .int) :: ([.fieldLink RX2 19 "CarThreadsModel" "ended" "[Z", .fieldLink RX2 42 "CarThreadsModel" "holder" "[I", .methodLink RX2 57 yY2_none, .instanceMethod yY2_none, .selects RX2 yY2_none yY2_none, .initialized RX2, .code yY2_none cY2_none 2 (some .boolean), .fieldLink RX2 48 "CarThreadsModel" "code" "I", .fieldLink RX2 52 "CarThreadsModel" "nodes" "I", .methodLink RX2 85 yY2_holds, .instanceMethod yY2_holds, .selects RX2 yY2_holds yY2_holds, .code yY2_holds cY2_holds 4 (some .int)] ++ wsY20)
def wsY2_barrier : List Cond := .code yY2_barrier cY2_barrier 3 (some .int) :: ([.fieldLink RX2 48 "CarThreadsModel" "code" "I", .fieldLink RX2 61 "CarThreadsModel" "barrier" "I"] ++ wsY20)
def wsY2_finished : List Cond := .code yY2_finished cY2_finished 2 (some .int) :: ([.fieldLink RX2 29 "CarThreadsModel" "finished" "[I", .methodLink RX2 57 yY2_none, .instanceMethod yY2_none, .selects RX2 yY2_none yY2_none, .initialized RX2, .code yY2_none cY2_none 2 (some .boolean), .fieldLink RX2 48 "CarThreadsModel" "code" "I", .fieldLink RX2 52 "CarThreadsModel" "nodes" "I"] ++ wsY20)
def wsY2_close : List Cond := .code yY2_close cY2_close 3 (some .int) :: ([.fieldLink RX2 48 "CarThreadsModel" "code" "I", .fieldLink RX2 52 "CarThreadsModel" "nodes" "I", .fieldLink RX2 19 "CarThreadsModel" "ended" "[Z", .methodLink RX2 68 yY2_end, .instanceMethod yY2_end, .selects RX2 yY2_end yY2_end, .initialized RX2, .code yY2_end cY2_end 3 none, .fieldLink RX2 29 "CarThreadsModel" "finished" "[I", .fieldLink RX2 42 "CarThreadsModel" "holder" "[I"] ++ wsY20)
def wsY2_init : List Cond := .code yY2_init cY2_init 1 none :: ([.methodLink RX2 1 objectInit, .instanceMethod objectInit, .code objectInit ⟨#[0xb1]⟩ 1 none, .arrayClass .int, .fieldLink RX2 7 "CarThreadsModel" "steps" "[I", .fieldLink RX2 13 "CarThreadsModel" "failsAt" "[I", .fieldLink RX2 16 "CarThreadsModel" "done" "[I", .arrayClass .boolean, .fieldLink RX2 19 "CarThreadsModel" "ended" "[Z", .fieldLink RX2 23 "CarThreadsModel" "safe" "[Z", .fieldLink RX2 26 "CarThreadsModel" "interrupted" "[Z", .fieldLink RX2 29 "CarThreadsModel" "finished" "[I", .arrayClass .long, .fieldLink RX2 32 "CarThreadsModel" "cutAt" "[J", .fieldLink RX2 36 "CarThreadsModel" "ready" "[Z", .fieldLink RX2 39 "CarThreadsModel" "waits" "[I", .fieldLink RX2 42 "CarThreadsModel" "holder" "[I", .fieldLink RX2 45 "CarThreadsModel" "entry" "[I"] ++ wsY20)
theorem dY2_none_0 : decode cY2_none 0 = .ok (.aload_n 0, 1) := by decide +kernel
theorem dY2_none_1 : decode cY2_none 1 = .ok (.iconst 0, 1) := by decide +kernel
theorem dY2_none_2 : decode cY2_none 2 = .ok (.putfield 48, 3) := by decide +kernel
theorem dY2_none_5 : decode cY2_none 5 = .ok (.iload_n 1, 1) := by decide +kernel
theorem dY2_none_6 : decode cY2_none 6 = .ok (.iconst 1, 1) := by decide +kernel
theorem dY2_none_7 : decode cY2_none 7 = .ok (.if_icmp .lt 11, 3) := by decide +kernel
theorem dY2_none_10 : decode cY2_none 10 = .ok (.iload_n 1, 1) := by decide +kernel
theorem dY2_none_11 : decode cY2_none 11 = .ok (.aload_n 0, 1) := by decide +kernel
theorem dY2_none_12 : decode cY2_none 12 = .ok (.getfield 52, 3) := by decide +kernel
theorem dY2_none_15 : decode cY2_none 15 = .ok (.if_icmp .le 7, 3) := by decide +kernel
theorem dY2_none_18 : decode cY2_none 18 = .ok (.iconst 1, 1) := by decide +kernel
theorem dY2_none_19 : decode cY2_none 19 = .ok (.goto 4, 3) := by decide +kernel
theorem dY2_none_22 : decode cY2_none 22 = .ok (.iconst 0, 1) := by decide +kernel
theorem dY2_none_23 : decode cY2_none 23 = .ok (.ireturn, 1) := by decide +kernel
theorem dY2_node_0 : decode cY2_node 0 = .ok (.aload_n 0, 1) := by decide +kernel
theorem dY2_node_1 : decode cY2_node 1 = .ok (.iconst 0, 1) := by decide +kernel
theorem dY2_node_2 : decode cY2_node 2 = .ok (.putfield 48, 3) := by decide +kernel
theorem dY2_node_5 : decode cY2_node 5 = .ok (.iload_n 1, 1) := by decide +kernel
theorem dY2_node_6 : decode cY2_node 6 = .ok (.iconst 1, 1) := by decide +kernel
theorem dY2_node_7 : decode cY2_node 7 = .ok (.if_icmp .lt 19, 3) := by decide +kernel
theorem dY2_node_10 : decode cY2_node 10 = .ok (.iload_n 1, 1) := by decide +kernel
theorem dY2_node_11 : decode cY2_node 11 = .ok (.sipush 200, 3) := by decide +kernel
theorem dY2_node_14 : decode cY2_node 14 = .ok (.if_icmp .gt 12, 3) := by decide +kernel
theorem dY2_node_17 : decode cY2_node 17 = .ok (.iload_n 2, 1) := by decide +kernel
theorem dY2_node_18 : decode cY2_node 18 = .ok (.ifCond .lt 8, 3) := by decide +kernel
theorem dY2_node_21 : decode cY2_node 21 = .ok (.iload_n 2, 1) := by decide +kernel
theorem dY2_node_22 : decode cY2_node 22 = .ok (.iload_n 1, 1) := by decide +kernel
theorem dY2_node_23 : decode cY2_node 23 = .ok (.if_icmp .le 6, 3) := by decide +kernel
theorem dY2_node_26 : decode cY2_node 26 = .ok (.bipush (-2), 2) := by decide +kernel
theorem dY2_node_28 : decode cY2_node 28 = .ok (.ireturn, 1) := by decide +kernel
theorem dY2_node_29 : decode cY2_node 29 = .ok (.aload_n 0, 1) := by decide +kernel
theorem dY2_node_30 : decode cY2_node 30 = .ok (.getfield 52, 3) := by decide +kernel
theorem dY2_node_33 : decode cY2_node 33 = .ok (.bipush 30, 2) := by decide +kernel
theorem dY2_node_35 : decode cY2_node 35 = .ok (.if_icmp .ne 6, 3) := by decide +kernel
theorem dY2_node_38 : decode cY2_node 38 = .ok (.bipush (-4), 2) := by decide +kernel
theorem dY2_node_40 : decode cY2_node 40 = .ok (.ireturn, 1) := by decide +kernel
theorem dY2_node_41 : decode cY2_node 41 = .ok (.aload_n 0, 1) := by decide +kernel
theorem dY2_node_42 : decode cY2_node 42 = .ok (.dup, 1) := by decide +kernel
theorem dY2_node_43 : decode cY2_node 43 = .ok (.getfield 52, 3) := by decide +kernel
theorem dY2_node_46 : decode cY2_node 46 = .ok (.iconst 1, 1) := by decide +kernel
theorem dY2_node_47 : decode cY2_node 47 = .ok (.iadd, 1) := by decide +kernel
theorem dY2_node_48 : decode cY2_node 48 = .ok (.putfield 52, 3) := by decide +kernel
theorem dY2_node_51 : decode cY2_node 51 = .ok (.aload_n 0, 1) := by decide +kernel
theorem dY2_node_52 : decode cY2_node 52 = .ok (.getfield 7, 3) := by decide +kernel
theorem dY2_node_55 : decode cY2_node 55 = .ok (.aload_n 0, 1) := by decide +kernel
theorem dY2_node_56 : decode cY2_node 56 = .ok (.getfield 52, 3) := by decide +kernel
theorem dY2_node_59 : decode cY2_node 59 = .ok (.iload_n 1, 1) := by decide +kernel
theorem dY2_node_60 : decode cY2_node 60 = .ok (.iastore, 1) := by decide +kernel
theorem dY2_node_61 : decode cY2_node 61 = .ok (.aload_n 0, 1) := by decide +kernel
theorem dY2_node_62 : decode cY2_node 62 = .ok (.getfield 13, 3) := by decide +kernel
theorem dY2_node_65 : decode cY2_node 65 = .ok (.aload_n 0, 1) := by decide +kernel
theorem dY2_node_66 : decode cY2_node 66 = .ok (.getfield 52, 3) := by decide +kernel
theorem dY2_node_69 : decode cY2_node 69 = .ok (.iload_n 2, 1) := by decide +kernel
theorem dY2_node_70 : decode cY2_node 70 = .ok (.iastore, 1) := by decide +kernel
theorem dY2_node_71 : decode cY2_node 71 = .ok (.aload_n 0, 1) := by decide +kernel
theorem dY2_node_72 : decode cY2_node 72 = .ok (.getfield 32, 3) := by decide +kernel
theorem dY2_node_75 : decode cY2_node 75 = .ok (.aload_n 0, 1) := by decide +kernel
theorem dY2_node_76 : decode cY2_node 76 = .ok (.getfield 52, 3) := by decide +kernel
theorem dY2_node_79 : decode cY2_node 79 = .ok (.ldc2_w 55, 3) := by decide +kernel
theorem dY2_node_82 : decode cY2_node 82 = .ok (.lastore, 1) := by decide +kernel
theorem dY2_node_83 : decode cY2_node 83 = .ok (.aload_n 0, 1) := by decide +kernel
theorem dY2_node_84 : decode cY2_node 84 = .ok (.getfield 52, 3) := by decide +kernel
theorem dY2_node_87 : decode cY2_node 87 = .ok (.ireturn, 1) := by decide +kernel
theorem dY2_waits_0 : decode cY2_waits 0 = .ok (.aload_n 0, 1) := by decide +kernel
theorem dY2_waits_1 : decode cY2_waits 1 = .ok (.iload_n 1, 1) := by decide +kernel
theorem dY2_waits_2 : decode cY2_waits 2 = .ok (.invokevirtual 57, 3) := by decide +kernel
theorem dY2_waits_5 : decode cY2_waits 5 = .ok (.ifCond .ne 45, 3) := by decide +kernel
theorem dY2_waits_8 : decode cY2_waits 8 = .ok (.aload_n 0, 1) := by decide +kernel
theorem dY2_waits_9 : decode cY2_waits 9 = .ok (.iload_n 3, 1) := by decide +kernel
theorem dY2_waits_10 : decode cY2_waits 10 = .ok (.invokevirtual 57, 3) := by decide +kernel
theorem dY2_waits_13 : decode cY2_waits 13 = .ok (.ifCond .ne 37, 3) := by decide +kernel
theorem dY2_waits_16 : decode cY2_waits 16 = .ok (.iload_n 1, 1) := by decide +kernel
theorem dY2_waits_17 : decode cY2_waits 17 = .ok (.iload_n 3, 1) := by decide +kernel
theorem dY2_waits_18 : decode cY2_waits 18 = .ok (.if_icmp .eq 32, 3) := by decide +kernel
theorem dY2_waits_21 : decode cY2_waits 21 = .ok (.aload_n 0, 1) := by decide +kernel
theorem dY2_waits_22 : decode cY2_waits 22 = .ok (.getfield 19, 3) := by decide +kernel
theorem dY2_waits_25 : decode cY2_waits 25 = .ok (.iload_n 1, 1) := by decide +kernel
theorem dY2_waits_26 : decode cY2_waits 26 = .ok (.baload, 1) := by decide +kernel
theorem dY2_waits_27 : decode cY2_waits 27 = .ok (.ifCond .ne 23, 3) := by decide +kernel
theorem dY2_waits_30 : decode cY2_waits 30 = .ok (.iload_n 2, 1) := by decide +kernel
theorem dY2_waits_31 : decode cY2_waits 31 = .ok (.aload_n 0, 1) := by decide +kernel
theorem dY2_waits_32 : decode cY2_waits 32 = .ok (.getfield 16, 3) := by decide +kernel
theorem dY2_waits_35 : decode cY2_waits 35 = .ok (.iload_n 1, 1) := by decide +kernel
theorem dY2_waits_36 : decode cY2_waits 36 = .ok (.iaload, 1) := by decide +kernel
theorem dY2_waits_37 : decode cY2_waits 37 = .ok (.if_icmp .le 13, 3) := by decide +kernel
theorem dY2_waits_40 : decode cY2_waits 40 = .ok (.iload_n 2, 1) := by decide +kernel
theorem dY2_waits_41 : decode cY2_waits 41 = .ok (.aload_n 0, 1) := by decide +kernel
theorem dY2_waits_42 : decode cY2_waits 42 = .ok (.getfield 7, 3) := by decide +kernel
theorem dY2_waits_45 : decode cY2_waits 45 = .ok (.iload_n 1, 1) := by decide +kernel
theorem dY2_waits_46 : decode cY2_waits 46 = .ok (.iaload, 1) := by decide +kernel
theorem dY2_waits_47 : decode cY2_waits 47 = .ok (.if_icmp .le 5, 3) := by decide +kernel
theorem dY2_waits_50 : decode cY2_waits 50 = .ok (.iconst 0, 1) := by decide +kernel
theorem dY2_waits_51 : decode cY2_waits 51 = .ok (.ireturn, 1) := by decide +kernel
theorem dY2_waits_52 : decode cY2_waits 52 = .ok (.aload_n 0, 1) := by decide +kernel
theorem dY2_waits_53 : decode cY2_waits 53 = .ok (.getfield 39, 3) := by decide +kernel
theorem dY2_waits_56 : decode cY2_waits 56 = .ok (.sipush 201, 3) := by decide +kernel
theorem dY2_waits_59 : decode cY2_waits 59 = .ok (.iload_n 1, 1) := by decide +kernel
theorem dY2_waits_60 : decode cY2_waits 60 = .ok (.imul, 1) := by decide +kernel
theorem dY2_waits_61 : decode cY2_waits 61 = .ok (.iload_n 2, 1) := by decide +kernel
theorem dY2_waits_62 : decode cY2_waits 62 = .ok (.iadd, 1) := by decide +kernel
theorem dY2_waits_63 : decode cY2_waits 63 = .ok (.iload_n 3, 1) := by decide +kernel
theorem dY2_waits_64 : decode cY2_waits 64 = .ok (.iastore, 1) := by decide +kernel
theorem dY2_waits_65 : decode cY2_waits 65 = .ok (.iconst 1, 1) := by decide +kernel
theorem dY2_waits_66 : decode cY2_waits 66 = .ok (.ireturn, 1) := by decide +kernel
theorem dY2_turn_0 : decode cY2_turn 0 = .ok (.aload_n 0, 1) := by decide +kernel
theorem dY2_turn_1 : decode cY2_turn 1 = .ok (.iconst 0, 1) := by decide +kernel
theorem dY2_turn_2 : decode cY2_turn 2 = .ok (.putfield 48, 3) := by decide +kernel
theorem dY2_turn_5 : decode cY2_turn 5 = .ok (.return_, 1) := by decide +kernel
theorem dY2_end_0 : decode cY2_end 0 = .ok (.aload_n 0, 1) := by decide +kernel
theorem dY2_end_1 : decode cY2_end 1 = .ok (.getfield 19, 3) := by decide +kernel
theorem dY2_end_4 : decode cY2_end 4 = .ok (.iload_n 1, 1) := by decide +kernel
theorem dY2_end_5 : decode cY2_end 5 = .ok (.iconst 1, 1) := by decide +kernel
theorem dY2_end_6 : decode cY2_end 6 = .ok (.bastore, 1) := by decide +kernel
theorem dY2_end_7 : decode cY2_end 7 = .ok (.aload_n 0, 1) := by decide +kernel
theorem dY2_end_8 : decode cY2_end 8 = .ok (.getfield 29, 3) := by decide +kernel
theorem dY2_end_11 : decode cY2_end 11 = .ok (.iload_n 1, 1) := by decide +kernel
theorem dY2_end_12 : decode cY2_end 12 = .ok (.dup2, 1) := by decide +kernel
theorem dY2_end_13 : decode cY2_end 13 = .ok (.iaload, 1) := by decide +kernel
theorem dY2_end_14 : decode cY2_end 14 = .ok (.iconst 1, 1) := by decide +kernel
theorem dY2_end_15 : decode cY2_end 15 = .ok (.iadd, 1) := by decide +kernel
theorem dY2_end_16 : decode cY2_end 16 = .ok (.iastore, 1) := by decide +kernel
theorem dY2_end_17 : decode cY2_end 17 = .ok (.iconst 1, 1) := by decide +kernel
theorem dY2_end_18 : decode cY2_end 18 = .ok (.istore_n 2, 1) := by decide +kernel
theorem dY2_end_19 : decode cY2_end 19 = .ok (.iload_n 2, 1) := by decide +kernel
theorem dY2_end_20 : decode cY2_end 20 = .ok (.bipush 17, 2) := by decide +kernel
theorem dY2_end_22 : decode cY2_end 22 = .ok (.if_icmp .ge 35, 3) := by decide +kernel
theorem dY2_end_25 : decode cY2_end 25 = .ok (.aload_n 0, 1) := by decide +kernel
theorem dY2_end_26 : decode cY2_end 26 = .ok (.getfield 42, 3) := by decide +kernel
theorem dY2_end_29 : decode cY2_end 29 = .ok (.iload_n 2, 1) := by decide +kernel
theorem dY2_end_30 : decode cY2_end 30 = .ok (.aload_n 0, 1) := by decide +kernel
theorem dY2_end_31 : decode cY2_end 31 = .ok (.getfield 42, 3) := by decide +kernel
theorem dY2_end_34 : decode cY2_end 34 = .ok (.iload_n 2, 1) := by decide +kernel
theorem dY2_end_35 : decode cY2_end 35 = .ok (.iaload, 1) := by decide +kernel
theorem dY2_end_36 : decode cY2_end 36 = .ok (.iload_n 1, 1) := by decide +kernel
theorem dY2_end_37 : decode cY2_end 37 = .ok (.if_icmp .ne 7, 3) := by decide +kernel
theorem dY2_end_40 : decode cY2_end 40 = .ok (.iconst 0, 1) := by decide +kernel
theorem dY2_end_41 : decode cY2_end 41 = .ok (.goto 9, 3) := by decide +kernel
theorem dY2_end_44 : decode cY2_end 44 = .ok (.aload_n 0, 1) := by decide +kernel
theorem dY2_end_45 : decode cY2_end 45 = .ok (.getfield 42, 3) := by decide +kernel
theorem dY2_end_48 : decode cY2_end 48 = .ok (.iload_n 2, 1) := by decide +kernel
theorem dY2_end_49 : decode cY2_end 49 = .ok (.iaload, 1) := by decide +kernel
theorem dY2_end_50 : decode cY2_end 50 = .ok (.iastore, 1) := by decide +kernel
theorem dY2_end_51 : decode cY2_end 51 = .ok (.iinc 2 1, 3) := by decide +kernel
theorem dY2_end_54 : decode cY2_end 54 = .ok (.goto (-35), 3) := by decide +kernel
theorem dY2_end_57 : decode cY2_end 57 = .ok (.return_, 1) := by decide +kernel
theorem dY2_mayGo_0 : decode cY2_mayGo 0 = .ok (.aload_n 0, 1) := by decide +kernel
theorem dY2_mayGo_1 : decode cY2_mayGo 1 = .ok (.getfield 19, 3) := by decide +kernel
theorem dY2_mayGo_4 : decode cY2_mayGo 4 = .ok (.iload_n 1, 1) := by decide +kernel
theorem dY2_mayGo_5 : decode cY2_mayGo 5 = .ok (.baload, 1) := by decide +kernel
theorem dY2_mayGo_6 : decode cY2_mayGo 6 = .ok (.ifCond .eq 5, 3) := by decide +kernel
theorem dY2_mayGo_9 : decode cY2_mayGo 9 = .ok (.iconst 0, 1) := by decide +kernel
theorem dY2_mayGo_10 : decode cY2_mayGo 10 = .ok (.ireturn, 1) := by decide +kernel
theorem dY2_mayGo_11 : decode cY2_mayGo 11 = .ok (.aload_n 0, 1) := by decide +kernel
theorem dY2_mayGo_12 : decode cY2_mayGo 12 = .ok (.getfield 39, 3) := by decide +kernel
theorem dY2_mayGo_15 : decode cY2_mayGo 15 = .ok (.sipush 201, 3) := by decide +kernel
theorem dY2_mayGo_18 : decode cY2_mayGo 18 = .ok (.iload_n 1, 1) := by decide +kernel
theorem dY2_mayGo_19 : decode cY2_mayGo 19 = .ok (.imul, 1) := by decide +kernel
theorem dY2_mayGo_20 : decode cY2_mayGo 20 = .ok (.aload_n 0, 1) := by decide +kernel
theorem dY2_mayGo_21 : decode cY2_mayGo 21 = .ok (.getfield 16, 3) := by decide +kernel
theorem dY2_mayGo_24 : decode cY2_mayGo 24 = .ok (.iload_n 1, 1) := by decide +kernel
theorem dY2_mayGo_25 : decode cY2_mayGo 25 = .ok (.iaload, 1) := by decide +kernel
theorem dY2_mayGo_26 : decode cY2_mayGo 26 = .ok (.iadd, 1) := by decide +kernel
theorem dY2_mayGo_27 : decode cY2_mayGo 27 = .ok (.iconst 1, 1) := by decide +kernel
theorem dY2_mayGo_28 : decode cY2_mayGo 28 = .ok (.iadd, 1) := by decide +kernel
theorem dY2_mayGo_29 : decode cY2_mayGo 29 = .ok (.iaload, 1) := by decide +kernel
theorem dY2_mayGo_30 : decode cY2_mayGo 30 = .ok (.istore_n 2, 1) := by decide +kernel
theorem dY2_mayGo_31 : decode cY2_mayGo 31 = .ok (.iload_n 2, 1) := by decide +kernel
theorem dY2_mayGo_32 : decode cY2_mayGo 32 = .ok (.ifCond .eq 27, 3) := by decide +kernel
theorem dY2_mayGo_35 : decode cY2_mayGo 35 = .ok (.aload_n 0, 1) := by decide +kernel
theorem dY2_mayGo_36 : decode cY2_mayGo 36 = .ok (.getfield 19, 3) := by decide +kernel
theorem dY2_mayGo_39 : decode cY2_mayGo 39 = .ok (.iload_n 2, 1) := by decide +kernel
theorem dY2_mayGo_40 : decode cY2_mayGo 40 = .ok (.baload, 1) := by decide +kernel
theorem dY2_mayGo_41 : decode cY2_mayGo 41 = .ok (.ifCond .ne 18, 3) := by decide +kernel
theorem dY2_mayGo_44 : decode cY2_mayGo 44 = .ok (.aload_n 0, 1) := by decide +kernel
theorem dY2_mayGo_45 : decode cY2_mayGo 45 = .ok (.getfield 16, 3) := by decide +kernel
theorem dY2_mayGo_48 : decode cY2_mayGo 48 = .ok (.iload_n 2, 1) := by decide +kernel
theorem dY2_mayGo_49 : decode cY2_mayGo 49 = .ok (.iaload, 1) := by decide +kernel
theorem dY2_mayGo_50 : decode cY2_mayGo 50 = .ok (.aload_n 0, 1) := by decide +kernel
theorem dY2_mayGo_51 : decode cY2_mayGo 51 = .ok (.getfield 16, 3) := by decide +kernel
theorem dY2_mayGo_54 : decode cY2_mayGo 54 = .ok (.iload_n 1, 1) := by decide +kernel
theorem dY2_mayGo_55 : decode cY2_mayGo 55 = .ok (.iaload, 1) := by decide +kernel
theorem dY2_mayGo_56 : decode cY2_mayGo 56 = .ok (.if_icmp .le 7, 3) := by decide +kernel
theorem dY2_mayGo_59 : decode cY2_mayGo 59 = .ok (.iconst 1, 1) := by decide +kernel
theorem dY2_mayGo_60 : decode cY2_mayGo 60 = .ok (.goto 4, 3) := by decide +kernel
theorem dY2_mayGo_63 : decode cY2_mayGo 63 = .ok (.iconst 0, 1) := by decide +kernel
theorem dY2_mayGo_64 : decode cY2_mayGo 64 = .ok (.istore_n 3, 1) := by decide +kernel
theorem dY2_mayGo_65 : decode cY2_mayGo 65 = .ok (.aload_n 0, 1) := by decide +kernel
theorem dY2_mayGo_66 : decode cY2_mayGo 66 = .ok (.getfield 61, 3) := by decide +kernel
theorem dY2_mayGo_69 : decode cY2_mayGo 69 = .ok (.ifCond .le 71, 3) := by decide +kernel
theorem dY2_mayGo_72 : decode cY2_mayGo 72 = .ok (.aload_n 0, 1) := by decide +kernel
theorem dY2_mayGo_73 : decode cY2_mayGo 73 = .ok (.getfield 16, 3) := by decide +kernel
theorem dY2_mayGo_76 : decode cY2_mayGo 76 = .ok (.iload_n 1, 1) := by decide +kernel
theorem dY2_mayGo_77 : decode cY2_mayGo 77 = .ok (.iaload, 1) := by decide +kernel
theorem dY2_mayGo_78 : decode cY2_mayGo 78 = .ok (.aload_n 0, 1) := by decide +kernel
theorem dY2_mayGo_79 : decode cY2_mayGo 79 = .ok (.getfield 61, 3) := by decide +kernel
theorem dY2_mayGo_82 : decode cY2_mayGo 82 = .ok (.irem, 1) := by decide +kernel
theorem dY2_mayGo_83 : decode cY2_mayGo 83 = .ok (.ifCond .ne 57, 3) := by decide +kernel
theorem dY2_mayGo_86 : decode cY2_mayGo 86 = .ok (.iconst 1, 1) := by decide +kernel
theorem dY2_mayGo_87 : decode cY2_mayGo 87 = .ok (.istore 4, 2) := by decide +kernel
theorem dY2_mayGo_89 : decode cY2_mayGo 89 = .ok (.iload 4, 2) := by decide +kernel
theorem dY2_mayGo_91 : decode cY2_mayGo 91 = .ok (.aload_n 0, 1) := by decide +kernel
theorem dY2_mayGo_92 : decode cY2_mayGo 92 = .ok (.getfield 52, 3) := by decide +kernel
theorem dY2_mayGo_95 : decode cY2_mayGo 95 = .ok (.if_icmp .gt 45, 3) := by decide +kernel
theorem dY2_mayGo_98 : decode cY2_mayGo 98 = .ok (.iload_n 3, 1) := by decide +kernel
theorem dY2_mayGo_99 : decode cY2_mayGo 99 = .ok (.ifCond .eq 33, 3) := by decide +kernel
theorem dY2_mayGo_102 : decode cY2_mayGo 102 = .ok (.aload_n 0, 1) := by decide +kernel
theorem dY2_mayGo_103 : decode cY2_mayGo 103 = .ok (.getfield 19, 3) := by decide +kernel
theorem dY2_mayGo_106 : decode cY2_mayGo 106 = .ok (.iload 4, 2) := by decide +kernel
theorem dY2_mayGo_108 : decode cY2_mayGo 108 = .ok (.baload, 1) := by decide +kernel
theorem dY2_mayGo_109 : decode cY2_mayGo 109 = .ok (.ifCond .ne 19, 3) := by decide +kernel
theorem dY2_mayGo_112 : decode cY2_mayGo 112 = .ok (.aload_n 0, 1) := by decide +kernel
theorem dY2_mayGo_113 : decode cY2_mayGo 113 = .ok (.getfield 16, 3) := by decide +kernel
theorem dY2_mayGo_116 : decode cY2_mayGo 116 = .ok (.iload 4, 2) := by decide +kernel
theorem dY2_mayGo_118 : decode cY2_mayGo 118 = .ok (.iaload, 1) := by decide +kernel
theorem dY2_mayGo_119 : decode cY2_mayGo 119 = .ok (.aload_n 0, 1) := by decide +kernel
theorem dY2_mayGo_120 : decode cY2_mayGo 120 = .ok (.getfield 16, 3) := by decide +kernel
theorem dY2_mayGo_123 : decode cY2_mayGo 123 = .ok (.iload_n 1, 1) := by decide +kernel
theorem dY2_mayGo_124 : decode cY2_mayGo 124 = .ok (.iaload, 1) := by decide +kernel
theorem dY2_mayGo_125 : decode cY2_mayGo 125 = .ok (.if_icmp .lt 7, 3) := by decide +kernel
theorem dY2_mayGo_128 : decode cY2_mayGo 128 = .ok (.iconst 1, 1) := by decide +kernel
theorem dY2_mayGo_129 : decode cY2_mayGo 129 = .ok (.goto 4, 3) := by decide +kernel
theorem dY2_mayGo_132 : decode cY2_mayGo 132 = .ok (.iconst 0, 1) := by decide +kernel
theorem dY2_mayGo_133 : decode cY2_mayGo 133 = .ok (.istore_n 3, 1) := by decide +kernel
theorem dY2_mayGo_134 : decode cY2_mayGo 134 = .ok (.iinc 4 1, 3) := by decide +kernel
theorem dY2_mayGo_137 : decode cY2_mayGo 137 = .ok (.goto (-48), 3) := by decide +kernel
theorem dY2_mayGo_140 : decode cY2_mayGo 140 = .ok (.iload_n 3, 1) := by decide +kernel
theorem dY2_mayGo_141 : decode cY2_mayGo 141 = .ok (.ireturn, 1) := by decide +kernel
theorem dY2_begin_0 : decode cY2_begin 0 = .ok (.iconst 1, 1) := by decide +kernel
theorem dY2_begin_1 : decode cY2_begin 1 = .ok (.istore_n 1, 1) := by decide +kernel
theorem dY2_begin_2 : decode cY2_begin 2 = .ok (.iload_n 1, 1) := by decide +kernel
theorem dY2_begin_3 : decode cY2_begin 3 = .ok (.aload_n 0, 1) := by decide +kernel
theorem dY2_begin_4 : decode cY2_begin 4 = .ok (.getfield 52, 3) := by decide +kernel
theorem dY2_begin_7 : decode cY2_begin 7 = .ok (.if_icmp .gt 37, 3) := by decide +kernel
theorem dY2_begin_10 : decode cY2_begin 10 = .ok (.aload_n 0, 1) := by decide +kernel
theorem dY2_begin_11 : decode cY2_begin 11 = .ok (.getfield 19, 3) := by decide +kernel
theorem dY2_begin_14 : decode cY2_begin 14 = .ok (.iload_n 1, 1) := by decide +kernel
theorem dY2_begin_15 : decode cY2_begin 15 = .ok (.baload, 1) := by decide +kernel
theorem dY2_begin_16 : decode cY2_begin 16 = .ok (.ifCond .ne 22, 3) := by decide +kernel
theorem dY2_begin_19 : decode cY2_begin 19 = .ok (.aload_n 0, 1) := by decide +kernel
theorem dY2_begin_20 : decode cY2_begin 20 = .ok (.getfield 32, 3) := by decide +kernel
theorem dY2_begin_23 : decode cY2_begin 23 = .ok (.iload_n 1, 1) := by decide +kernel
theorem dY2_begin_24 : decode cY2_begin 24 = .ok (.laload, 1) := by decide +kernel
theorem dY2_begin_25 : decode cY2_begin 25 = .ok (.aload_n 0, 1) := by decide +kernel
theorem dY2_begin_26 : decode cY2_begin 26 = .ok (.getfield 64, 3) := by decide +kernel
theorem dY2_begin_29 : decode cY2_begin 29 = .ok (.lcmp, 1) := by decide +kernel
theorem dY2_begin_30 : decode cY2_begin 30 = .ok (.ifCond .ne 8, 3) := by decide +kernel
theorem dY2_begin_33 : decode cY2_begin 33 = .ok (.aload_n 0, 1) := by decide +kernel
theorem dY2_begin_34 : decode cY2_begin 34 = .ok (.iload_n 1, 1) := by decide +kernel
theorem dY2_begin_35 : decode cY2_begin 35 = .ok (.invokevirtual 68, 3) := by decide +kernel
theorem dY2_begin_38 : decode cY2_begin 38 = .ok (.iinc 1 1, 3) := by decide +kernel
theorem dY2_begin_41 : decode cY2_begin 41 = .ok (.goto (-39), 3) := by decide +kernel
theorem dY2_begin_44 : decode cY2_begin 44 = .ok (.iconst 0, 1) := by decide +kernel
theorem dY2_begin_45 : decode cY2_begin 45 = .ok (.istore_n 1, 1) := by decide +kernel
theorem dY2_begin_46 : decode cY2_begin 46 = .ok (.iconst 1, 1) := by decide +kernel
theorem dY2_begin_47 : decode cY2_begin 47 = .ok (.istore_n 2, 1) := by decide +kernel
theorem dY2_begin_48 : decode cY2_begin 48 = .ok (.iload_n 2, 1) := by decide +kernel
theorem dY2_begin_49 : decode cY2_begin 49 = .ok (.aload_n 0, 1) := by decide +kernel
theorem dY2_begin_50 : decode cY2_begin 50 = .ok (.getfield 52, 3) := by decide +kernel
theorem dY2_begin_53 : decode cY2_begin 53 = .ok (.if_icmp .gt 39, 3) := by decide +kernel
theorem dY2_begin_56 : decode cY2_begin 56 = .ok (.aload_n 0, 1) := by decide +kernel
theorem dY2_begin_57 : decode cY2_begin 57 = .ok (.getfield 36, 3) := by decide +kernel
theorem dY2_begin_60 : decode cY2_begin 60 = .ok (.iload_n 2, 1) := by decide +kernel
theorem dY2_begin_61 : decode cY2_begin 61 = .ok (.aload_n 0, 1) := by decide +kernel
theorem dY2_begin_62 : decode cY2_begin 62 = .ok (.iload_n 2, 1) := by decide +kernel
theorem dY2_begin_63 : decode cY2_begin 63 = .ok (.invokevirtual 72, 3) := by decide +kernel
theorem dY2_begin_66 : decode cY2_begin 66 = .ok (.bastore, 1) := by decide +kernel
theorem dY2_begin_67 : decode cY2_begin 67 = .ok (.iload_n 1, 1) := by decide +kernel
theorem dY2_begin_68 : decode cY2_begin 68 = .ok (.ifCond .ne 12, 3) := by decide +kernel
theorem dY2_begin_71 : decode cY2_begin 71 = .ok (.aload_n 0, 1) := by decide +kernel
theorem dY2_begin_72 : decode cY2_begin 72 = .ok (.getfield 36, 3) := by decide +kernel
theorem dY2_begin_75 : decode cY2_begin 75 = .ok (.iload_n 2, 1) := by decide +kernel
theorem dY2_begin_76 : decode cY2_begin 76 = .ok (.baload, 1) := by decide +kernel
theorem dY2_begin_77 : decode cY2_begin 77 = .ok (.ifCond .eq 7, 3) := by decide +kernel
theorem dY2_begin_80 : decode cY2_begin 80 = .ok (.iconst 1, 1) := by decide +kernel
theorem dY2_begin_81 : decode cY2_begin 81 = .ok (.goto 4, 3) := by decide +kernel
theorem dY2_begin_84 : decode cY2_begin 84 = .ok (.iconst 0, 1) := by decide +kernel
theorem dY2_begin_85 : decode cY2_begin 85 = .ok (.istore_n 1, 1) := by decide +kernel
theorem dY2_begin_86 : decode cY2_begin 86 = .ok (.iinc 2 1, 3) := by decide +kernel
theorem dY2_begin_89 : decode cY2_begin 89 = .ok (.goto (-41), 3) := by decide +kernel
theorem dY2_begin_92 : decode cY2_begin 92 = .ok (.iload_n 1, 1) := by decide +kernel
theorem dY2_begin_93 : decode cY2_begin 93 = .ok (.ireturn, 1) := by decide +kernel
theorem dY2_step_0 : decode cY2_step 0 = .ok (.aload_n 0, 1) := by decide +kernel
theorem dY2_step_1 : decode cY2_step 1 = .ok (.getfield 16, 3) := by decide +kernel
theorem dY2_step_4 : decode cY2_step 4 = .ok (.iload_n 1, 1) := by decide +kernel
theorem dY2_step_5 : decode cY2_step 5 = .ok (.iaload, 1) := by decide +kernel
theorem dY2_step_6 : decode cY2_step 6 = .ok (.iconst 1, 1) := by decide +kernel
theorem dY2_step_7 : decode cY2_step 7 = .ok (.iadd, 1) := by decide +kernel
theorem dY2_step_8 : decode cY2_step 8 = .ok (.aload_n 0, 1) := by decide +kernel
theorem dY2_step_9 : decode cY2_step 9 = .ok (.getfield 13, 3) := by decide +kernel
theorem dY2_step_12 : decode cY2_step 12 = .ok (.iload_n 1, 1) := by decide +kernel
theorem dY2_step_13 : decode cY2_step 13 = .ok (.iaload, 1) := by decide +kernel
theorem dY2_step_14 : decode cY2_step 14 = .ok (.if_icmp .ne 16, 3) := by decide +kernel
theorem dY2_step_17 : decode cY2_step 17 = .ok (.aload_n 0, 1) := by decide +kernel
theorem dY2_step_18 : decode cY2_step 18 = .ok (.getfield 23, 3) := by decide +kernel
theorem dY2_step_21 : decode cY2_step 21 = .ok (.iload_n 1, 1) := by decide +kernel
theorem dY2_step_22 : decode cY2_step 22 = .ok (.iconst 1, 1) := by decide +kernel
theorem dY2_step_23 : decode cY2_step 23 = .ok (.bastore, 1) := by decide +kernel
theorem dY2_step_24 : decode cY2_step 24 = .ok (.aload_n 0, 1) := by decide +kernel
theorem dY2_step_25 : decode cY2_step 25 = .ok (.iload_n 1, 1) := by decide +kernel
theorem dY2_step_26 : decode cY2_step 26 = .ok (.invokevirtual 68, 3) := by decide +kernel
theorem dY2_step_29 : decode cY2_step 29 = .ok (.return_, 1) := by decide +kernel
theorem dY2_step_30 : decode cY2_step 30 = .ok (.aload_n 0, 1) := by decide +kernel
theorem dY2_step_31 : decode cY2_step 31 = .ok (.getfield 16, 3) := by decide +kernel
theorem dY2_step_34 : decode cY2_step 34 = .ok (.iload_n 1, 1) := by decide +kernel
theorem dY2_step_35 : decode cY2_step 35 = .ok (.dup2, 1) := by decide +kernel
theorem dY2_step_36 : decode cY2_step 36 = .ok (.iaload, 1) := by decide +kernel
theorem dY2_step_37 : decode cY2_step 37 = .ok (.iconst 1, 1) := by decide +kernel
theorem dY2_step_38 : decode cY2_step 38 = .ok (.iadd, 1) := by decide +kernel
theorem dY2_step_39 : decode cY2_step 39 = .ok (.iastore, 1) := by decide +kernel
theorem dY2_step_40 : decode cY2_step 40 = .ok (.aload_n 0, 1) := by decide +kernel
theorem dY2_step_41 : decode cY2_step 41 = .ok (.getfield 75, 3) := by decide +kernel
theorem dY2_step_44 : decode cY2_step 44 = .ok (.sipush 2000, 3) := by decide +kernel
theorem dY2_step_47 : decode cY2_step 47 = .ok (.if_icmp .ge 34, 3) := by decide +kernel
theorem dY2_step_50 : decode cY2_step 50 = .ok (.aload_n 0, 1) := by decide +kernel
theorem dY2_step_51 : decode cY2_step 51 = .ok (.getfield 45, 3) := by decide +kernel
theorem dY2_step_54 : decode cY2_step 54 = .ok (.aload_n 0, 1) := by decide +kernel
theorem dY2_step_55 : decode cY2_step 55 = .ok (.getfield 75, 3) := by decide +kernel
theorem dY2_step_58 : decode cY2_step 58 = .ok (.sipush 1000, 3) := by decide +kernel
theorem dY2_step_61 : decode cY2_step 61 = .ok (.iload_n 1, 1) := by decide +kernel
theorem dY2_step_62 : decode cY2_step 62 = .ok (.imul, 1) := by decide +kernel
theorem dY2_step_63 : decode cY2_step 63 = .ok (.aload_n 0, 1) := by decide +kernel
theorem dY2_step_64 : decode cY2_step 64 = .ok (.getfield 16, 3) := by decide +kernel
theorem dY2_step_67 : decode cY2_step 67 = .ok (.iload_n 1, 1) := by decide +kernel
theorem dY2_step_68 : decode cY2_step 68 = .ok (.iaload, 1) := by decide +kernel
theorem dY2_step_69 : decode cY2_step 69 = .ok (.iadd, 1) := by decide +kernel
theorem dY2_step_70 : decode cY2_step 70 = .ok (.iastore, 1) := by decide +kernel
theorem dY2_step_71 : decode cY2_step 71 = .ok (.aload_n 0, 1) := by decide +kernel
theorem dY2_step_72 : decode cY2_step 72 = .ok (.dup, 1) := by decide +kernel
theorem dY2_step_73 : decode cY2_step 73 = .ok (.getfield 75, 3) := by decide +kernel
theorem dY2_step_76 : decode cY2_step 76 = .ok (.iconst 1, 1) := by decide +kernel
theorem dY2_step_77 : decode cY2_step 77 = .ok (.iadd, 1) := by decide +kernel
theorem dY2_step_78 : decode cY2_step 78 = .ok (.putfield 75, 3) := by decide +kernel
theorem dY2_step_81 : decode cY2_step 81 = .ok (.aload_n 0, 1) := by decide +kernel
theorem dY2_step_82 : decode cY2_step 82 = .ok (.getfield 26, 3) := by decide +kernel
theorem dY2_step_85 : decode cY2_step 85 = .ok (.iload_n 1, 1) := by decide +kernel
theorem dY2_step_86 : decode cY2_step 86 = .ok (.baload, 1) := by decide +kernel
theorem dY2_step_87 : decode cY2_step 87 = .ok (.ifCond .ne 18, 3) := by decide +kernel
theorem dY2_step_90 : decode cY2_step 90 = .ok (.aload_n 0, 1) := by decide +kernel
theorem dY2_step_91 : decode cY2_step 91 = .ok (.getfield 16, 3) := by decide +kernel
theorem dY2_step_94 : decode cY2_step 94 = .ok (.iload_n 1, 1) := by decide +kernel
theorem dY2_step_95 : decode cY2_step 95 = .ok (.iaload, 1) := by decide +kernel
theorem dY2_step_96 : decode cY2_step 96 = .ok (.aload_n 0, 1) := by decide +kernel
theorem dY2_step_97 : decode cY2_step 97 = .ok (.getfield 7, 3) := by decide +kernel
theorem dY2_step_100 : decode cY2_step 100 = .ok (.iload_n 1, 1) := by decide +kernel
theorem dY2_step_101 : decode cY2_step 101 = .ok (.iaload, 1) := by decide +kernel
theorem dY2_step_102 : decode cY2_step 102 = .ok (.if_icmp .ne 8, 3) := by decide +kernel
theorem dY2_step_105 : decode cY2_step 105 = .ok (.aload_n 0, 1) := by decide +kernel
theorem dY2_step_106 : decode cY2_step 106 = .ok (.iload_n 1, 1) := by decide +kernel
theorem dY2_step_107 : decode cY2_step 107 = .ok (.invokevirtual 68, 3) := by decide +kernel
theorem dY2_step_110 : decode cY2_step 110 = .ok (.return_, 1) := by decide +kernel
theorem dY2_run_0 : decode cY2_run 0 = .ok (.aload_n 0, 1) := by decide +kernel
theorem dY2_run_1 : decode cY2_run 1 = .ok (.iconst 0, 1) := by decide +kernel
theorem dY2_run_2 : decode cY2_run 2 = .ok (.putfield 48, 3) := by decide +kernel
theorem dY2_run_5 : decode cY2_run 5 = .ok (.iconst 0, 1) := by decide +kernel
theorem dY2_run_6 : decode cY2_run 6 = .ok (.istore_n 1, 1) := by decide +kernel
theorem dY2_run_7 : decode cY2_run 7 = .ok (.iload_n 1, 1) := by decide +kernel
theorem dY2_run_8 : decode cY2_run 8 = .ok (.sipush 1000, 3) := by decide +kernel
theorem dY2_run_11 : decode cY2_run 11 = .ok (.if_icmp .ge 56, 3) := by decide +kernel
theorem dY2_run_14 : decode cY2_run 14 = .ok (.aload_n 0, 1) := by decide +kernel
theorem dY2_run_15 : decode cY2_run 15 = .ok (.invokevirtual 78, 3) := by decide +kernel
theorem dY2_run_18 : decode cY2_run 18 = .ok (.ifCond .eq 49, 3) := by decide +kernel
theorem dY2_run_21 : decode cY2_run 21 = .ok (.iconst 1, 1) := by decide +kernel
theorem dY2_run_22 : decode cY2_run 22 = .ok (.istore_n 2, 1) := by decide +kernel
theorem dY2_run_23 : decode cY2_run 23 = .ok (.iload_n 2, 1) := by decide +kernel
theorem dY2_run_24 : decode cY2_run 24 = .ok (.aload_n 0, 1) := by decide +kernel
theorem dY2_run_25 : decode cY2_run 25 = .ok (.getfield 52, 3) := by decide +kernel
theorem dY2_run_28 : decode cY2_run 28 = .ok (.if_icmp .gt 23, 3) := by decide +kernel
theorem dY2_run_31 : decode cY2_run 31 = .ok (.aload_n 0, 1) := by decide +kernel
theorem dY2_run_32 : decode cY2_run 32 = .ok (.getfield 36, 3) := by decide +kernel
theorem dY2_run_35 : decode cY2_run 35 = .ok (.iload_n 2, 1) := by decide +kernel
theorem dY2_run_36 : decode cY2_run 36 = .ok (.baload, 1) := by decide +kernel
theorem dY2_run_37 : decode cY2_run 37 = .ok (.ifCond .eq 8, 3) := by decide +kernel
theorem dY2_run_40 : decode cY2_run 40 = .ok (.aload_n 0, 1) := by decide +kernel
theorem dY2_run_41 : decode cY2_run 41 = .ok (.iload_n 2, 1) := by decide +kernel
theorem dY2_run_42 : decode cY2_run 42 = .ok (.invokevirtual 82, 3) := by decide +kernel
theorem dY2_run_45 : decode cY2_run 45 = .ok (.iinc 2 1, 3) := by decide +kernel
theorem dY2_run_48 : decode cY2_run 48 = .ok (.goto (-25), 3) := by decide +kernel
theorem dY2_run_51 : decode cY2_run 51 = .ok (.aload_n 0, 1) := by decide +kernel
theorem dY2_run_52 : decode cY2_run 52 = .ok (.dup, 1) := by decide +kernel
theorem dY2_run_53 : decode cY2_run 53 = .ok (.getfield 64, 3) := by decide +kernel
theorem dY2_run_56 : decode cY2_run 56 = .ok (.lconst 1, 1) := by decide +kernel
theorem dY2_run_57 : decode cY2_run 57 = .ok (.ladd, 1) := by decide +kernel
theorem dY2_run_58 : decode cY2_run 58 = .ok (.putfield 64, 3) := by decide +kernel
theorem dY2_run_61 : decode cY2_run 61 = .ok (.iinc 1 1, 3) := by decide +kernel
theorem dY2_run_64 : decode cY2_run 64 = .ok (.goto (-57), 3) := by decide +kernel
theorem dY2_run_67 : decode cY2_run 67 = .ok (.iload_n 1, 1) := by decide +kernel
theorem dY2_run_68 : decode cY2_run 68 = .ok (.ireturn, 1) := by decide +kernel
theorem dY2_log_0 : decode cY2_log 0 = .ok (.aload_n 0, 1) := by decide +kernel
theorem dY2_log_1 : decode cY2_log 1 = .ok (.iconst 0, 1) := by decide +kernel
theorem dY2_log_2 : decode cY2_log 2 = .ok (.putfield 48, 3) := by decide +kernel
theorem dY2_log_5 : decode cY2_log 5 = .ok (.iload_n 1, 1) := by decide +kernel
theorem dY2_log_6 : decode cY2_log 6 = .ok (.ifCond .lt 11, 3) := by decide +kernel
theorem dY2_log_9 : decode cY2_log 9 = .ok (.iload_n 1, 1) := by decide +kernel
theorem dY2_log_10 : decode cY2_log 10 = .ok (.aload_n 0, 1) := by decide +kernel
theorem dY2_log_11 : decode cY2_log 11 = .ok (.getfield 75, 3) := by decide +kernel
theorem dY2_log_14 : decode cY2_log 14 = .ok (.if_icmp .lt 7, 3) := by decide +kernel
theorem dY2_log_17 : decode cY2_log 17 = .ok (.iconst (-1), 1) := by decide +kernel
theorem dY2_log_18 : decode cY2_log 18 = .ok (.goto 9, 3) := by decide +kernel
theorem dY2_log_21 : decode cY2_log 21 = .ok (.aload_n 0, 1) := by decide +kernel
theorem dY2_log_22 : decode cY2_log 22 = .ok (.getfield 45, 3) := by decide +kernel
theorem dY2_log_25 : decode cY2_log 25 = .ok (.iload_n 1, 1) := by decide +kernel
theorem dY2_log_26 : decode cY2_log 26 = .ok (.iaload, 1) := by decide +kernel
theorem dY2_log_27 : decode cY2_log 27 = .ok (.ireturn, 1) := by decide +kernel
theorem dY2_safe_0 : decode cY2_safe 0 = .ok (.aload_n 0, 1) := by decide +kernel
theorem dY2_safe_1 : decode cY2_safe 1 = .ok (.iload_n 1, 1) := by decide +kernel
theorem dY2_safe_2 : decode cY2_safe 2 = .ok (.invokevirtual 57, 3) := by decide +kernel
theorem dY2_safe_5 : decode cY2_safe 5 = .ok (.ifCond .eq 5, 3) := by decide +kernel
theorem dY2_safe_8 : decode cY2_safe 8 = .ok (.iconst (-1), 1) := by decide +kernel
theorem dY2_safe_9 : decode cY2_safe 9 = .ok (.ireturn, 1) := by decide +kernel
theorem dY2_safe_10 : decode cY2_safe 10 = .ok (.aload_n 0, 1) := by decide +kernel
theorem dY2_safe_11 : decode cY2_safe 11 = .ok (.getfield 23, 3) := by decide +kernel
theorem dY2_safe_14 : decode cY2_safe 14 = .ok (.iload_n 1, 1) := by decide +kernel
theorem dY2_safe_15 : decode cY2_safe 15 = .ok (.baload, 1) := by decide +kernel
theorem dY2_safe_16 : decode cY2_safe 16 = .ok (.ifCond .eq 7, 3) := by decide +kernel
theorem dY2_safe_19 : decode cY2_safe 19 = .ok (.iconst 1, 1) := by decide +kernel
theorem dY2_safe_20 : decode cY2_safe 20 = .ok (.goto 4, 3) := by decide +kernel
theorem dY2_safe_23 : decode cY2_safe 23 = .ok (.iconst 0, 1) := by decide +kernel
theorem dY2_safe_24 : decode cY2_safe 24 = .ok (.ireturn, 1) := by decide +kernel
theorem dY2_cut_0 : decode cY2_cut 0 = .ok (.aload_n 0, 1) := by decide +kernel
theorem dY2_cut_1 : decode cY2_cut 1 = .ok (.iload_n 1, 1) := by decide +kernel
theorem dY2_cut_2 : decode cY2_cut 2 = .ok (.invokevirtual 57, 3) := by decide +kernel
theorem dY2_cut_5 : decode cY2_cut 5 = .ok (.ifCond .eq 5, 3) := by decide +kernel
theorem dY2_cut_8 : decode cY2_cut 8 = .ok (.iconst (-1), 1) := by decide +kernel
theorem dY2_cut_9 : decode cY2_cut 9 = .ok (.ireturn, 1) := by decide +kernel
theorem dY2_cut_10 : decode cY2_cut 10 = .ok (.lload_n 2, 1) := by decide +kernel
theorem dY2_cut_11 : decode cY2_cut 11 = .ok (.aload_n 0, 1) := by decide +kernel
theorem dY2_cut_12 : decode cY2_cut 12 = .ok (.getfield 64, 3) := by decide +kernel
theorem dY2_cut_15 : decode cY2_cut 15 = .ok (.lcmp, 1) := by decide +kernel
theorem dY2_cut_16 : decode cY2_cut 16 = .ok (.ifCond .ge 6, 3) := by decide +kernel
theorem dY2_cut_19 : decode cY2_cut 19 = .ok (.bipush (-2), 2) := by decide +kernel
theorem dY2_cut_21 : decode cY2_cut 21 = .ok (.ireturn, 1) := by decide +kernel
theorem dY2_cut_22 : decode cY2_cut 22 = .ok (.aload_n 0, 1) := by decide +kernel
theorem dY2_cut_23 : decode cY2_cut 23 = .ok (.getfield 19, 3) := by decide +kernel
theorem dY2_cut_26 : decode cY2_cut 26 = .ok (.iload_n 1, 1) := by decide +kernel
theorem dY2_cut_27 : decode cY2_cut 27 = .ok (.baload, 1) := by decide +kernel
theorem dY2_cut_28 : decode cY2_cut 28 = .ok (.ifCond .eq 6, 3) := by decide +kernel
theorem dY2_cut_31 : decode cY2_cut 31 = .ok (.bipush (-3), 2) := by decide +kernel
theorem dY2_cut_33 : decode cY2_cut 33 = .ok (.ireturn, 1) := by decide +kernel
theorem dY2_cut_34 : decode cY2_cut 34 = .ok (.aload_n 0, 1) := by decide +kernel
theorem dY2_cut_35 : decode cY2_cut 35 = .ok (.getfield 32, 3) := by decide +kernel
theorem dY2_cut_38 : decode cY2_cut 38 = .ok (.iload_n 1, 1) := by decide +kernel
theorem dY2_cut_39 : decode cY2_cut 39 = .ok (.lload_n 2, 1) := by decide +kernel
theorem dY2_cut_40 : decode cY2_cut 40 = .ok (.lastore, 1) := by decide +kernel
theorem dY2_cut_41 : decode cY2_cut 41 = .ok (.iconst 1, 1) := by decide +kernel
theorem dY2_cut_42 : decode cY2_cut 42 = .ok (.ireturn, 1) := by decide +kernel
theorem dY2_interrupt_0 : decode cY2_interrupt 0 = .ok (.aload_n 0, 1) := by decide +kernel
theorem dY2_interrupt_1 : decode cY2_interrupt 1 = .ok (.iload_n 1, 1) := by decide +kernel
theorem dY2_interrupt_2 : decode cY2_interrupt 2 = .ok (.invokevirtual 57, 3) := by decide +kernel
theorem dY2_interrupt_5 : decode cY2_interrupt 5 = .ok (.ifCond .ne 12, 3) := by decide +kernel
theorem dY2_interrupt_8 : decode cY2_interrupt 8 = .ok (.aload_n 0, 1) := by decide +kernel
theorem dY2_interrupt_9 : decode cY2_interrupt 9 = .ok (.getfield 19, 3) := by decide +kernel
theorem dY2_interrupt_12 : decode cY2_interrupt 12 = .ok (.iload_n 1, 1) := by decide +kernel
theorem dY2_interrupt_13 : decode cY2_interrupt 13 = .ok (.baload, 1) := by decide +kernel
theorem dY2_interrupt_14 : decode cY2_interrupt 14 = .ok (.ifCond .eq 5, 3) := by decide +kernel
theorem dY2_interrupt_17 : decode cY2_interrupt 17 = .ok (.iconst 0, 1) := by decide +kernel
theorem dY2_interrupt_18 : decode cY2_interrupt 18 = .ok (.ireturn, 1) := by decide +kernel
theorem dY2_interrupt_19 : decode cY2_interrupt 19 = .ok (.aload_n 0, 1) := by decide +kernel
theorem dY2_interrupt_20 : decode cY2_interrupt 20 = .ok (.getfield 26, 3) := by decide +kernel
theorem dY2_interrupt_23 : decode cY2_interrupt 23 = .ok (.iload_n 1, 1) := by decide +kernel
theorem dY2_interrupt_24 : decode cY2_interrupt 24 = .ok (.iconst 1, 1) := by decide +kernel
theorem dY2_interrupt_25 : decode cY2_interrupt 25 = .ok (.bastore, 1) := by decide +kernel
theorem dY2_interrupt_26 : decode cY2_interrupt 26 = .ok (.iconst 1, 1) := by decide +kernel
theorem dY2_interrupt_27 : decode cY2_interrupt 27 = .ok (.ireturn, 1) := by decide +kernel
theorem dY2_holds_0 : decode cY2_holds 0 = .ok (.iconst 0, 1) := by decide +kernel
theorem dY2_holds_1 : decode cY2_holds 1 = .ok (.istore_n 2, 1) := by decide +kernel
theorem dY2_holds_2 : decode cY2_holds 2 = .ok (.iconst 1, 1) := by decide +kernel
theorem dY2_holds_3 : decode cY2_holds 3 = .ok (.istore_n 3, 1) := by decide +kernel
theorem dY2_holds_4 : decode cY2_holds 4 = .ok (.iload_n 3, 1) := by decide +kernel
theorem dY2_holds_5 : decode cY2_holds 5 = .ok (.bipush 17, 2) := by decide +kernel
theorem dY2_holds_7 : decode cY2_holds 7 = .ok (.if_icmp .ge 27, 3) := by decide +kernel
theorem dY2_holds_10 : decode cY2_holds 10 = .ok (.aload_n 0, 1) := by decide +kernel
theorem dY2_holds_11 : decode cY2_holds 11 = .ok (.getfield 42, 3) := by decide +kernel
theorem dY2_holds_14 : decode cY2_holds 14 = .ok (.iload_n 3, 1) := by decide +kernel
theorem dY2_holds_15 : decode cY2_holds 15 = .ok (.iaload, 1) := by decide +kernel
theorem dY2_holds_16 : decode cY2_holds 16 = .ok (.iload_n 1, 1) := by decide +kernel
theorem dY2_holds_17 : decode cY2_holds 17 = .ok (.if_icmp .ne 9, 3) := by decide +kernel
theorem dY2_holds_20 : decode cY2_holds 20 = .ok (.iload_n 2, 1) := by decide +kernel
theorem dY2_holds_21 : decode cY2_holds 21 = .ok (.iconst 1, 1) := by decide +kernel
theorem dY2_holds_22 : decode cY2_holds 22 = .ok (.iadd, 1) := by decide +kernel
theorem dY2_holds_23 : decode cY2_holds 23 = .ok (.goto 4, 3) := by decide +kernel
theorem dY2_holds_26 : decode cY2_holds 26 = .ok (.iload_n 2, 1) := by decide +kernel
theorem dY2_holds_27 : decode cY2_holds 27 = .ok (.istore_n 2, 1) := by decide +kernel
theorem dY2_holds_28 : decode cY2_holds 28 = .ok (.iinc 3 1, 3) := by decide +kernel
theorem dY2_holds_31 : decode cY2_holds 31 = .ok (.goto (-27), 3) := by decide +kernel
theorem dY2_holds_34 : decode cY2_holds 34 = .ok (.iload_n 2, 1) := by decide +kernel
theorem dY2_holds_35 : decode cY2_holds 35 = .ok (.ireturn, 1) := by decide +kernel
theorem dY2_held_0 : decode cY2_held 0 = .ok (.aload_n 0, 1) := by decide +kernel
theorem dY2_held_1 : decode cY2_held 1 = .ok (.iload_n 1, 1) := by decide +kernel
theorem dY2_held_2 : decode cY2_held 2 = .ok (.invokevirtual 57, 3) := by decide +kernel
theorem dY2_held_5 : decode cY2_held 5 = .ok (.ifCond .eq 5, 3) := by decide +kernel
theorem dY2_held_8 : decode cY2_held 8 = .ok (.iconst (-1), 1) := by decide +kernel
theorem dY2_held_9 : decode cY2_held 9 = .ok (.ireturn, 1) := by decide +kernel
theorem dY2_held_10 : decode cY2_held 10 = .ok (.iload_n 2, 1) := by decide +kernel
theorem dY2_held_11 : decode cY2_held 11 = .ok (.ifCond .lt 9, 3) := by decide +kernel
theorem dY2_held_14 : decode cY2_held 14 = .ok (.iload_n 2, 1) := by decide +kernel
theorem dY2_held_15 : decode cY2_held 15 = .ok (.bipush 16, 2) := by decide +kernel
theorem dY2_held_17 : decode cY2_held 17 = .ok (.if_icmp .le 6, 3) := by decide +kernel
theorem dY2_held_20 : decode cY2_held 20 = .ok (.bipush (-2), 2) := by decide +kernel
theorem dY2_held_22 : decode cY2_held 22 = .ok (.ireturn, 1) := by decide +kernel
theorem dY2_held_23 : decode cY2_held 23 = .ok (.iload_n 2, 1) := by decide +kernel
theorem dY2_held_24 : decode cY2_held 24 = .ok (.ifCond .le 24, 3) := by decide +kernel
theorem dY2_held_27 : decode cY2_held 27 = .ok (.aload_n 0, 1) := by decide +kernel
theorem dY2_held_28 : decode cY2_held 28 = .ok (.getfield 19, 3) := by decide +kernel
theorem dY2_held_31 : decode cY2_held 31 = .ok (.iload_n 1, 1) := by decide +kernel
theorem dY2_held_32 : decode cY2_held 32 = .ok (.baload, 1) := by decide +kernel
theorem dY2_held_33 : decode cY2_held 33 = .ok (.ifCond .ne 12, 3) := by decide +kernel
theorem dY2_held_36 : decode cY2_held 36 = .ok (.aload_n 0, 1) := by decide +kernel
theorem dY2_held_37 : decode cY2_held 37 = .ok (.getfield 42, 3) := by decide +kernel
theorem dY2_held_40 : decode cY2_held 40 = .ok (.iload_n 2, 1) := by decide +kernel
theorem dY2_held_41 : decode cY2_held 41 = .ok (.iaload, 1) := by decide +kernel
theorem dY2_held_42 : decode cY2_held 42 = .ok (.ifCond .le 6, 3) := by decide +kernel
theorem dY2_held_45 : decode cY2_held 45 = .ok (.bipush (-3), 2) := by decide +kernel
theorem dY2_held_47 : decode cY2_held 47 = .ok (.ireturn, 1) := by decide +kernel
theorem dY2_held_48 : decode cY2_held 48 = .ok (.iload_n 2, 1) := by decide +kernel
theorem dY2_held_49 : decode cY2_held 49 = .ok (.ifCond .le 10, 3) := by decide +kernel
theorem dY2_held_52 : decode cY2_held 52 = .ok (.aload_n 0, 1) := by decide +kernel
theorem dY2_held_53 : decode cY2_held 53 = .ok (.getfield 42, 3) := by decide +kernel
theorem dY2_held_56 : decode cY2_held 56 = .ok (.iload_n 2, 1) := by decide +kernel
theorem dY2_held_57 : decode cY2_held 57 = .ok (.iload_n 1, 1) := by decide +kernel
theorem dY2_held_58 : decode cY2_held 58 = .ok (.iastore, 1) := by decide +kernel
theorem dY2_held_59 : decode cY2_held 59 = .ok (.aload_n 0, 1) := by decide +kernel
theorem dY2_held_60 : decode cY2_held 60 = .ok (.iload_n 1, 1) := by decide +kernel
theorem dY2_held_61 : decode cY2_held 61 = .ok (.invokevirtual 85, 3) := by decide +kernel
theorem dY2_held_64 : decode cY2_held 64 = .ok (.ireturn, 1) := by decide +kernel
theorem dY2_barrier_0 : decode cY2_barrier 0 = .ok (.aload_n 0, 1) := by decide +kernel
theorem dY2_barrier_1 : decode cY2_barrier 1 = .ok (.iconst 0, 1) := by decide +kernel
theorem dY2_barrier_2 : decode cY2_barrier 2 = .ok (.putfield 48, 3) := by decide +kernel
theorem dY2_barrier_5 : decode cY2_barrier 5 = .ok (.iload_n 1, 1) := by decide +kernel
theorem dY2_barrier_6 : decode cY2_barrier 6 = .ok (.ifCond .lt 10, 3) := by decide +kernel
theorem dY2_barrier_9 : decode cY2_barrier 9 = .ok (.iload_n 1, 1) := by decide +kernel
theorem dY2_barrier_10 : decode cY2_barrier 10 = .ok (.sipush 200, 3) := by decide +kernel
theorem dY2_barrier_13 : decode cY2_barrier 13 = .ok (.if_icmp .le 6, 3) := by decide +kernel
theorem dY2_barrier_16 : decode cY2_barrier 16 = .ok (.bipush (-2), 2) := by decide +kernel
theorem dY2_barrier_18 : decode cY2_barrier 18 = .ok (.ireturn, 1) := by decide +kernel
theorem dY2_barrier_19 : decode cY2_barrier 19 = .ok (.aload_n 0, 1) := by decide +kernel
theorem dY2_barrier_20 : decode cY2_barrier 20 = .ok (.getfield 61, 3) := by decide +kernel
theorem dY2_barrier_23 : decode cY2_barrier 23 = .ok (.istore_n 2, 1) := by decide +kernel
theorem dY2_barrier_24 : decode cY2_barrier 24 = .ok (.aload_n 0, 1) := by decide +kernel
theorem dY2_barrier_25 : decode cY2_barrier 25 = .ok (.iload_n 1, 1) := by decide +kernel
theorem dY2_barrier_26 : decode cY2_barrier 26 = .ok (.putfield 61, 3) := by decide +kernel
theorem dY2_barrier_29 : decode cY2_barrier 29 = .ok (.iload_n 2, 1) := by decide +kernel
theorem dY2_barrier_30 : decode cY2_barrier 30 = .ok (.ireturn, 1) := by decide +kernel
theorem dY2_finished_0 : decode cY2_finished 0 = .ok (.aload_n 0, 1) := by decide +kernel
theorem dY2_finished_1 : decode cY2_finished 1 = .ok (.iload_n 1, 1) := by decide +kernel
theorem dY2_finished_2 : decode cY2_finished 2 = .ok (.invokevirtual 57, 3) := by decide +kernel
theorem dY2_finished_5 : decode cY2_finished 5 = .ok (.ifCond .eq 7, 3) := by decide +kernel
theorem dY2_finished_8 : decode cY2_finished 8 = .ok (.iconst (-1), 1) := by decide +kernel
theorem dY2_finished_9 : decode cY2_finished 9 = .ok (.goto 9, 3) := by decide +kernel
theorem dY2_finished_12 : decode cY2_finished 12 = .ok (.aload_n 0, 1) := by decide +kernel
theorem dY2_finished_13 : decode cY2_finished 13 = .ok (.getfield 29, 3) := by decide +kernel
theorem dY2_finished_16 : decode cY2_finished 16 = .ok (.iload_n 1, 1) := by decide +kernel
theorem dY2_finished_17 : decode cY2_finished 17 = .ok (.iaload, 1) := by decide +kernel
theorem dY2_finished_18 : decode cY2_finished 18 = .ok (.ireturn, 1) := by decide +kernel
theorem dY2_close_0 : decode cY2_close 0 = .ok (.aload_n 0, 1) := by decide +kernel
theorem dY2_close_1 : decode cY2_close 1 = .ok (.iconst 0, 1) := by decide +kernel
theorem dY2_close_2 : decode cY2_close 2 = .ok (.putfield 48, 3) := by decide +kernel
theorem dY2_close_5 : decode cY2_close 5 = .ok (.iconst 0, 1) := by decide +kernel
theorem dY2_close_6 : decode cY2_close 6 = .ok (.istore_n 1, 1) := by decide +kernel
theorem dY2_close_7 : decode cY2_close 7 = .ok (.iconst 1, 1) := by decide +kernel
theorem dY2_close_8 : decode cY2_close 8 = .ok (.istore_n 2, 1) := by decide +kernel
theorem dY2_close_9 : decode cY2_close 9 = .ok (.iload_n 2, 1) := by decide +kernel
theorem dY2_close_10 : decode cY2_close 10 = .ok (.aload_n 0, 1) := by decide +kernel
theorem dY2_close_11 : decode cY2_close 11 = .ok (.getfield 52, 3) := by decide +kernel
theorem dY2_close_14 : decode cY2_close 14 = .ok (.if_icmp .gt 29, 3) := by decide +kernel
theorem dY2_close_17 : decode cY2_close 17 = .ok (.aload_n 0, 1) := by decide +kernel
theorem dY2_close_18 : decode cY2_close 18 = .ok (.getfield 19, 3) := by decide +kernel
theorem dY2_close_21 : decode cY2_close 21 = .ok (.iload_n 2, 1) := by decide +kernel
theorem dY2_close_22 : decode cY2_close 22 = .ok (.baload, 1) := by decide +kernel
theorem dY2_close_23 : decode cY2_close 23 = .ok (.ifCond .eq 6, 3) := by decide +kernel
theorem dY2_close_26 : decode cY2_close 26 = .ok (.goto 11, 3) := by decide +kernel
theorem dY2_close_29 : decode cY2_close 29 = .ok (.aload_n 0, 1) := by decide +kernel
theorem dY2_close_30 : decode cY2_close 30 = .ok (.iload_n 2, 1) := by decide +kernel
theorem dY2_close_31 : decode cY2_close 31 = .ok (.invokevirtual 68, 3) := by decide +kernel
theorem dY2_close_34 : decode cY2_close 34 = .ok (.iinc 1 1, 3) := by decide +kernel
theorem dY2_close_37 : decode cY2_close 37 = .ok (.iinc 2 1, 3) := by decide +kernel
theorem dY2_close_40 : decode cY2_close 40 = .ok (.goto (-31), 3) := by decide +kernel
theorem dY2_close_43 : decode cY2_close 43 = .ok (.iload_n 1, 1) := by decide +kernel
theorem dY2_close_44 : decode cY2_close 44 = .ok (.ireturn, 1) := by decide +kernel
theorem dY2_init_0 : decode cY2_init 0 = .ok (.aload_n 0, 1) := by decide +kernel
theorem dY2_init_1 : decode cY2_init 1 = .ok (.invokespecial 1, 3) := by decide +kernel
theorem dY2_init_4 : decode cY2_init 4 = .ok (.aload_n 0, 1) := by decide +kernel
theorem dY2_init_5 : decode cY2_init 5 = .ok (.bipush 31, 2) := by decide +kernel
theorem dY2_init_7 : decode cY2_init 7 = .ok (.newarray .int, 2) := by decide +kernel
theorem dY2_init_9 : decode cY2_init 9 = .ok (.putfield 7, 3) := by decide +kernel
theorem dY2_init_12 : decode cY2_init 12 = .ok (.aload_n 0, 1) := by decide +kernel
theorem dY2_init_13 : decode cY2_init 13 = .ok (.bipush 31, 2) := by decide +kernel
theorem dY2_init_15 : decode cY2_init 15 = .ok (.newarray .int, 2) := by decide +kernel
theorem dY2_init_17 : decode cY2_init 17 = .ok (.putfield 13, 3) := by decide +kernel
theorem dY2_init_20 : decode cY2_init 20 = .ok (.aload_n 0, 1) := by decide +kernel
theorem dY2_init_21 : decode cY2_init 21 = .ok (.bipush 31, 2) := by decide +kernel
theorem dY2_init_23 : decode cY2_init 23 = .ok (.newarray .int, 2) := by decide +kernel
theorem dY2_init_25 : decode cY2_init 25 = .ok (.putfield 16, 3) := by decide +kernel
theorem dY2_init_28 : decode cY2_init 28 = .ok (.aload_n 0, 1) := by decide +kernel
theorem dY2_init_29 : decode cY2_init 29 = .ok (.bipush 31, 2) := by decide +kernel
theorem dY2_init_31 : decode cY2_init 31 = .ok (.newarray .boolean, 2) := by decide +kernel
theorem dY2_init_33 : decode cY2_init 33 = .ok (.putfield 19, 3) := by decide +kernel
theorem dY2_init_36 : decode cY2_init 36 = .ok (.aload_n 0, 1) := by decide +kernel
theorem dY2_init_37 : decode cY2_init 37 = .ok (.bipush 31, 2) := by decide +kernel
theorem dY2_init_39 : decode cY2_init 39 = .ok (.newarray .boolean, 2) := by decide +kernel
theorem dY2_init_41 : decode cY2_init 41 = .ok (.putfield 23, 3) := by decide +kernel
theorem dY2_init_44 : decode cY2_init 44 = .ok (.aload_n 0, 1) := by decide +kernel
theorem dY2_init_45 : decode cY2_init 45 = .ok (.bipush 31, 2) := by decide +kernel
theorem dY2_init_47 : decode cY2_init 47 = .ok (.newarray .boolean, 2) := by decide +kernel
theorem dY2_init_49 : decode cY2_init 49 = .ok (.putfield 26, 3) := by decide +kernel
theorem dY2_init_52 : decode cY2_init 52 = .ok (.aload_n 0, 1) := by decide +kernel
theorem dY2_init_53 : decode cY2_init 53 = .ok (.bipush 31, 2) := by decide +kernel
theorem dY2_init_55 : decode cY2_init 55 = .ok (.newarray .int, 2) := by decide +kernel
theorem dY2_init_57 : decode cY2_init 57 = .ok (.putfield 29, 3) := by decide +kernel
theorem dY2_init_60 : decode cY2_init 60 = .ok (.aload_n 0, 1) := by decide +kernel
theorem dY2_init_61 : decode cY2_init 61 = .ok (.bipush 31, 2) := by decide +kernel
theorem dY2_init_63 : decode cY2_init 63 = .ok (.newarray .long, 2) := by decide +kernel
theorem dY2_init_65 : decode cY2_init 65 = .ok (.putfield 32, 3) := by decide +kernel
theorem dY2_init_68 : decode cY2_init 68 = .ok (.aload_n 0, 1) := by decide +kernel
theorem dY2_init_69 : decode cY2_init 69 = .ok (.bipush 31, 2) := by decide +kernel
theorem dY2_init_71 : decode cY2_init 71 = .ok (.newarray .boolean, 2) := by decide +kernel
theorem dY2_init_73 : decode cY2_init 73 = .ok (.putfield 36, 3) := by decide +kernel
theorem dY2_init_76 : decode cY2_init 76 = .ok (.aload_n 0, 1) := by decide +kernel
theorem dY2_init_77 : decode cY2_init 77 = .ok (.sipush 6231, 3) := by decide +kernel
theorem dY2_init_80 : decode cY2_init 80 = .ok (.newarray .int, 2) := by decide +kernel
theorem dY2_init_82 : decode cY2_init 82 = .ok (.putfield 39, 3) := by decide +kernel
theorem dY2_init_85 : decode cY2_init 85 = .ok (.aload_n 0, 1) := by decide +kernel
theorem dY2_init_86 : decode cY2_init 86 = .ok (.bipush 17, 2) := by decide +kernel
theorem dY2_init_88 : decode cY2_init 88 = .ok (.newarray .int, 2) := by decide +kernel
theorem dY2_init_90 : decode cY2_init 90 = .ok (.putfield 42, 3) := by decide +kernel
theorem dY2_init_93 : decode cY2_init 93 = .ok (.aload_n 0, 1) := by decide +kernel
theorem dY2_init_94 : decode cY2_init 94 = .ok (.sipush 2000, 3) := by decide +kernel
theorem dY2_init_97 : decode cY2_init 97 = .ok (.newarray .int, 2) := by decide +kernel
theorem dY2_init_99 : decode cY2_init 99 = .ok (.putfield 45, 3) := by decide +kernel
theorem dY2_init_102 : decode cY2_init 102 = .ok (.return_, 1) := by decide +kernel
set_option maxRecDepth 20000 in
theorem gY2_waits_Y2_none : GoodIn wsY2_waits (wsV RX2 57 RX2 yY2_none wsY2_none) := goodIn_of _ (by decide +kernel)
set_option maxRecDepth 20000 in
theorem gY2_begin_Y2_end : GoodIn wsY2_begin (wsV RX2 68 RX2 yY2_end wsY2_end) := goodIn_of _ (by decide +kernel)
set_option maxRecDepth 20000 in
theorem gY2_begin_Y2_mayGo : GoodIn wsY2_begin (wsV RX2 72 RX2 yY2_mayGo wsY2_mayGo) := goodIn_of _ (by decide +kernel)
set_option maxRecDepth 20000 in
theorem gY2_step_Y2_end : GoodIn wsY2_step (wsV RX2 68 RX2 yY2_end wsY2_end) := goodIn_of _ (by decide +kernel)
set_option maxRecDepth 20000 in
theorem gY2_run_Y2_begin : GoodIn wsY2_run (wsV RX2 78 RX2 yY2_begin wsY2_begin) := goodIn_of _ (by decide +kernel)
set_option maxRecDepth 20000 in
theorem gY2_run_Y2_step : GoodIn wsY2_run (wsV RX2 82 RX2 yY2_step wsY2_step) := goodIn_of _ (by decide +kernel)
set_option maxRecDepth 20000 in
theorem gY2_safe_Y2_none : GoodIn wsY2_safe (wsV RX2 57 RX2 yY2_none wsY2_none) := goodIn_of _ (by decide +kernel)
set_option maxRecDepth 20000 in
theorem gY2_cut_Y2_none : GoodIn wsY2_cut (wsV RX2 57 RX2 yY2_none wsY2_none) := goodIn_of _ (by decide +kernel)
set_option maxRecDepth 20000 in
theorem gY2_interrupt_Y2_none : GoodIn wsY2_interrupt (wsV RX2 57 RX2 yY2_none wsY2_none) := goodIn_of _ (by decide +kernel)
set_option maxRecDepth 20000 in
theorem gY2_held_Y2_none : GoodIn wsY2_held (wsV RX2 57 RX2 yY2_none wsY2_none) := goodIn_of _ (by decide +kernel)
set_option maxRecDepth 20000 in
theorem gY2_held_Y2_holds : GoodIn wsY2_held (wsV RX2 85 RX2 yY2_holds wsY2_holds) := goodIn_of _ (by decide +kernel)
set_option maxRecDepth 20000 in
theorem gY2_finished_Y2_none : GoodIn wsY2_finished (wsV RX2 57 RX2 yY2_none wsY2_none) := goodIn_of _ (by decide +kernel)
set_option maxRecDepth 20000 in
theorem gY2_close_Y2_end : GoodIn wsY2_close (wsV RX2 68 RX2 yY2_end wsY2_end) := goodIn_of _ (by decide +kernel)
abbrev wCl : List vw_C := [(RX0, TX0, 12), (RX1, TX1, 9), (RX2, TY2, 17)]
abbrev ciN : Nat := 0
abbrev ciT : Nat := 1
abbrev ciM : Nat := 2
