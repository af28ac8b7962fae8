/-! ===== BEGIN words of one list among another's, by their places ===== -/
theorem goodIn_r {big : List Cond} (ws : List Cond) (ps : List Nat) (hp : ws = ps.filterMap (fun i => big[i]?)) (h : ws.all goodWord = true) : GoodIn big ws := by
  intro w hw
  have h1 := List.all_eq_true.mp h w hw
  rw [hp] at hw
  obtain ⟨i, -, hi⟩ := List.mem_filterMap.mp hw
  have hm : w ∈ big := by first | exact List.mem_of_getElem? hi | exact List.getElem?_mem hi
  exact ⟨hm, good_of_word h1⟩
theorem goodIn_app {big a b : List Cond} (ha : GoodIn big a) (hb : GoodIn big b) : GoodIn big (a ++ b) := fun w h => (List.mem_append.mp h).elim (ha w) (hb w)
theorem goodIn_ca {big a b : List Cond} {c : Cond} (ha : GoodIn big (c :: a)) (hb : GoodIn big b) : GoodIn big (c :: (a ++ b)) := fun w h => (List.mem_cons.mp h).elim (fun e => ha w (List.mem_cons.mpr (Or.inl e))) (fun h => (List.mem_append.mp h).elim (fun h => ha w (List.mem_cons.mpr (Or.inr h))) (hb w))
theorem goodIn_sub {big ws : List Cond} (hm : ∀ w ∈ ws, w ∈ big) (h : ws.all goodWord = true) : GoodIn big ws := fun w hw => ⟨hm w hw, good_of_word (List.all_eq_true.mp h w hw)⟩
/-! ===== END ===== -/

/-! ===== BEGIN printed: names, fields, word lists, decode rows ===== -/
def RX0 : String := "RootDesk$Digest"
def TX0 : u_T := fun k => match k with
  | 0 => ("RootDesk$Digest", "message", "[B", true)
  | 1 => ("RootDesk$Digest", "schedule", "[I", true)
  | 2 => ("RootDesk$Digest", "state", "[I", true)
  | _ => ("RootDesk$Digest", "length", "I", false)
def tyX0 : Nat → FieldType := fun k => match k with
  | 0 => .array .byte
  | 1 => .array .int
  | 2 => .array .int
  | _ => .int
abbrev wsX00 : List Cond := u_ws RX0 TX0 4
theorem nmX0 : ∀ a, a < 4 → ∀ b, b < 4 → a ≠ b → (TX0 a).2.1 ≠ (TX0 b).2.1 := by decide +kernel
theorem tyX0_ok : ∀ k, k < 4 → parseFieldDescriptor (TX0 k).2.2.1 = some (tyX0 k) := by decide +kernel
abbrev cX0_init : ByteArray := prog_2_method_1_code
def yX0_init : MethodName := ⟨RX0, "<init>", "()V"⟩
abbrev cX0_begin : ByteArray := prog_2_method_2_code
def yX0_begin : MethodName := ⟨RX0, "begin", "()V"⟩
abbrev cX0_takeByte : ByteArray := prog_2_method_3_code
def yX0_takeByte : MethodName := ⟨RX0, "takeByte", "(I)V"⟩
abbrev cX0_takeBytes : ByteArray := prog_2_method_4_code
def yX0_takeBytes : MethodName := ⟨RX0, "takeBytes", "([BI)V"⟩
abbrev cX0_takeId : ByteArray := prog_2_method_5_code
def yX0_takeId : MethodName := ⟨RX0, "takeId", "([II)V"⟩
abbrev cX0_takeWord : ByteArray := prog_2_method_6_code
def yX0_takeWord : MethodName := ⟨RX0, "takeWord", "(I)V"⟩
abbrev cX0_finishInto : ByteArray := prog_2_method_7_code
def yX0_finishInto : MethodName := ⟨RX0, "finishInto", "([II)V"⟩
abbrev cX0_pad : ByteArray := prog_2_method_8_code
def yX0_pad : MethodName := ⟨RX0, "pad", "()V"⟩
abbrev cX0_fillSchedule : ByteArray := prog_2_method_9_code
def yX0_fillSchedule : MethodName := ⟨RX0, "fillSchedule", "(I)V"⟩
abbrev cX0_mixBlock : ByteArray := prog_2_method_10_code
def yX0_mixBlock : MethodName := ⟨RX0, "mixBlock", "()V"⟩
abbrev cX0_turn : ByteArray := prog_2_method_11_code
def yX0_turn : MethodName := ⟨RX0, "turn", "(II)I"⟩
def RX1 : String := "RootDesk"
def TX1 : u_T := fun k => match k with
  | 0 => ("RootDesk", "tape", "[B", true)
  | 1 => ("RootDesk", "tapeLength", "I", false)
  | 2 => ("RootDesk", "leafLengths", "[I", true)
  | 3 => ("RootDesk", "leaves", "I", false)
  | 4 => ("RootDesk", "leafBytes", "I", false)
  | 5 => ("RootDesk", "ids", "[I", true)
  | _ => ("RootDesk", "digest", "LRootDesk$Digest;", true)
def tyX1 : Nat → FieldType := fun k => match k with
  | 0 => .array .byte
  | 1 => .int
  | 2 => .array .int
  | 3 => .int
  | 4 => .int
  | 5 => .array .int
  | _ => .object "RootDesk$Digest"
abbrev wsX10 : List Cond := u_ws RX1 TX1 7
theorem nmX1 : ∀ a, a < 7 → ∀ b, b < 7 → a ≠ b → (TX1 a).2.1 ≠ (TX1 b).2.1 := by decide +kernel
theorem tyX1_ok : ∀ k, k < 7 → parseFieldDescriptor (TX1 k).2.2.1 = some (tyX1 k) := by decide +kernel
abbrev cX1_init : ByteArray := prog_1_method_1_code
def yX1_init : MethodName := ⟨RX1, "<init>", "()V"⟩
abbrev cX1_put : ByteArray := prog_1_method_2_code
def yX1_put : MethodName := ⟨RX1, "put", "(JI)Z"⟩
abbrev cX1_hash : ByteArray := prog_1_method_3_code
def yX1_hash : MethodName := ⟨RX1, "hash", "(I)J"⟩
abbrev cX1_add : ByteArray := prog_1_method_4_code
def yX1_add : MethodName := ⟨RX1, "add", "()I"⟩
abbrev cX1_change : ByteArray := prog_1_method_5_code
def yX1_change : MethodName := ⟨RX1, "change", "(I)Z"⟩
abbrev cX1_drop : ByteArray := prog_1_method_6_code
def yX1_drop : MethodName := ⟨RX1, "drop", "()I"⟩
abbrev cX1_root : ByteArray := prog_1_method_7_code
def yX1_root : MethodName := ⟨RX1, "root", "(I)J"⟩
abbrev cX1_way : ByteArray := prog_1_method_8_code
def yX1_way : MethodName := ⟨RX1, "way", "(I)I"⟩
abbrev cX1_beside : ByteArray := prog_1_method_9_code
def yX1_beside : MethodName := ⟨RX1, "beside", "(III)J"⟩
abbrev cX1_isLeft : ByteArray := prog_1_method_10_code
def yX1_isLeft : MethodName := ⟨RX1, "isLeft", "(II)I"⟩
abbrev cX1_proves : ByteArray := prog_1_method_11_code
def yX1_proves : MethodName := ⟨RX1, "proves", "(I)I"⟩
abbrev cX1_count : ByteArray := prog_1_method_12_code
def yX1_count : MethodName := ⟨RX1, "count", "(I)I"⟩
abbrev cX1_isLeaf : ByteArray := prog_1_method_13_code
def yX1_isLeaf : MethodName := ⟨RX1, "isLeaf", "(I)Z"⟩
abbrev cX1_moveTapeTo : ByteArray := prog_1_method_14_code
def yX1_moveTapeTo : MethodName := ⟨RX1, "moveTapeTo", "(I)V"⟩
abbrev cX1_makeLeafId : ByteArray := prog_1_method_15_code
def yX1_makeLeafId : MethodName := ⟨RX1, "makeLeafId", "(I)V"⟩
abbrev cX1_join : ByteArray := prog_1_method_16_code
def yX1_join : MethodName := ⟨RX1, "join", "(III)V"⟩
abbrev cX1_refreshAbove : ByteArray := prog_1_method_17_code
def yX1_refreshAbove : MethodName := ⟨RX1, "refreshAbove", "(I)V"⟩
abbrev cX1_copyId : ByteArray := prog_1_method_18_code
def yX1_copyId : MethodName := ⟨RX1, "copyId", "(II)V"⟩
abbrev cX1_sameIds : ByteArray := prog_1_method_19_code
def yX1_sameIds : MethodName := ⟨RX1, "sameIds", "(II)Z"⟩
abbrev cX1_eightBytes : ByteArray := prog_1_method_20_code
def yX1_eightBytes : MethodName := ⟨RX1, "eightBytes", "(II)J"⟩
abbrev cX1_levelOfStep : ByteArray := prog_1_method_21_code
def yX1_levelOfStep : MethodName := ⟨RX1, "levelOfStep", "(II)I"⟩
abbrev cX1_rootLevel : ByteArray := prog_1_method_22_code
def yX1_rootLevel : MethodName := ⟨RX1, "rootLevel", "()I"⟩
abbrev cX1_nodeBeside : ByteArray := prog_1_method_23_code
def yX1_nodeBeside : MethodName := ⟨RX1, "nodeBeside", "(II)I"⟩
abbrev cX1_hasOneBeside : ByteArray := prog_1_method_24_code
def yX1_hasOneBeside : MethodName := ⟨RX1, "hasOneBeside", "(II)Z"⟩
abbrev cX1_widthAbove : ByteArray := prog_1_method_25_code
def yX1_widthAbove : MethodName := ⟨RX1, "widthAbove", "(I)I"⟩
def RL : String := "RootDeskLaw"
abbrev cL_law : ByteArray := code
def yL_law : MethodName := ⟨RL, "law", "([I)Z"⟩
def wsX0_init : List Cond := .code yX0_init cX0_init 1 none :: ([.methodLink RX0 3 objectInit, .instanceMethod objectInit, .code objectInit ⟨#[0xb1]⟩ 1 none, .arrayClass .byte, .fieldLink RX0 11 "RootDesk$Digest" "message" "[B", .arrayClass .int, .fieldLink RX0 15 "RootDesk$Digest" "schedule" "[I", .fieldLink RX0 19 "RootDesk$Digest" "state" "[I", .fieldLink RX0 22 "RootDesk$Digest" "length" "I"] ++ wsX00)
def wsX0_begin : List Cond := .code yX0_begin cX0_begin 1 none :: ([.fieldLink RX0 22 "RootDesk$Digest" "length" "I"] ++ wsX00)
def wsX0_takeByte : List Cond := .code yX0_takeByte cX0_takeByte 2 none :: ([.fieldLink RX0 22 "RootDesk$Digest" "length" "I", .fieldLink RX0 11 "RootDesk$Digest" "message" "[B"] ++ wsX00)
def wsX0_takeBytes : List Cond := .code yX0_takeBytes cX0_takeBytes 4 none :: ([.methodLink RX0 26 yX0_takeByte, .instanceMethod yX0_takeByte, .selects RX0 yX0_takeByte yX0_takeByte, .initialized RX0, .code yX0_takeByte cX0_takeByte 2 none, .fieldLink RX0 22 "RootDesk$Digest" "length" "I", .fieldLink RX0 11 "RootDesk$Digest" "message" "[B"] ++ wsX00)
def wsX0_takeWord : List Cond := .code yX0_takeWord cX0_takeWord 2 none :: ([.methodLink RX0 26 yX0_takeByte, .instanceMethod yX0_takeByte, .selects RX0 yX0_takeByte yX0_takeByte, .initialized RX0, .code yX0_takeByte cX0_takeByte 2 none, .fieldLink RX0 22 "RootDesk$Digest" "length" "I", .fieldLink RX0 11 "RootDesk$Digest" "message" "[B"] ++ wsX00)
def wsX0_takeId : List Cond := .code yX0_takeId cX0_takeId 4 none :: ([.methodLink RX0 30 yX0_takeWord, .instanceMethod yX0_takeWord, .selects RX0 yX0_takeWord yX0_takeWord, .initialized RX0, .code yX0_takeWord cX0_takeWord 2 none, .methodLink RX0 26 yX0_takeByte, .instanceMethod yX0_takeByte, .selects RX0 yX0_takeByte yX0_takeByte, .code yX0_takeByte cX0_takeByte 2 none, .fieldLink RX0 22 "RootDesk$Digest" "length" "I", .fieldLink RX0 11 "RootDesk$Digest" "message" "[B"] ++ wsX00)
def wsX0_pad : List Cond := .code yX0_pad cX0_pad 4 none :: ([.constantLong RX0 45 (8), .fieldLink RX0 22 "RootDesk$Digest" "length" "I", .methodLink RX0 26 yX0_takeByte, .instanceMethod yX0_takeByte, .selects RX0 yX0_takeByte yX0_takeByte, .initialized RX0, .code yX0_takeByte cX0_takeByte 2 none, .fieldLink RX0 11 "RootDesk$Digest" "message" "[B"] ++ wsX00)
def wsX0_turn : List Cond := .code yX0_turn cX0_turn 2 (some .int) :: ([])
def wsX0_fillSchedule : List Cond := .code yX0_fillSchedule cX0_fillSchedule 7 none :: ([.fieldLink RX0 15 "RootDesk$Digest" "schedule" "[I", .fieldLink RX0 11 "RootDesk$Digest" "message" "[B", .methodLink RX0 47 yX0_turn, .static yX0_turn, .initialized RX0, .code yX0_turn cX0_turn 2 (some .int)] ++ wsX00)
def wsX0_mixBlock : List Cond := .code yX0_mixBlock cX0_mixBlock 15 none :: ([.fieldLink RX0 19 "RootDesk$Digest" "state" "[I", .fieldLink RX0 51 "RootDesk$Digest" "ROUND_WORDS" "[I", .fieldLink RX0 15 "RootDesk$Digest" "schedule" "[I", .methodLink RX0 47 yX0_turn, .static yX0_turn, .initialized RX0, .code yX0_turn cX0_turn 2 (some .int)] ++ wsX00)
def wsX0_finishInto_r1 : List Cond := [Cond.fieldLink RX0 19 "RootDesk$Digest" "state" "[I", Cond.fieldLink RX0 36 "RootDesk$Digest" "FIRST_STATE" "[I", Cond.fieldLink RX0 22 "RootDesk$Digest" "length" "I", Cond.methodLink RX0 33 yX0_pad, Cond.instanceMethod yX0_pad, Cond.selects RX0 yX0_pad yX0_pad, Cond.initialized RX0, Cond.code yX0_pad cX0_pad 4 none, Cond.constantLong RX0 45 (8), Cond.methodLink RX0 26 yX0_takeByte, Cond.instanceMethod yX0_takeByte, Cond.selects RX0 yX0_takeByte yX0_takeByte, Cond.code yX0_takeByte cX0_takeByte 2 none, Cond.fieldLink RX0 11 "RootDesk$Digest" "message" "[B", Cond.methodLink RX0 39 yX0_fillSchedule, Cond.instanceMethod yX0_fillSchedule, Cond.selects RX0 yX0_fillSchedule yX0_fillSchedule, Cond.code yX0_fillSchedule cX0_fillSchedule 7 none, Cond.fieldLink RX0 15 "RootDesk$Digest" "schedule" "[I", Cond.methodLink RX0 47 yX0_turn, Cond.static yX0_turn, Cond.code yX0_turn cX0_turn 2 (some .int), Cond.methodLink RX0 42 yX0_mixBlock, Cond.instanceMethod yX0_mixBlock]
def wsX0_finishInto_r2 : List Cond := [Cond.selects RX0 yX0_mixBlock yX0_mixBlock, Cond.code yX0_mixBlock cX0_mixBlock 15 none, Cond.fieldLink RX0 51 "RootDesk$Digest" "ROUND_WORDS" "[I"]
def wsX0_finishInto : List Cond := .code yX0_finishInto cX0_finishInto 4 none :: ((wsX0_finishInto_r1 ++ wsX0_finishInto_r2) ++ wsX00)
def wsX1_init : List Cond := .code yX1_init cX1_init 1 none :: ([.methodLink RX1 1 objectInit, .instanceMethod objectInit, .code objectInit ⟨#[0xb1]⟩ 1 none, .arrayClass .byte, .fieldLink RX1 9 "RootDesk" "tape" "[B", .arrayClass .int, .fieldLink RX1 13 "RootDesk" "leafLengths" "[I", .fieldLink RX1 17 "RootDesk" "ids" "[I", .classLink RX1 20 RX0, .instantiable RX0 4, .initialized RX0, .fieldLink RX1 23 "RootDesk" "digest" "LRootDesk$Digest;", .fieldLink RX1 27 "RootDesk" "tapeLength" "I", .fieldLink RX1 31 "RootDesk" "leaves" "I", .fieldLink RX1 34 "RootDesk" "leafBytes" "I", .methodLink RX1 22 yX0_init, .instanceMethod yX0_init, .code yX0_init cX0_init 1 none, .methodLink RX0 3 objectInit, .fieldLink RX0 11 "RootDesk$Digest" "message" "[B", .fieldLink RX0 15 "RootDesk$Digest" "schedule" "[I", .fieldLink RX0 19 "RootDesk$Digest" "state" "[I", .fieldLink RX0 22 "RootDesk$Digest" "length" "I"] ++ wsX10 ++ wsX00)
def wsX1_put : List Cond := .code yX1_put cX1_put 5 (some .boolean) :: ([.fieldLink RX1 27 "RootDesk" "tapeLength" "I", .fieldLink RX1 9 "RootDesk" "tape" "[B"] ++ wsX10)
def wsX1_eightBytes : List Cond := .code yX1_eightBytes cX1_eightBytes 4 (some .long) :: ([.fieldLink RX1 17 "RootDesk" "ids" "[I", .constantLong RX1 105 (4294967295)] ++ wsX10)
def wsX1_hash_r1 : List Cond := [Cond.fieldLink RX1 23 "RootDesk" "digest" "LRootDesk$Digest;", Cond.fieldLink RX1 9 "RootDesk" "tape" "[B", Cond.fieldLink RX1 27 "RootDesk" "tapeLength" "I", Cond.fieldLink RX1 17 "RootDesk" "ids" "[I", Cond.methodLink RX1 37 yX0_begin, Cond.instanceMethod yX0_begin, Cond.selects RX0 yX0_begin yX0_begin, Cond.initialized RX0, Cond.code yX0_begin cX0_begin 1 none, Cond.fieldLink RX0 22 "RootDesk$Digest" "length" "I", Cond.methodLink RX1 40 yX0_takeBytes, Cond.instanceMethod yX0_takeBytes, Cond.selects RX0 yX0_takeBytes yX0_takeBytes, Cond.code yX0_takeBytes cX0_takeBytes 4 none, Cond.methodLink RX0 26 yX0_takeByte, Cond.instanceMethod yX0_takeByte, Cond.selects RX0 yX0_takeByte yX0_takeByte, Cond.code yX0_takeByte cX0_takeByte 2 none, Cond.fieldLink RX0 11 "RootDesk$Digest" "message" "[B", Cond.methodLink RX1 44 yX0_finishInto, Cond.instanceMethod yX0_finishInto, Cond.selects RX0 yX0_finishInto yX0_finishInto, Cond.code yX0_finishInto cX0_finishInto 4 none, Cond.fieldLink RX0 19 "RootDesk$Digest" "state" "[I"]
def wsX1_hash_r2 : List Cond := [Cond.fieldLink RX0 36 "RootDesk$Digest" "FIRST_STATE" "[I", Cond.methodLink RX0 33 yX0_pad, Cond.instanceMethod yX0_pad, Cond.selects RX0 yX0_pad yX0_pad, Cond.code yX0_pad cX0_pad 4 none, Cond.constantLong RX0 45 (8), Cond.methodLink RX0 39 yX0_fillSchedule, Cond.instanceMethod yX0_fillSchedule, Cond.selects RX0 yX0_fillSchedule yX0_fillSchedule, Cond.code yX0_fillSchedule cX0_fillSchedule 7 none, Cond.fieldLink RX0 15 "RootDesk$Digest" "schedule" "[I", Cond.methodLink RX0 47 yX0_turn, Cond.static yX0_turn, Cond.code yX0_turn cX0_turn 2 (some .int), Cond.methodLink RX0 42 yX0_mixBlock, Cond.instanceMethod yX0_mixBlock, Cond.selects RX0 yX0_mixBlock yX0_mixBlock, Cond.code yX0_mixBlock cX0_mixBlock 15 none, Cond.fieldLink RX0 51 "RootDesk$Digest" "ROUND_WORDS" "[I", Cond.methodLink RX1 48 yX1_eightBytes, Cond.instanceMethod yX1_eightBytes, Cond.selects RX1 yX1_eightBytes yX1_eightBytes, Cond.initialized RX1, Cond.code yX1_eightBytes cX1_eightBytes 4 (some .long)]
def wsX1_hash_r3 : List Cond := [Cond.constantLong RX1 105 (4294967295)]
def wsX1_hash : List Cond := .code yX1_hash cX1_hash 2 (some .long) :: ((wsX1_hash_r1 ++ (wsX1_hash_r2 ++ wsX1_hash_r3)) ++ wsX10 ++ wsX00)
def wsX1_makeLeafId_r1 : List Cond := [Cond.fieldLink RX1 23 "RootDesk" "digest" "LRootDesk$Digest;", Cond.fieldLink RX1 9 "RootDesk" "tape" "[B", Cond.fieldLink RX1 27 "RootDesk" "tapeLength" "I", Cond.fieldLink RX1 17 "RootDesk" "ids" "[I", Cond.methodLink RX1 37 yX0_begin, Cond.instanceMethod yX0_begin, Cond.selects RX0 yX0_begin yX0_begin, Cond.initialized RX0, Cond.code yX0_begin cX0_begin 1 none, Cond.fieldLink RX0 22 "RootDesk$Digest" "length" "I", Cond.methodLink RX1 95 yX0_takeByte, Cond.instanceMethod yX0_takeByte, Cond.selects RX0 yX0_takeByte yX0_takeByte, Cond.code yX0_takeByte cX0_takeByte 2 none, Cond.fieldLink RX0 11 "RootDesk$Digest" "message" "[B", Cond.methodLink RX1 40 yX0_takeBytes, Cond.instanceMethod yX0_takeBytes, Cond.selects RX0 yX0_takeBytes yX0_takeBytes, Cond.code yX0_takeBytes cX0_takeBytes 4 none, Cond.methodLink RX0 26 yX0_takeByte, Cond.methodLink RX1 44 yX0_finishInto, Cond.instanceMethod yX0_finishInto, Cond.selects RX0 yX0_finishInto yX0_finishInto, Cond.code yX0_finishInto cX0_finishInto 4 none]
def wsX1_makeLeafId_r2 : List Cond := [Cond.fieldLink RX0 19 "RootDesk$Digest" "state" "[I", Cond.fieldLink RX0 36 "RootDesk$Digest" "FIRST_STATE" "[I", Cond.methodLink RX0 33 yX0_pad, Cond.instanceMethod yX0_pad, Cond.selects RX0 yX0_pad yX0_pad, Cond.code yX0_pad cX0_pad 4 none, Cond.constantLong RX0 45 (8), Cond.methodLink RX0 39 yX0_fillSchedule, Cond.instanceMethod yX0_fillSchedule, Cond.selects RX0 yX0_fillSchedule yX0_fillSchedule, Cond.code yX0_fillSchedule cX0_fillSchedule 7 none, Cond.fieldLink RX0 15 "RootDesk$Digest" "schedule" "[I", Cond.methodLink RX0 47 yX0_turn, Cond.static yX0_turn, Cond.code yX0_turn cX0_turn 2 (some .int), Cond.methodLink RX0 42 yX0_mixBlock, Cond.instanceMethod yX0_mixBlock, Cond.selects RX0 yX0_mixBlock yX0_mixBlock, Cond.code yX0_mixBlock cX0_mixBlock 15 none, Cond.fieldLink RX0 51 "RootDesk$Digest" "ROUND_WORDS" "[I"]
def wsX1_makeLeafId : List Cond := .code yX1_makeLeafId cX1_makeLeafId 2 none :: ((wsX1_makeLeafId_r1 ++ wsX1_makeLeafId_r2) ++ wsX10 ++ wsX00)
def wsX1_hasOneBeside : List Cond := .code yX1_hasOneBeside cX1_hasOneBeside 2 (some .boolean) :: ([])
def wsX1_join_r1 : List Cond := [Cond.fieldLink RX1 23 "RootDesk" "digest" "LRootDesk$Digest;", Cond.fieldLink RX1 17 "RootDesk" "ids" "[I", Cond.methodLink RX1 37 yX0_begin, Cond.instanceMethod yX0_begin, Cond.selects RX0 yX0_begin yX0_begin, Cond.initialized RX0, Cond.code yX0_begin cX0_begin 1 none, Cond.fieldLink RX0 22 "RootDesk$Digest" "length" "I", Cond.methodLink RX1 95 yX0_takeByte, Cond.instanceMethod yX0_takeByte, Cond.selects RX0 yX0_takeByte yX0_takeByte, Cond.code yX0_takeByte cX0_takeByte 2 none, Cond.fieldLink RX0 11 "RootDesk$Digest" "message" "[B", Cond.methodLink RX1 98 yX0_takeId, Cond.instanceMethod yX0_takeId, Cond.selects RX0 yX0_takeId yX0_takeId, Cond.code yX0_takeId cX0_takeId 4 none, Cond.methodLink RX0 30 yX0_takeWord, Cond.instanceMethod yX0_takeWord, Cond.selects RX0 yX0_takeWord yX0_takeWord, Cond.code yX0_takeWord cX0_takeWord 2 none, Cond.methodLink RX0 26 yX0_takeByte, Cond.methodLink RX1 44 yX0_finishInto, Cond.instanceMethod yX0_finishInto]
def wsX1_join_r2 : List Cond := [Cond.selects RX0 yX0_finishInto yX0_finishInto, Cond.code yX0_finishInto cX0_finishInto 4 none, Cond.fieldLink RX0 19 "RootDesk$Digest" "state" "[I", Cond.fieldLink RX0 36 "RootDesk$Digest" "FIRST_STATE" "[I", Cond.methodLink RX0 33 yX0_pad, Cond.instanceMethod yX0_pad, Cond.selects RX0 yX0_pad yX0_pad, Cond.code yX0_pad cX0_pad 4 none, Cond.constantLong RX0 45 (8), Cond.methodLink RX0 39 yX0_fillSchedule, Cond.instanceMethod yX0_fillSchedule, Cond.selects RX0 yX0_fillSchedule yX0_fillSchedule, Cond.code yX0_fillSchedule cX0_fillSchedule 7 none, Cond.fieldLink RX0 15 "RootDesk$Digest" "schedule" "[I", Cond.methodLink RX0 47 yX0_turn, Cond.static yX0_turn, Cond.code yX0_turn cX0_turn 2 (some .int), Cond.methodLink RX0 42 yX0_mixBlock, Cond.instanceMethod yX0_mixBlock, Cond.selects RX0 yX0_mixBlock yX0_mixBlock, Cond.code yX0_mixBlock cX0_mixBlock 15 none, Cond.fieldLink RX0 51 "RootDesk$Digest" "ROUND_WORDS" "[I"]
def wsX1_join : List Cond := .code yX1_join cX1_join 4 none :: ((wsX1_join_r1 ++ wsX1_join_r2) ++ wsX10 ++ wsX00)
def wsX1_copyId : List Cond := .code yX1_copyId cX1_copyId 4 none :: ([.fieldLink RX1 17 "RootDesk" "ids" "[I"] ++ wsX10)
def wsX1_widthAbove : List Cond := .code yX1_widthAbove cX1_widthAbove 1 (some .int) :: ([])
def wsX1_refreshAbove_r1 : List Cond := [Cond.fieldLink RX1 31 "RootDesk" "leaves" "I", Cond.fieldLink RX1 63 "RootDesk" "LEVEL_START" "[I", Cond.methodLink RX1 80 yX1_hasOneBeside, Cond.static yX1_hasOneBeside, Cond.initialized RX1, Cond.code yX1_hasOneBeside cX1_hasOneBeside 2 (some .boolean), Cond.methodLink RX1 84 yX1_join, Cond.instanceMethod yX1_join, Cond.selects RX1 yX1_join yX1_join, Cond.code yX1_join cX1_join 4 none, Cond.fieldLink RX1 23 "RootDesk" "digest" "LRootDesk$Digest;", Cond.fieldLink RX1 17 "RootDesk" "ids" "[I", Cond.methodLink RX1 37 yX0_begin, Cond.instanceMethod yX0_begin, Cond.selects RX0 yX0_begin yX0_begin, Cond.initialized RX0, Cond.code yX0_begin cX0_begin 1 none, Cond.fieldLink RX0 22 "RootDesk$Digest" "length" "I", Cond.methodLink RX1 95 yX0_takeByte, Cond.instanceMethod yX0_takeByte, Cond.selects RX0 yX0_takeByte yX0_takeByte, Cond.code yX0_takeByte cX0_takeByte 2 none, Cond.fieldLink RX0 11 "RootDesk$Digest" "message" "[B", Cond.methodLink RX1 98 yX0_takeId]
def wsX1_refreshAbove_r2 : List Cond := [Cond.instanceMethod yX0_takeId, Cond.selects RX0 yX0_takeId yX0_takeId, Cond.code yX0_takeId cX0_takeId 4 none, Cond.methodLink RX0 30 yX0_takeWord, Cond.instanceMethod yX0_takeWord, Cond.selects RX0 yX0_takeWord yX0_takeWord, Cond.code yX0_takeWord cX0_takeWord 2 none, Cond.methodLink RX0 26 yX0_takeByte, Cond.methodLink RX1 44 yX0_finishInto, Cond.instanceMethod yX0_finishInto, Cond.selects RX0 yX0_finishInto yX0_finishInto, Cond.code yX0_finishInto cX0_finishInto 4 none, Cond.fieldLink RX0 19 "RootDesk$Digest" "state" "[I", Cond.fieldLink RX0 36 "RootDesk$Digest" "FIRST_STATE" "[I", Cond.methodLink RX0 33 yX0_pad, Cond.instanceMethod yX0_pad, Cond.selects RX0 yX0_pad yX0_pad, Cond.code yX0_pad cX0_pad 4 none, Cond.constantLong RX0 45 (8), Cond.methodLink RX0 39 yX0_fillSchedule, Cond.instanceMethod yX0_fillSchedule, Cond.selects RX0 yX0_fillSchedule yX0_fillSchedule, Cond.code yX0_fillSchedule cX0_fillSchedule 7 none, Cond.fieldLink RX0 15 "RootDesk$Digest" "schedule" "[I"]
def wsX1_refreshAbove_r3 : List Cond := [Cond.methodLink RX0 47 yX0_turn, Cond.static yX0_turn, Cond.code yX0_turn cX0_turn 2 (some .int), Cond.methodLink RX0 42 yX0_mixBlock, Cond.instanceMethod yX0_mixBlock, Cond.selects RX0 yX0_mixBlock yX0_mixBlock, Cond.code yX0_mixBlock cX0_mixBlock 15 none, Cond.fieldLink RX0 51 "RootDesk$Digest" "ROUND_WORDS" "[I", Cond.methodLink RX1 101 yX1_copyId, Cond.instanceMethod yX1_copyId, Cond.selects RX1 yX1_copyId yX1_copyId, Cond.code yX1_copyId cX1_copyId 4 none, Cond.methodLink RX1 88 yX1_widthAbove, Cond.static yX1_widthAbove, Cond.code yX1_widthAbove cX1_widthAbove 1 (some .int)]
def wsX1_refreshAbove : List Cond := .code yX1_refreshAbove cX1_refreshAbove 7 none :: ((wsX1_refreshAbove_r1 ++ (wsX1_refreshAbove_r2 ++ wsX1_refreshAbove_r3)) ++ wsX10 ++ wsX00)
def wsX1_moveTapeTo_r1 : List Cond := [Cond.fieldLink RX1 34 "RootDesk" "leafBytes" "I", Cond.fieldLink RX1 27 "RootDesk" "tapeLength" "I", Cond.fieldLink RX1 13 "RootDesk" "leafLengths" "[I", Cond.methodLink RX1 77 yX1_makeLeafId, Cond.instanceMethod yX1_makeLeafId, Cond.selects RX1 yX1_makeLeafId yX1_makeLeafId, Cond.initialized RX1, Cond.code yX1_makeLeafId cX1_makeLeafId 2 none, Cond.fieldLink RX1 23 "RootDesk" "digest" "LRootDesk$Digest;", Cond.fieldLink RX1 9 "RootDesk" "tape" "[B", Cond.fieldLink RX1 17 "RootDesk" "ids" "[I", Cond.methodLink RX1 37 yX0_begin, Cond.instanceMethod yX0_begin, Cond.selects RX0 yX0_begin yX0_begin, Cond.initialized RX0, Cond.code yX0_begin cX0_begin 1 none, Cond.fieldLink RX0 22 "RootDesk$Digest" "length" "I", Cond.methodLink RX1 95 yX0_takeByte, Cond.instanceMethod yX0_takeByte, Cond.selects RX0 yX0_takeByte yX0_takeByte, Cond.code yX0_takeByte cX0_takeByte 2 none, Cond.fieldLink RX0 11 "RootDesk$Digest" "message" "[B", Cond.methodLink RX1 40 yX0_takeBytes, Cond.instanceMethod yX0_takeBytes]
def wsX1_moveTapeTo_r2 : List Cond := [Cond.selects RX0 yX0_takeBytes yX0_takeBytes, Cond.code yX0_takeBytes cX0_takeBytes 4 none, Cond.methodLink RX0 26 yX0_takeByte, Cond.methodLink RX1 44 yX0_finishInto, Cond.instanceMethod yX0_finishInto, Cond.selects RX0 yX0_finishInto yX0_finishInto, Cond.code yX0_finishInto cX0_finishInto 4 none, Cond.fieldLink RX0 19 "RootDesk$Digest" "state" "[I", Cond.fieldLink RX0 36 "RootDesk$Digest" "FIRST_STATE" "[I", Cond.methodLink RX0 33 yX0_pad, Cond.instanceMethod yX0_pad, Cond.selects RX0 yX0_pad yX0_pad, Cond.code yX0_pad cX0_pad 4 none, Cond.constantLong RX0 45 (8), Cond.methodLink RX0 39 yX0_fillSchedule, Cond.instanceMethod yX0_fillSchedule, Cond.selects RX0 yX0_fillSchedule yX0_fillSchedule, Cond.code yX0_fillSchedule cX0_fillSchedule 7 none, Cond.fieldLink RX0 15 "RootDesk$Digest" "schedule" "[I", Cond.methodLink RX0 47 yX0_turn, Cond.static yX0_turn, Cond.code yX0_turn cX0_turn 2 (some .int), Cond.methodLink RX0 42 yX0_mixBlock, Cond.instanceMethod yX0_mixBlock]
def wsX1_moveTapeTo_r3 : List Cond := [Cond.selects RX0 yX0_mixBlock yX0_mixBlock, Cond.code yX0_mixBlock cX0_mixBlock 15 none, Cond.fieldLink RX0 51 "RootDesk$Digest" "ROUND_WORDS" "[I", Cond.methodLink RX1 60 yX1_refreshAbove, Cond.instanceMethod yX1_refreshAbove, Cond.selects RX1 yX1_refreshAbove yX1_refreshAbove, Cond.code yX1_refreshAbove cX1_refreshAbove 7 none, Cond.fieldLink RX1 31 "RootDesk" "leaves" "I", Cond.fieldLink RX1 63 "RootDesk" "LEVEL_START" "[I", Cond.methodLink RX1 80 yX1_hasOneBeside, Cond.static yX1_hasOneBeside, Cond.code yX1_hasOneBeside cX1_hasOneBeside 2 (some .boolean), Cond.methodLink RX1 84 yX1_join, Cond.instanceMethod yX1_join, Cond.selects RX1 yX1_join yX1_join, Cond.code yX1_join cX1_join 4 none, Cond.methodLink RX1 98 yX0_takeId, Cond.instanceMethod yX0_takeId, Cond.selects RX0 yX0_takeId yX0_takeId, Cond.code yX0_takeId cX0_takeId 4 none, Cond.methodLink RX0 30 yX0_takeWord, Cond.instanceMethod yX0_takeWord, Cond.selects RX0 yX0_takeWord yX0_takeWord, Cond.code yX0_takeWord cX0_takeWord 2 none]
def wsX1_moveTapeTo_r4 : List Cond := [Cond.methodLink RX1 101 yX1_copyId, Cond.instanceMethod yX1_copyId, Cond.selects RX1 yX1_copyId yX1_copyId, Cond.code yX1_copyId cX1_copyId 4 none, Cond.methodLink RX1 88 yX1_widthAbove, Cond.static yX1_widthAbove, Cond.code yX1_widthAbove cX1_widthAbove 1 (some .int)]
def wsX1_moveTapeTo : List Cond := .code yX1_moveTapeTo cX1_moveTapeTo 2 none :: ((wsX1_moveTapeTo_r1 ++ (wsX1_moveTapeTo_r2 ++ (wsX1_moveTapeTo_r3 ++ wsX1_moveTapeTo_r4))) ++ wsX10 ++ wsX00)
def wsX1_add_r1 : List Cond := [Cond.fieldLink RX1 31 "RootDesk" "leaves" "I", Cond.fieldLink RX1 13 "RootDesk" "leafLengths" "[I", Cond.methodLink RX1 52 yX1_moveTapeTo, Cond.instanceMethod yX1_moveTapeTo, Cond.selects RX1 yX1_moveTapeTo yX1_moveTapeTo, Cond.initialized RX1, Cond.code yX1_moveTapeTo cX1_moveTapeTo 2 none, Cond.fieldLink RX1 34 "RootDesk" "leafBytes" "I", Cond.fieldLink RX1 27 "RootDesk" "tapeLength" "I", Cond.methodLink RX1 77 yX1_makeLeafId, Cond.instanceMethod yX1_makeLeafId, Cond.selects RX1 yX1_makeLeafId yX1_makeLeafId, Cond.code yX1_makeLeafId cX1_makeLeafId 2 none, Cond.fieldLink RX1 23 "RootDesk" "digest" "LRootDesk$Digest;", Cond.fieldLink RX1 9 "RootDesk" "tape" "[B", Cond.fieldLink RX1 17 "RootDesk" "ids" "[I", Cond.methodLink RX1 37 yX0_begin, Cond.instanceMethod yX0_begin, Cond.selects RX0 yX0_begin yX0_begin, Cond.initialized RX0, Cond.code yX0_begin cX0_begin 1 none, Cond.fieldLink RX0 22 "RootDesk$Digest" "length" "I", Cond.methodLink RX1 95 yX0_takeByte, Cond.instanceMethod yX0_takeByte]
def wsX1_add_r2 : List Cond := [Cond.selects RX0 yX0_takeByte yX0_takeByte, Cond.code yX0_takeByte cX0_takeByte 2 none, Cond.fieldLink RX0 11 "RootDesk$Digest" "message" "[B", Cond.methodLink RX1 40 yX0_takeBytes, Cond.instanceMethod yX0_takeBytes, Cond.selects RX0 yX0_takeBytes yX0_takeBytes, Cond.code yX0_takeBytes cX0_takeBytes 4 none, Cond.methodLink RX0 26 yX0_takeByte, Cond.methodLink RX1 44 yX0_finishInto, Cond.instanceMethod yX0_finishInto, Cond.selects RX0 yX0_finishInto yX0_finishInto, Cond.code yX0_finishInto cX0_finishInto 4 none, Cond.fieldLink RX0 19 "RootDesk$Digest" "state" "[I", Cond.fieldLink RX0 36 "RootDesk$Digest" "FIRST_STATE" "[I", Cond.methodLink RX0 33 yX0_pad, Cond.instanceMethod yX0_pad, Cond.selects RX0 yX0_pad yX0_pad, Cond.code yX0_pad cX0_pad 4 none, Cond.constantLong RX0 45 (8), Cond.methodLink RX0 39 yX0_fillSchedule, Cond.instanceMethod yX0_fillSchedule, Cond.selects RX0 yX0_fillSchedule yX0_fillSchedule, Cond.code yX0_fillSchedule cX0_fillSchedule 7 none, Cond.fieldLink RX0 15 "RootDesk$Digest" "schedule" "[I"]
def wsX1_add_r3 : List Cond := [Cond.methodLink RX0 47 yX0_turn, Cond.static yX0_turn, Cond.code yX0_turn cX0_turn 2 (some .int), Cond.methodLink RX0 42 yX0_mixBlock, Cond.instanceMethod yX0_mixBlock, Cond.selects RX0 yX0_mixBlock yX0_mixBlock, Cond.code yX0_mixBlock cX0_mixBlock 15 none, Cond.fieldLink RX0 51 "RootDesk$Digest" "ROUND_WORDS" "[I", Cond.methodLink RX1 60 yX1_refreshAbove, Cond.instanceMethod yX1_refreshAbove, Cond.selects RX1 yX1_refreshAbove yX1_refreshAbove, Cond.code yX1_refreshAbove cX1_refreshAbove 7 none, Cond.fieldLink RX1 63 "RootDesk" "LEVEL_START" "[I", Cond.methodLink RX1 80 yX1_hasOneBeside, Cond.static yX1_hasOneBeside, Cond.code yX1_hasOneBeside cX1_hasOneBeside 2 (some .boolean), Cond.methodLink RX1 84 yX1_join, Cond.instanceMethod yX1_join, Cond.selects RX1 yX1_join yX1_join, Cond.code yX1_join cX1_join 4 none, Cond.methodLink RX1 98 yX0_takeId, Cond.instanceMethod yX0_takeId, Cond.selects RX0 yX0_takeId yX0_takeId, Cond.code yX0_takeId cX0_takeId 4 none]
def wsX1_add_r4 : List Cond := [Cond.methodLink RX0 30 yX0_takeWord, Cond.instanceMethod yX0_takeWord, Cond.selects RX0 yX0_takeWord yX0_takeWord, Cond.code yX0_takeWord cX0_takeWord 2 none, Cond.methodLink RX1 101 yX1_copyId, Cond.instanceMethod yX1_copyId, Cond.selects RX1 yX1_copyId yX1_copyId, Cond.code yX1_copyId cX1_copyId 4 none, Cond.methodLink RX1 88 yX1_widthAbove, Cond.static yX1_widthAbove, Cond.code yX1_widthAbove cX1_widthAbove 1 (some .int)]
def wsX1_add : List Cond := .code yX1_add cX1_add 2 (some .int) :: ((wsX1_add_r1 ++ (wsX1_add_r2 ++ (wsX1_add_r3 ++ wsX1_add_r4))) ++ wsX10 ++ wsX00)
def wsX1_isLeaf : List Cond := .code yX1_isLeaf cX1_isLeaf 2 (some .boolean) :: ([.fieldLink RX1 31 "RootDesk" "leaves" "I"] ++ wsX10)
def wsX1_change_r1 : List Cond := [Cond.methodLink RX1 56 yX1_isLeaf, Cond.instanceMethod yX1_isLeaf, Cond.selects RX1 yX1_isLeaf yX1_isLeaf, Cond.initialized RX1, Cond.code yX1_isLeaf cX1_isLeaf 2 (some .boolean), Cond.fieldLink RX1 31 "RootDesk" "leaves" "I", Cond.methodLink RX1 52 yX1_moveTapeTo, Cond.instanceMethod yX1_moveTapeTo, Cond.selects RX1 yX1_moveTapeTo yX1_moveTapeTo, Cond.code yX1_moveTapeTo cX1_moveTapeTo 2 none, Cond.fieldLink RX1 34 "RootDesk" "leafBytes" "I", Cond.fieldLink RX1 27 "RootDesk" "tapeLength" "I", Cond.fieldLink RX1 13 "RootDesk" "leafLengths" "[I", Cond.methodLink RX1 77 yX1_makeLeafId, Cond.instanceMethod yX1_makeLeafId, Cond.selects RX1 yX1_makeLeafId yX1_makeLeafId, Cond.code yX1_makeLeafId cX1_makeLeafId 2 none, Cond.fieldLink RX1 23 "RootDesk" "digest" "LRootDesk$Digest;", Cond.fieldLink RX1 9 "RootDesk" "tape" "[B", Cond.fieldLink RX1 17 "RootDesk" "ids" "[I", Cond.methodLink RX1 37 yX0_begin, Cond.instanceMethod yX0_begin, Cond.selects RX0 yX0_begin yX0_begin, Cond.initialized RX0]
def wsX1_change_r2 : List Cond := [Cond.code yX0_begin cX0_begin 1 none, Cond.fieldLink RX0 22 "RootDesk$Digest" "length" "I", Cond.methodLink RX1 95 yX0_takeByte, Cond.instanceMethod yX0_takeByte, Cond.selects RX0 yX0_takeByte yX0_takeByte, Cond.code yX0_takeByte cX0_takeByte 2 none, Cond.fieldLink RX0 11 "RootDesk$Digest" "message" "[B", Cond.methodLink RX1 40 yX0_takeBytes, Cond.instanceMethod yX0_takeBytes, Cond.selects RX0 yX0_takeBytes yX0_takeBytes, Cond.code yX0_takeBytes cX0_takeBytes 4 none, Cond.methodLink RX0 26 yX0_takeByte, Cond.methodLink RX1 44 yX0_finishInto, Cond.instanceMethod yX0_finishInto, Cond.selects RX0 yX0_finishInto yX0_finishInto, Cond.code yX0_finishInto cX0_finishInto 4 none, Cond.fieldLink RX0 19 "RootDesk$Digest" "state" "[I", Cond.fieldLink RX0 36 "RootDesk$Digest" "FIRST_STATE" "[I", Cond.methodLink RX0 33 yX0_pad, Cond.instanceMethod yX0_pad, Cond.selects RX0 yX0_pad yX0_pad, Cond.code yX0_pad cX0_pad 4 none, Cond.constantLong RX0 45 (8), Cond.methodLink RX0 39 yX0_fillSchedule]
def wsX1_change_r3 : List Cond := [Cond.instanceMethod yX0_fillSchedule, Cond.selects RX0 yX0_fillSchedule yX0_fillSchedule, Cond.code yX0_fillSchedule cX0_fillSchedule 7 none, Cond.fieldLink RX0 15 "RootDesk$Digest" "schedule" "[I", Cond.methodLink RX0 47 yX0_turn, Cond.static yX0_turn, Cond.code yX0_turn cX0_turn 2 (some .int), Cond.methodLink RX0 42 yX0_mixBlock, Cond.instanceMethod yX0_mixBlock, Cond.selects RX0 yX0_mixBlock yX0_mixBlock, Cond.code yX0_mixBlock cX0_mixBlock 15 none, Cond.fieldLink RX0 51 "RootDesk$Digest" "ROUND_WORDS" "[I", Cond.methodLink RX1 60 yX1_refreshAbove, Cond.instanceMethod yX1_refreshAbove, Cond.selects RX1 yX1_refreshAbove yX1_refreshAbove, Cond.code yX1_refreshAbove cX1_refreshAbove 7 none, Cond.fieldLink RX1 63 "RootDesk" "LEVEL_START" "[I", Cond.methodLink RX1 80 yX1_hasOneBeside, Cond.static yX1_hasOneBeside, Cond.code yX1_hasOneBeside cX1_hasOneBeside 2 (some .boolean), Cond.methodLink RX1 84 yX1_join, Cond.instanceMethod yX1_join, Cond.selects RX1 yX1_join yX1_join, Cond.code yX1_join cX1_join 4 none]
def wsX1_change_r4 : List Cond := [Cond.methodLink RX1 98 yX0_takeId, Cond.instanceMethod yX0_takeId, Cond.selects RX0 yX0_takeId yX0_takeId, Cond.code yX0_takeId cX0_takeId 4 none, Cond.methodLink RX0 30 yX0_takeWord, Cond.instanceMethod yX0_takeWord, Cond.selects RX0 yX0_takeWord yX0_takeWord, Cond.code yX0_takeWord cX0_takeWord 2 none, Cond.methodLink RX1 101 yX1_copyId, Cond.instanceMethod yX1_copyId, Cond.selects RX1 yX1_copyId yX1_copyId, Cond.code yX1_copyId cX1_copyId 4 none, Cond.methodLink RX1 88 yX1_widthAbove, Cond.static yX1_widthAbove, Cond.code yX1_widthAbove cX1_widthAbove 1 (some .int)]
def wsX1_change : List Cond := .code yX1_change cX1_change 2 (some .boolean) :: ((wsX1_change_r1 ++ (wsX1_change_r2 ++ (wsX1_change_r3 ++ wsX1_change_r4))) ++ wsX10 ++ wsX00)
def wsX1_drop_r1 : List Cond := [Cond.fieldLink RX1 31 "RootDesk" "leaves" "I", Cond.fieldLink RX1 34 "RootDesk" "leafBytes" "I", Cond.fieldLink RX1 13 "RootDesk" "leafLengths" "[I", Cond.methodLink RX1 60 yX1_refreshAbove, Cond.instanceMethod yX1_refreshAbove, Cond.selects RX1 yX1_refreshAbove yX1_refreshAbove, Cond.initialized RX1, Cond.code yX1_refreshAbove cX1_refreshAbove 7 none, Cond.fieldLink RX1 63 "RootDesk" "LEVEL_START" "[I", Cond.methodLink RX1 80 yX1_hasOneBeside, Cond.static yX1_hasOneBeside, Cond.code yX1_hasOneBeside cX1_hasOneBeside 2 (some .boolean), Cond.methodLink RX1 84 yX1_join, Cond.instanceMethod yX1_join, Cond.selects RX1 yX1_join yX1_join, Cond.code yX1_join cX1_join 4 none, Cond.fieldLink RX1 23 "RootDesk" "digest" "LRootDesk$Digest;", Cond.fieldLink RX1 17 "RootDesk" "ids" "[I", Cond.methodLink RX1 37 yX0_begin, Cond.instanceMethod yX0_begin, Cond.selects RX0 yX0_begin yX0_begin, Cond.initialized RX0, Cond.code yX0_begin cX0_begin 1 none, Cond.fieldLink RX0 22 "RootDesk$Digest" "length" "I"]
def wsX1_drop_r2 : List Cond := [Cond.methodLink RX1 95 yX0_takeByte, Cond.instanceMethod yX0_takeByte, Cond.selects RX0 yX0_takeByte yX0_takeByte, Cond.code yX0_takeByte cX0_takeByte 2 none, Cond.fieldLink RX0 11 "RootDesk$Digest" "message" "[B", Cond.methodLink RX1 98 yX0_takeId, Cond.instanceMethod yX0_takeId, Cond.selects RX0 yX0_takeId yX0_takeId, Cond.code yX0_takeId cX0_takeId 4 none, Cond.methodLink RX0 30 yX0_takeWord, Cond.instanceMethod yX0_takeWord, Cond.selects RX0 yX0_takeWord yX0_takeWord, Cond.code yX0_takeWord cX0_takeWord 2 none, Cond.methodLink RX0 26 yX0_takeByte, Cond.methodLink RX1 44 yX0_finishInto, Cond.instanceMethod yX0_finishInto, Cond.selects RX0 yX0_finishInto yX0_finishInto, Cond.code yX0_finishInto cX0_finishInto 4 none, Cond.fieldLink RX0 19 "RootDesk$Digest" "state" "[I", Cond.fieldLink RX0 36 "RootDesk$Digest" "FIRST_STATE" "[I", Cond.methodLink RX0 33 yX0_pad, Cond.instanceMethod yX0_pad, Cond.selects RX0 yX0_pad yX0_pad, Cond.code yX0_pad cX0_pad 4 none]
def wsX1_drop_r3 : List Cond := [Cond.constantLong RX0 45 (8), Cond.methodLink RX0 39 yX0_fillSchedule, Cond.instanceMethod yX0_fillSchedule, Cond.selects RX0 yX0_fillSchedule yX0_fillSchedule, Cond.code yX0_fillSchedule cX0_fillSchedule 7 none, Cond.fieldLink RX0 15 "RootDesk$Digest" "schedule" "[I", Cond.methodLink RX0 47 yX0_turn, Cond.static yX0_turn, Cond.code yX0_turn cX0_turn 2 (some .int), Cond.methodLink RX0 42 yX0_mixBlock, Cond.instanceMethod yX0_mixBlock, Cond.selects RX0 yX0_mixBlock yX0_mixBlock, Cond.code yX0_mixBlock cX0_mixBlock 15 none, Cond.fieldLink RX0 51 "RootDesk$Digest" "ROUND_WORDS" "[I", Cond.methodLink RX1 101 yX1_copyId, Cond.instanceMethod yX1_copyId, Cond.selects RX1 yX1_copyId yX1_copyId, Cond.code yX1_copyId cX1_copyId 4 none, Cond.methodLink RX1 88 yX1_widthAbove, Cond.static yX1_widthAbove, Cond.code yX1_widthAbove cX1_widthAbove 1 (some .int)]
def wsX1_drop : List Cond := .code yX1_drop cX1_drop 1 (some .int) :: ((wsX1_drop_r1 ++ (wsX1_drop_r2 ++ wsX1_drop_r3)) ++ wsX10 ++ wsX00)
def wsX1_rootLevel : List Cond := .code yX1_rootLevel cX1_rootLevel 3 (some .int) :: ([.fieldLink RX1 31 "RootDesk" "leaves" "I", .methodLink RX1 88 yX1_widthAbove, .static yX1_widthAbove, .initialized RX1, .code yX1_widthAbove cX1_widthAbove 1 (some .int)] ++ wsX10)
def wsX1_root : List Cond := .code yX1_root cX1_root 2 (some .long) :: ([.fieldLink RX1 31 "RootDesk" "leaves" "I", .fieldLink RX1 63 "RootDesk" "LEVEL_START" "[I", .methodLink RX1 66 yX1_rootLevel, .instanceMethod yX1_rootLevel, .selects RX1 yX1_rootLevel yX1_rootLevel, .initialized RX1, .code yX1_rootLevel cX1_rootLevel 3 (some .int), .methodLink RX1 88 yX1_widthAbove, .static yX1_widthAbove, .code yX1_widthAbove cX1_widthAbove 1 (some .int), .methodLink RX1 48 yX1_eightBytes, .instanceMethod yX1_eightBytes, .selects RX1 yX1_eightBytes yX1_eightBytes, .code yX1_eightBytes cX1_eightBytes 4 (some .long), .fieldLink RX1 17 "RootDesk" "ids" "[I", .constantLong RX1 105 (4294967295)] ++ wsX10)
def wsX1_levelOfStep : List Cond := .code yX1_levelOfStep cX1_levelOfStep 6 (some .int) :: ([.fieldLink RX1 31 "RootDesk" "leaves" "I", .methodLink RX1 56 yX1_isLeaf, .instanceMethod yX1_isLeaf, .selects RX1 yX1_isLeaf yX1_isLeaf, .initialized RX1, .code yX1_isLeaf cX1_isLeaf 2 (some .boolean), .methodLink RX1 80 yX1_hasOneBeside, .static yX1_hasOneBeside, .code yX1_hasOneBeside cX1_hasOneBeside 2 (some .boolean), .methodLink RX1 88 yX1_widthAbove, .static yX1_widthAbove, .code yX1_widthAbove cX1_widthAbove 1 (some .int)] ++ wsX10)
def wsX1_way : List Cond := .code yX1_way cX1_way 3 (some .int) :: ([.methodLink RX1 56 yX1_isLeaf, .instanceMethod yX1_isLeaf, .selects RX1 yX1_isLeaf yX1_isLeaf, .initialized RX1, .code yX1_isLeaf cX1_isLeaf 2 (some .boolean), .fieldLink RX1 31 "RootDesk" "leaves" "I", .methodLink RX1 70 yX1_levelOfStep, .instanceMethod yX1_levelOfStep, .selects RX1 yX1_levelOfStep yX1_levelOfStep, .code yX1_levelOfStep cX1_levelOfStep 6 (some .int), .methodLink RX1 80 yX1_hasOneBeside, .static yX1_hasOneBeside, .code yX1_hasOneBeside cX1_hasOneBeside 2 (some .boolean), .methodLink RX1 88 yX1_widthAbove, .static yX1_widthAbove, .code yX1_widthAbove cX1_widthAbove 1 (some .int)] ++ wsX10)
def wsX1_nodeBeside : List Cond := .code yX1_nodeBeside cX1_nodeBeside 2 (some .int) :: ([.fieldLink RX1 63 "RootDesk" "LEVEL_START" "[I"])
def wsX1_beside_r1 : List Cond := [Cond.methodLink RX1 70 yX1_levelOfStep, Cond.instanceMethod yX1_levelOfStep, Cond.selects RX1 yX1_levelOfStep yX1_levelOfStep, Cond.initialized RX1, Cond.code yX1_levelOfStep cX1_levelOfStep 6 (some .int), Cond.fieldLink RX1 31 "RootDesk" "leaves" "I", Cond.methodLink RX1 56 yX1_isLeaf, Cond.instanceMethod yX1_isLeaf, Cond.selects RX1 yX1_isLeaf yX1_isLeaf, Cond.code yX1_isLeaf cX1_isLeaf 2 (some .boolean), Cond.methodLink RX1 80 yX1_hasOneBeside, Cond.static yX1_hasOneBeside, Cond.code yX1_hasOneBeside cX1_hasOneBeside 2 (some .boolean), Cond.methodLink RX1 88 yX1_widthAbove, Cond.static yX1_widthAbove, Cond.code yX1_widthAbove cX1_widthAbove 1 (some .int), Cond.methodLink RX1 74 yX1_nodeBeside, Cond.static yX1_nodeBeside, Cond.code yX1_nodeBeside cX1_nodeBeside 2 (some .int), Cond.fieldLink RX1 63 "RootDesk" "LEVEL_START" "[I", Cond.methodLink RX1 48 yX1_eightBytes, Cond.instanceMethod yX1_eightBytes, Cond.selects RX1 yX1_eightBytes yX1_eightBytes, Cond.code yX1_eightBytes cX1_eightBytes 4 (some .long)]
def wsX1_beside_r2 : List Cond := [Cond.fieldLink RX1 17 "RootDesk" "ids" "[I", Cond.constantLong RX1 105 (4294967295)]
def wsX1_beside : List Cond := .code yX1_beside cX1_beside 5 (some .long) :: ((wsX1_beside_r1 ++ wsX1_beside_r2) ++ wsX10)
def wsX1_isLeft : List Cond := .code yX1_isLeft cX1_isLeft 4 (some .int) :: ([.methodLink RX1 70 yX1_levelOfStep, .instanceMethod yX1_levelOfStep, .selects RX1 yX1_levelOfStep yX1_levelOfStep, .initialized RX1, .code yX1_levelOfStep cX1_levelOfStep 6 (some .int), .fieldLink RX1 31 "RootDesk" "leaves" "I", .methodLink RX1 56 yX1_isLeaf, .instanceMethod yX1_isLeaf, .selects RX1 yX1_isLeaf yX1_isLeaf, .code yX1_isLeaf cX1_isLeaf 2 (some .boolean), .methodLink RX1 80 yX1_hasOneBeside, .static yX1_hasOneBeside, .code yX1_hasOneBeside cX1_hasOneBeside 2 (some .boolean), .methodLink RX1 88 yX1_widthAbove, .static yX1_widthAbove, .code yX1_widthAbove cX1_widthAbove 1 (some .int)] ++ wsX10)
def wsX1_sameIds : List Cond := .code yX1_sameIds cX1_sameIds 4 (some .boolean) :: ([.fieldLink RX1 17 "RootDesk" "ids" "[I"] ++ wsX10)
def wsX1_proves_r1 : List Cond := [Cond.fieldLink RX1 31 "RootDesk" "leaves" "I", Cond.fieldLink RX1 63 "RootDesk" "LEVEL_START" "[I", Cond.methodLink RX1 56 yX1_isLeaf, Cond.instanceMethod yX1_isLeaf, Cond.selects RX1 yX1_isLeaf yX1_isLeaf, Cond.initialized RX1, Cond.code yX1_isLeaf cX1_isLeaf 2 (some .boolean), Cond.methodLink RX1 77 yX1_makeLeafId, Cond.instanceMethod yX1_makeLeafId, Cond.selects RX1 yX1_makeLeafId yX1_makeLeafId, Cond.code yX1_makeLeafId cX1_makeLeafId 2 none, Cond.fieldLink RX1 23 "RootDesk" "digest" "LRootDesk$Digest;", Cond.fieldLink RX1 9 "RootDesk" "tape" "[B", Cond.fieldLink RX1 27 "RootDesk" "tapeLength" "I", Cond.fieldLink RX1 17 "RootDesk" "ids" "[I", Cond.methodLink RX1 37 yX0_begin, Cond.instanceMethod yX0_begin, Cond.selects RX0 yX0_begin yX0_begin, Cond.initialized RX0, Cond.code yX0_begin cX0_begin 1 none, Cond.fieldLink RX0 22 "RootDesk$Digest" "length" "I", Cond.methodLink RX1 95 yX0_takeByte, Cond.instanceMethod yX0_takeByte, Cond.selects RX0 yX0_takeByte yX0_takeByte]
def wsX1_proves_r2 : List Cond := [Cond.code yX0_takeByte cX0_takeByte 2 none, Cond.fieldLink RX0 11 "RootDesk$Digest" "message" "[B", Cond.methodLink RX1 40 yX0_takeBytes, Cond.instanceMethod yX0_takeBytes, Cond.selects RX0 yX0_takeBytes yX0_takeBytes, Cond.code yX0_takeBytes cX0_takeBytes 4 none, Cond.methodLink RX0 26 yX0_takeByte, Cond.methodLink RX1 44 yX0_finishInto, Cond.instanceMethod yX0_finishInto, Cond.selects RX0 yX0_finishInto yX0_finishInto, Cond.code yX0_finishInto cX0_finishInto 4 none, Cond.fieldLink RX0 19 "RootDesk$Digest" "state" "[I", Cond.fieldLink RX0 36 "RootDesk$Digest" "FIRST_STATE" "[I", Cond.methodLink RX0 33 yX0_pad, Cond.instanceMethod yX0_pad, Cond.selects RX0 yX0_pad yX0_pad, Cond.code yX0_pad cX0_pad 4 none, Cond.constantLong RX0 45 (8), Cond.methodLink RX0 39 yX0_fillSchedule, Cond.instanceMethod yX0_fillSchedule, Cond.selects RX0 yX0_fillSchedule yX0_fillSchedule, Cond.code yX0_fillSchedule cX0_fillSchedule 7 none, Cond.fieldLink RX0 15 "RootDesk$Digest" "schedule" "[I", Cond.methodLink RX0 47 yX0_turn]
def wsX1_proves_r3 : List Cond := [Cond.static yX0_turn, Cond.code yX0_turn cX0_turn 2 (some .int), Cond.methodLink RX0 42 yX0_mixBlock, Cond.instanceMethod yX0_mixBlock, Cond.selects RX0 yX0_mixBlock yX0_mixBlock, Cond.code yX0_mixBlock cX0_mixBlock 15 none, Cond.fieldLink RX0 51 "RootDesk$Digest" "ROUND_WORDS" "[I", Cond.methodLink RX1 80 yX1_hasOneBeside, Cond.static yX1_hasOneBeside, Cond.code yX1_hasOneBeside cX1_hasOneBeside 2 (some .boolean), Cond.methodLink RX1 74 yX1_nodeBeside, Cond.static yX1_nodeBeside, Cond.code yX1_nodeBeside cX1_nodeBeside 2 (some .int), Cond.methodLink RX1 84 yX1_join, Cond.instanceMethod yX1_join, Cond.selects RX1 yX1_join yX1_join, Cond.code yX1_join cX1_join 4 none, Cond.methodLink RX1 98 yX0_takeId, Cond.instanceMethod yX0_takeId, Cond.selects RX0 yX0_takeId yX0_takeId, Cond.code yX0_takeId cX0_takeId 4 none, Cond.methodLink RX0 30 yX0_takeWord, Cond.instanceMethod yX0_takeWord, Cond.selects RX0 yX0_takeWord yX0_takeWord]
def wsX1_proves_r4 : List Cond := [Cond.code yX0_takeWord cX0_takeWord 2 none, Cond.methodLink RX1 88 yX1_widthAbove, Cond.static yX1_widthAbove, Cond.code yX1_widthAbove cX1_widthAbove 1 (some .int), Cond.methodLink RX1 66 yX1_rootLevel, Cond.instanceMethod yX1_rootLevel, Cond.selects RX1 yX1_rootLevel yX1_rootLevel, Cond.code yX1_rootLevel cX1_rootLevel 3 (some .int), Cond.methodLink RX1 92 yX1_sameIds, Cond.instanceMethod yX1_sameIds, Cond.selects RX1 yX1_sameIds yX1_sameIds, Cond.code yX1_sameIds cX1_sameIds 4 (some .boolean)]
def wsX1_proves : List Cond := .code yX1_proves cX1_proves 7 (some .int) :: ((wsX1_proves_r1 ++ (wsX1_proves_r2 ++ (wsX1_proves_r3 ++ wsX1_proves_r4))) ++ wsX10 ++ wsX00)
def wsX1_count : List Cond := .code yX1_count cX1_count 2 (some .int) :: ([.fieldLink RX1 27 "RootDesk" "tapeLength" "I", .fieldLink RX1 31 "RootDesk" "leaves" "I", .fieldLink RX1 34 "RootDesk" "leafBytes" "I", .methodLink RX1 66 yX1_rootLevel, .instanceMethod yX1_rootLevel, .selects RX1 yX1_rootLevel yX1_rootLevel, .initialized RX1, .code yX1_rootLevel cX1_rootLevel 3 (some .int), .methodLink RX1 88 yX1_widthAbove, .static yX1_widthAbove, .code yX1_widthAbove cX1_widthAbove 1 (some .int)] ++ wsX10)
set_option maxRecDepth 20000 in
theorem ggX0_takeBytes_X0_takeByte : GoodIn wsX0_takeBytes wsX0_takeByte := goodIn_r _ [5, 6, 7, 8, 9, 10, 11] (by decide +kernel) (by decide +kernel)
set_option maxRecDepth 20000 in
theorem gX0_takeBytes_X0_takeByte : GoodIn wsX0_takeBytes (wsV RX0 26 RX0 yX0_takeByte wsX0_takeByte) := goodIn_app (goodIn_of _ (by decide +kernel)) ggX0_takeBytes_X0_takeByte
set_option maxRecDepth 20000 in
theorem ggX0_takeId_X0_takeWord : GoodIn wsX0_takeId wsX0_takeWord := goodIn_r _ [5, 6, 7, 8, 4, 9, 10, 11, 12, 13, 14, 15] (by decide +kernel) (by decide +kernel)
set_option maxRecDepth 20000 in
theorem gX0_takeId_X0_takeWord : GoodIn wsX0_takeId (wsV RX0 30 RX0 yX0_takeWord wsX0_takeWord) := goodIn_app (goodIn_of _ (by decide +kernel)) ggX0_takeId_X0_takeWord
set_option maxRecDepth 20000 in
theorem ggX0_takeWord_X0_takeByte : GoodIn wsX0_takeWord wsX0_takeByte := goodIn_r _ [5, 6, 7, 8, 9, 10, 11] (by decide +kernel) (by decide +kernel)
set_option maxRecDepth 20000 in
theorem gX0_takeWord_X0_takeByte : GoodIn wsX0_takeWord (wsV RX0 26 RX0 yX0_takeByte wsX0_takeByte) := goodIn_app (goodIn_of _ (by decide +kernel)) ggX0_takeWord_X0_takeByte
set_option maxRecDepth 20000 in
theorem ggX0_finishInto_X0_pad : GoodIn wsX0_finishInto wsX0_pad := goodIn_r _ [8, 9, 3, 10, 11, 12, 7, 13, 14, 28, 29, 30, 31] (by decide +kernel) (by decide +kernel)
set_option maxRecDepth 20000 in
theorem gX0_finishInto_X0_pad : GoodIn wsX0_finishInto (wsV RX0 33 RX0 yX0_pad wsX0_pad) := goodIn_app (goodIn_of _ (by decide +kernel)) ggX0_finishInto_X0_pad
set_option maxRecDepth 20000 in
theorem ggX0_finishInto_X0_fillSchedule : GoodIn wsX0_finishInto wsX0_fillSchedule := goodIn_r _ [18, 19, 14, 20, 21, 7, 22, 28, 29, 30, 31] (by decide +kernel) (by decide +kernel)
set_option maxRecDepth 20000 in
theorem gX0_finishInto_X0_fillSchedule : GoodIn wsX0_finishInto (wsV RX0 39 RX0 yX0_fillSchedule wsX0_fillSchedule) := goodIn_app (goodIn_of _ (by decide +kernel)) ggX0_finishInto_X0_fillSchedule
set_option maxRecDepth 20000 in
theorem ggX0_finishInto_X0_mixBlock : GoodIn wsX0_finishInto wsX0_mixBlock := goodIn_r _ [26, 1, 27, 19, 20, 21, 7, 22, 28, 29, 30, 31] (by decide +kernel) (by decide +kernel)
set_option maxRecDepth 20000 in
theorem gX0_finishInto_X0_mixBlock : GoodIn wsX0_finishInto (wsV RX0 42 RX0 yX0_mixBlock wsX0_mixBlock) := goodIn_app (goodIn_of _ (by decide +kernel)) ggX0_finishInto_X0_mixBlock
set_option maxRecDepth 20000 in
theorem ggX0_pad_X0_takeByte : GoodIn wsX0_pad wsX0_takeByte := goodIn_r _ [7, 2, 8, 9, 10, 11, 12] (by decide +kernel) (by decide +kernel)
set_option maxRecDepth 20000 in
theorem gX0_pad_X0_takeByte : GoodIn wsX0_pad (wsV RX0 26 RX0 yX0_takeByte wsX0_takeByte) := goodIn_app (goodIn_of _ (by decide +kernel)) ggX0_pad_X0_takeByte
set_option maxRecDepth 20000 in
theorem ggX0_fillSchedule_X0_turn : GoodIn wsX0_fillSchedule wsX0_turn := goodIn_r _ [6] (by decide +kernel) (by decide +kernel)
set_option maxRecDepth 20000 in
theorem gX0_fillSchedule_X0_turn : GoodIn wsX0_fillSchedule (va_wsS RX0 47 yX0_turn wsX0_turn) := goodIn_app (goodIn_of _ (by decide +kernel)) ggX0_fillSchedule_X0_turn
set_option maxRecDepth 20000 in
theorem ggX0_mixBlock_X0_turn : GoodIn wsX0_mixBlock wsX0_turn := goodIn_r _ [7] (by decide +kernel) (by decide +kernel)
set_option maxRecDepth 20000 in
theorem gX0_mixBlock_X0_turn : GoodIn wsX0_mixBlock (va_wsS RX0 47 yX0_turn wsX0_turn) := goodIn_app (goodIn_of _ (by decide +kernel)) ggX0_mixBlock_X0_turn
set_option maxRecDepth 20000 in
theorem ggX1_init_X0_init : GoodIn wsX1_init wsX0_init := goodIn_r _ [18, 19, 2, 3, 4, 20, 6, 21, 22, 23, 31, 32, 33, 34] (by decide +kernel) (by decide +kernel)
set_option maxRecDepth 20000 in
theorem gX1_init_X0_init : GoodIn wsX1_init (wsX0_init) := ggX1_init_X0_init
set_option maxRecDepth 20000 in
theorem ggX1_hash_X0_begin : GoodIn wsX1_hash wsX0_begin := goodIn_r _ [9, 10, 57, 58, 59, 60] (by decide +kernel) (by decide +kernel)
set_option maxRecDepth 20000 in
theorem gX1_hash_X0_begin : GoodIn wsX1_hash (wsV RX1 37 RX0 yX0_begin wsX0_begin) := goodIn_app (goodIn_of _ (by decide +kernel)) ggX1_hash_X0_begin
set_option maxRecDepth 20000 in
theorem ggX1_hash_X0_takeBytes : GoodIn wsX1_hash wsX0_takeBytes := goodIn_r _ [14, 15, 16, 17, 8, 18, 10, 19, 57, 58, 59, 60] (by decide +kernel) (by decide +kernel)
set_option maxRecDepth 20000 in
theorem gX1_hash_X0_takeBytes : GoodIn wsX1_hash (wsV RX1 40 RX0 yX0_takeBytes wsX0_takeBytes) := goodIn_app (goodIn_of _ (by decide +kernel)) ggX1_hash_X0_takeBytes
set_option maxRecDepth 20000 in
theorem ggX1_hash_X0_finishInto : GoodIn wsX1_hash wsX0_finishInto := goodIn_r _ [23, 24, 25, 10, 26, 27, 28, 8, 29, 30, 15, 16, 17, 18, 19, 31, 32, 33, 34, 35, 36, 37, 38, 39, 40, 41, 42, 43, 57, 58, 59, 60] (by decide +kernel) (by decide +kernel)
set_option maxRecDepth 20000 in
theorem gX1_hash_X0_finishInto : GoodIn wsX1_hash (wsV RX1 44 RX0 yX0_finishInto wsX0_finishInto) := goodIn_app (goodIn_of _ (by decide +kernel)) ggX1_hash_X0_finishInto
set_option maxRecDepth 20000 in
theorem ggX1_hash_X1_eightBytes : GoodIn wsX1_hash wsX1_eightBytes := goodIn_r _ [48, 4, 49, 50, 51, 52, 53, 54, 55, 56] (by decide +kernel) (by decide +kernel)
set_option maxRecDepth 20000 in
theorem gX1_hash_X1_eightBytes : GoodIn wsX1_hash (wsV RX1 48 RX1 yX1_eightBytes wsX1_eightBytes) := goodIn_app (goodIn_of _ (by decide +kernel)) ggX1_hash_X1_eightBytes
set_option maxRecDepth 20000 in
theorem ggX1_add_X1_moveTapeTo : GoodIn wsX1_add wsX1_moveTapeTo := goodIn_r _ [7, 8, 9, 2, 10, 11, 12, 6, 13, 14, 15, 16, 17, 18, 19, 20, 21, 22, 23, 24, 25, 26, 27, 28, 29, 30, 31, 32, 33, 34, 35, 36, 37, 38, 39, 40, 41, 42, 43, 44, 45, 46, 47, 48, 49, 50, 51, 52, 53, 54, 55, 56, 57, 58, 59, 60, 1, 61, 62, 63, 64, 65, 66, 67, 68, 69, 70, 71, 72, 73, 74, 75, 76, 77, 78, 79, 80, 81, 82, 83, 84, 85, 86, 87, 88, 89, 90, 91, 92, 93, 94] (by decide +kernel) (by decide +kernel)
set_option maxRecDepth 20000 in
theorem gX1_add_X1_moveTapeTo : GoodIn wsX1_add (wsV RX1 52 RX1 yX1_moveTapeTo wsX1_moveTapeTo) := goodIn_app (goodIn_of _ (by decide +kernel)) ggX1_add_X1_moveTapeTo
set_option maxRecDepth 20000 in
theorem ggX1_change_X1_isLeaf : GoodIn wsX1_change wsX1_isLeaf := goodIn_r _ [5, 6, 88, 89, 90, 91, 92, 93, 94] (by decide +kernel) (by decide +kernel)
set_option maxRecDepth 20000 in
theorem gX1_change_X1_isLeaf : GoodIn wsX1_change (wsV RX1 56 RX1 yX1_isLeaf wsX1_isLeaf) := goodIn_app (goodIn_of _ (by decide +kernel)) ggX1_change_X1_isLeaf
set_option maxRecDepth 20000 in
theorem ggX1_change_X1_moveTapeTo : GoodIn wsX1_change wsX1_moveTapeTo := goodIn_r _ [10, 11, 12, 13, 14, 15, 16, 4, 17, 18, 19, 20, 21, 22, 23, 24, 25, 26, 27, 28, 29, 30, 31, 32, 33, 34, 35, 36, 37, 38, 39, 40, 41, 42, 43, 44, 45, 46, 47, 48, 49, 50, 51, 52, 53, 54, 55, 56, 57, 58, 59, 60, 61, 62, 63, 64, 6, 65, 66, 67, 68, 69, 70, 71, 72, 73, 74, 75, 76, 77, 78, 79, 80, 81, 82, 83, 84, 85, 86, 87, 88, 89, 90, 91, 92, 93, 94, 95, 96, 97, 98] (by decide +kernel) (by decide +kernel)
set_option maxRecDepth 20000 in
theorem gX1_change_X1_moveTapeTo : GoodIn wsX1_change (wsV RX1 52 RX1 yX1_moveTapeTo wsX1_moveTapeTo) := goodIn_app (goodIn_of _ (by decide +kernel)) ggX1_change_X1_moveTapeTo
set_option maxRecDepth 20000 in
theorem ggX1_drop_X1_refreshAbove : GoodIn wsX1_drop wsX1_refreshAbove := goodIn_r _ [8, 1, 9, 10, 11, 7, 12, 13, 14, 15, 16, 17, 18, 19, 20, 21, 22, 23, 24, 25, 26, 27, 28, 29, 30, 31, 32, 33, 34, 35, 36, 37, 38, 39, 40, 41, 42, 43, 44, 45, 46, 47, 48, 49, 50, 51, 52, 53, 54, 55, 56, 57, 58, 59, 60, 61, 62, 63, 64, 65, 66, 67, 68, 69, 70, 71, 72, 73, 74, 75, 76, 77, 78, 79, 80] (by decide +kernel) (by decide +kernel)
set_option maxRecDepth 20000 in
theorem gX1_drop_X1_refreshAbove : GoodIn wsX1_drop (wsV RX1 60 RX1 yX1_refreshAbove wsX1_refreshAbove) := goodIn_app (goodIn_of _ (by decide +kernel)) ggX1_drop_X1_refreshAbove
set_option maxRecDepth 20000 in
theorem ggX1_root_X1_rootLevel : GoodIn wsX1_root wsX1_rootLevel := goodIn_r _ [7, 1, 8, 9, 6, 10, 17, 18, 19, 20, 21, 22, 23] (by decide +kernel) (by decide +kernel)
set_option maxRecDepth 20000 in
theorem gX1_root_X1_rootLevel : GoodIn wsX1_root (wsV RX1 66 RX1 yX1_rootLevel wsX1_rootLevel) := goodIn_app (goodIn_of _ (by decide +kernel)) ggX1_root_X1_rootLevel
set_option maxRecDepth 20000 in
theorem ggX1_root_X1_eightBytes : GoodIn wsX1_root wsX1_eightBytes := goodIn_r _ [14, 15, 16, 17, 18, 19, 20, 21, 22, 23] (by decide +kernel) (by decide +kernel)
set_option maxRecDepth 20000 in
theorem gX1_root_X1_eightBytes : GoodIn wsX1_root (wsV RX1 48 RX1 yX1_eightBytes wsX1_eightBytes) := goodIn_app (goodIn_of _ (by decide +kernel)) ggX1_root_X1_eightBytes
set_option maxRecDepth 20000 in
theorem ggX1_way_X1_isLeaf : GoodIn wsX1_way wsX1_isLeaf := goodIn_r _ [5, 6, 17, 18, 19, 20, 21, 22, 23] (by decide +kernel) (by decide +kernel)
set_option maxRecDepth 20000 in
theorem gX1_way_X1_isLeaf : GoodIn wsX1_way (wsV RX1 56 RX1 yX1_isLeaf wsX1_isLeaf) := goodIn_app (goodIn_of _ (by decide +kernel)) ggX1_way_X1_isLeaf
set_option maxRecDepth 20000 in
theorem ggX1_way_X1_levelOfStep : GoodIn wsX1_way wsX1_levelOfStep := goodIn_r _ [10, 6, 1, 2, 3, 4, 5, 11, 12, 13, 14, 15, 16, 17, 18, 19, 20, 21, 22, 23] (by decide +kernel) (by decide +kernel)
set_option maxRecDepth 20000 in
theorem gX1_way_X1_levelOfStep : GoodIn wsX1_way (wsV RX1 70 RX1 yX1_levelOfStep wsX1_levelOfStep) := goodIn_app (goodIn_of _ (by decide +kernel)) ggX1_way_X1_levelOfStep
set_option maxRecDepth 20000 in
theorem ggX1_beside_X1_levelOfStep : GoodIn wsX1_beside wsX1_levelOfStep := goodIn_r _ [5, 6, 7, 8, 9, 4, 10, 11, 12, 13, 14, 15, 16, 27, 28, 29, 30, 31, 32, 33] (by decide +kernel) (by decide +kernel)
set_option maxRecDepth 20000 in
theorem gX1_beside_X1_levelOfStep : GoodIn wsX1_beside (wsV RX1 70 RX1 yX1_levelOfStep wsX1_levelOfStep) := goodIn_app (goodIn_of _ (by decide +kernel)) ggX1_beside_X1_levelOfStep
set_option maxRecDepth 20000 in
theorem ggX1_beside_X1_nodeBeside : GoodIn wsX1_beside wsX1_nodeBeside := goodIn_r _ [19, 20] (by decide +kernel) (by decide +kernel)
set_option maxRecDepth 20000 in
theorem gX1_beside_X1_nodeBeside : GoodIn wsX1_beside (va_wsS RX1 74 yX1_nodeBeside wsX1_nodeBeside) := goodIn_app (goodIn_of _ (by decide +kernel)) ggX1_beside_X1_nodeBeside
set_option maxRecDepth 20000 in
theorem ggX1_beside_X1_eightBytes : GoodIn wsX1_beside wsX1_eightBytes := goodIn_r _ [24, 25, 26, 27, 28, 29, 30, 31, 32, 33] (by decide +kernel) (by decide +kernel)
set_option maxRecDepth 20000 in
theorem gX1_beside_X1_eightBytes : GoodIn wsX1_beside (wsV RX1 48 RX1 yX1_eightBytes wsX1_eightBytes) := goodIn_app (goodIn_of _ (by decide +kernel)) ggX1_beside_X1_eightBytes
set_option maxRecDepth 20000 in
theorem ggX1_isLeft_X1_levelOfStep : GoodIn wsX1_isLeft wsX1_levelOfStep := goodIn_r _ [5, 6, 7, 8, 9, 4, 10, 11, 12, 13, 14, 15, 16, 17, 18, 19, 20, 21, 22, 23] (by decide +kernel) (by decide +kernel)
set_option maxRecDepth 20000 in
theorem gX1_isLeft_X1_levelOfStep : GoodIn wsX1_isLeft (wsV RX1 70 RX1 yX1_levelOfStep wsX1_levelOfStep) := goodIn_app (goodIn_of _ (by decide +kernel)) ggX1_isLeft_X1_levelOfStep
set_option maxRecDepth 20000 in
theorem ggX1_proves_X1_isLeaf : GoodIn wsX1_proves wsX1_isLeaf := goodIn_r _ [7, 1, 85, 86, 87, 88, 89, 90, 91] (by decide +kernel) (by decide +kernel)
set_option maxRecDepth 20000 in
theorem gX1_proves_X1_isLeaf : GoodIn wsX1_proves (wsV RX1 56 RX1 yX1_isLeaf wsX1_isLeaf) := goodIn_app (goodIn_of _ (by decide +kernel)) ggX1_proves_X1_isLeaf
set_option maxRecDepth 20000 in
theorem ggX1_proves_X1_makeLeafId : GoodIn wsX1_proves wsX1_makeLeafId := goodIn_r _ [11, 12, 13, 14, 15, 16, 17, 18, 19, 20, 21, 22, 23, 24, 25, 26, 27, 28, 29, 30, 31, 32, 33, 34, 35, 36, 37, 38, 39, 40, 41, 42, 43, 44, 45, 46, 47, 48, 49, 50, 51, 52, 53, 54, 55, 85, 86, 87, 88, 89, 90, 91, 92, 93, 94, 95] (by decide +kernel) (by decide +kernel)
set_option maxRecDepth 20000 in
theorem gX1_proves_X1_makeLeafId : GoodIn wsX1_proves (wsV RX1 77 RX1 yX1_makeLeafId wsX1_makeLeafId) := goodIn_app (goodIn_of _ (by decide +kernel)) ggX1_proves_X1_makeLeafId
set_option maxRecDepth 20000 in
theorem ggX1_proves_X1_hasOneBeside : GoodIn wsX1_proves wsX1_hasOneBeside := goodIn_r _ [58] (by decide +kernel) (by decide +kernel)
set_option maxRecDepth 20000 in
theorem gX1_proves_X1_hasOneBeside : GoodIn wsX1_proves (va_wsS RX1 80 yX1_hasOneBeside wsX1_hasOneBeside) := goodIn_app (goodIn_of _ (by decide +kernel)) ggX1_proves_X1_hasOneBeside
set_option maxRecDepth 20000 in
theorem ggX1_proves_X1_nodeBeside : GoodIn wsX1_proves wsX1_nodeBeside := goodIn_r _ [61, 2] (by decide +kernel) (by decide +kernel)
set_option maxRecDepth 20000 in
theorem gX1_proves_X1_nodeBeside : GoodIn wsX1_proves (va_wsS RX1 74 yX1_nodeBeside wsX1_nodeBeside) := goodIn_app (goodIn_of _ (by decide +kernel)) ggX1_proves_X1_nodeBeside
set_option maxRecDepth 20000 in
theorem ggX1_proves_X1_join : GoodIn wsX1_proves wsX1_join := goodIn_r _ [65, 12, 15, 16, 17, 18, 19, 20, 21, 22, 23, 24, 25, 26, 66, 67, 68, 69, 70, 71, 72, 73, 31, 32, 33, 34, 35, 36, 37, 38, 39, 40, 41, 42, 43, 44, 45, 46, 47, 48, 49, 50, 51, 52, 53, 54, 55, 85, 86, 87, 88, 89, 90, 91, 92, 93, 94, 95] (by decide +kernel) (by decide +kernel)
set_option maxRecDepth 20000 in
theorem gX1_proves_X1_join : GoodIn wsX1_proves (wsV RX1 84 RX1 yX1_join wsX1_join) := goodIn_app (goodIn_of _ (by decide +kernel)) ggX1_proves_X1_join
set_option maxRecDepth 20000 in
theorem ggX1_proves_X1_widthAbove : GoodIn wsX1_proves wsX1_widthAbove := goodIn_r _ [76] (by decide +kernel) (by decide +kernel)
set_option maxRecDepth 20000 in
theorem gX1_proves_X1_widthAbove : GoodIn wsX1_proves (va_wsS RX1 88 yX1_widthAbove wsX1_widthAbove) := goodIn_app (goodIn_of _ (by decide +kernel)) ggX1_proves_X1_widthAbove
set_option maxRecDepth 20000 in
theorem ggX1_proves_X1_rootLevel : GoodIn wsX1_proves wsX1_rootLevel := goodIn_r _ [80, 1, 74, 75, 6, 76, 85, 86, 87, 88, 89, 90, 91] (by decide +kernel) (by decide +kernel)
set_option maxRecDepth 20000 in
theorem gX1_proves_X1_rootLevel : GoodIn wsX1_proves (wsV RX1 66 RX1 yX1_rootLevel wsX1_rootLevel) := goodIn_app (goodIn_of _ (by decide +kernel)) ggX1_proves_X1_rootLevel
set_option maxRecDepth 20000 in
theorem ggX1_proves_X1_sameIds : GoodIn wsX1_proves wsX1_sameIds := goodIn_r _ [84, 15, 85, 86, 87, 88, 89, 90, 91] (by decide +kernel) (by decide +kernel)
set_option maxRecDepth 20000 in
theorem gX1_proves_X1_sameIds : GoodIn wsX1_proves (wsV RX1 92 RX1 yX1_sameIds wsX1_sameIds) := goodIn_app (goodIn_of _ (by decide +kernel)) ggX1_proves_X1_sameIds
set_option maxRecDepth 20000 in
theorem ggX1_count_X1_rootLevel : GoodIn wsX1_count wsX1_rootLevel := goodIn_r _ [8, 2, 9, 10, 7, 11, 12, 13, 14, 15, 16, 17, 18] (by decide +kernel) (by decide +kernel)
set_option maxRecDepth 20000 in
theorem gX1_count_X1_rootLevel : GoodIn wsX1_count (wsV RX1 66 RX1 yX1_rootLevel wsX1_rootLevel) := goodIn_app (goodIn_of _ (by decide +kernel)) ggX1_count_X1_rootLevel
set_option maxRecDepth 20000 in
theorem ggX1_moveTapeTo_X1_makeLeafId : GoodIn wsX1_moveTapeTo wsX1_makeLeafId := goodIn_r _ [8, 9, 10, 2, 11, 12, 13, 14, 15, 16, 17, 18, 19, 20, 21, 22, 23, 24, 25, 26, 27, 28, 29, 30, 31, 32, 33, 34, 35, 36, 37, 38, 39, 40, 41, 42, 43, 44, 45, 46, 47, 48, 49, 50, 51, 80, 81, 82, 83, 84, 85, 86, 87, 88, 89, 90] (by decide +kernel) (by decide +kernel)
set_option maxRecDepth 20000 in
theorem gX1_moveTapeTo_X1_makeLeafId : GoodIn wsX1_moveTapeTo (wsV RX1 77 RX1 yX1_makeLeafId wsX1_makeLeafId) := goodIn_app (goodIn_of _ (by decide +kernel)) ggX1_moveTapeTo_X1_makeLeafId
set_option maxRecDepth 20000 in
theorem ggX1_moveTapeTo_X1_refreshAbove : GoodIn wsX1_moveTapeTo wsX1_refreshAbove := goodIn_r _ [55, 56, 57, 58, 59, 7, 60, 61, 62, 63, 64, 9, 11, 12, 13, 14, 15, 16, 17, 18, 19, 20, 21, 22, 65, 66, 67, 68, 69, 70, 71, 72, 27, 28, 29, 30, 31, 32, 33, 34, 35, 36, 37, 38, 39, 40, 41, 42, 43, 44, 45, 46, 47, 48, 49, 50, 51, 73, 74, 75, 76, 77, 78, 79, 80, 81, 82, 83, 84, 85, 86, 87, 88, 89, 90] (by decide +kernel) (by decide +kernel)
set_option maxRecDepth 20000 in
theorem gX1_moveTapeTo_X1_refreshAbove : GoodIn wsX1_moveTapeTo (wsV RX1 60 RX1 yX1_refreshAbove wsX1_refreshAbove) := goodIn_app (goodIn_of _ (by decide +kernel)) ggX1_moveTapeTo_X1_refreshAbove
set_option maxRecDepth 20000 in
theorem ggX1_makeLeafId_X0_begin : GoodIn wsX1_makeLeafId wsX0_begin := goodIn_r _ [9, 10, 52, 53, 54, 55] (by decide +kernel) (by decide +kernel)
set_option maxRecDepth 20000 in
theorem gX1_makeLeafId_X0_begin : GoodIn wsX1_makeLeafId (wsV RX1 37 RX0 yX0_begin wsX0_begin) := goodIn_app (goodIn_of _ (by decide +kernel)) ggX1_makeLeafId_X0_begin
set_option maxRecDepth 20000 in
theorem ggX1_makeLeafId_X0_takeByte : GoodIn wsX1_makeLeafId wsX0_takeByte := goodIn_r _ [14, 10, 15, 52, 53, 54, 55] (by decide +kernel) (by decide +kernel)
set_option maxRecDepth 20000 in
theorem gX1_makeLeafId_X0_takeByte : GoodIn wsX1_makeLeafId (wsV RX1 95 RX0 yX0_takeByte wsX0_takeByte) := goodIn_app (goodIn_of _ (by decide +kernel)) ggX1_makeLeafId_X0_takeByte
set_option maxRecDepth 20000 in
theorem ggX1_makeLeafId_X0_takeBytes : GoodIn wsX1_makeLeafId wsX0_takeBytes := goodIn_r _ [19, 20, 12, 13, 8, 14, 10, 15, 52, 53, 54, 55] (by decide +kernel) (by decide +kernel)
set_option maxRecDepth 20000 in
theorem gX1_makeLeafId_X0_takeBytes : GoodIn wsX1_makeLeafId (wsV RX1 40 RX0 yX0_takeBytes wsX0_takeBytes) := goodIn_app (goodIn_of _ (by decide +kernel)) ggX1_makeLeafId_X0_takeBytes
set_option maxRecDepth 20000 in
theorem ggX1_makeLeafId_X0_finishInto : GoodIn wsX1_makeLeafId wsX0_finishInto := goodIn_r _ [24, 25, 26, 10, 27, 28, 29, 8, 30, 31, 20, 12, 13, 14, 15, 32, 33, 34, 35, 36, 37, 38, 39, 40, 41, 42, 43, 44, 52, 53, 54, 55] (by decide +kernel) (by decide +kernel)
set_option maxRecDepth 20000 in
theorem gX1_makeLeafId_X0_finishInto : GoodIn wsX1_makeLeafId (wsV RX1 44 RX0 yX0_finishInto wsX0_finishInto) := goodIn_app (goodIn_of _ (by decide +kernel)) ggX1_makeLeafId_X0_finishInto
set_option maxRecDepth 20000 in
theorem ggX1_join_X0_begin : GoodIn wsX1_join wsX0_begin := goodIn_r _ [7, 8, 54, 55, 56, 57] (by decide +kernel) (by decide +kernel)
set_option maxRecDepth 20000 in
theorem gX1_join_X0_begin : GoodIn wsX1_join (wsV RX1 37 RX0 yX0_begin wsX0_begin) := goodIn_app (goodIn_of _ (by decide +kernel)) ggX1_join_X0_begin
set_option maxRecDepth 20000 in
theorem ggX1_join_X0_takeByte : GoodIn wsX1_join wsX0_takeByte := goodIn_r _ [12, 8, 13, 54, 55, 56, 57] (by decide +kernel) (by decide +kernel)
set_option maxRecDepth 20000 in
theorem gX1_join_X0_takeByte : GoodIn wsX1_join (wsV RX1 95 RX0 yX0_takeByte wsX0_takeByte) := goodIn_app (goodIn_of _ (by decide +kernel)) ggX1_join_X0_takeByte
set_option maxRecDepth 20000 in
theorem ggX1_join_X0_takeId : GoodIn wsX1_join wsX0_takeId := goodIn_r _ [17, 18, 19, 20, 6, 21, 22, 10, 11, 12, 8, 13, 54, 55, 56, 57] (by decide +kernel) (by decide +kernel)
set_option maxRecDepth 20000 in
theorem gX1_join_X0_takeId : GoodIn wsX1_join (wsV RX1 98 RX0 yX0_takeId wsX0_takeId) := goodIn_app (goodIn_of _ (by decide +kernel)) ggX1_join_X0_takeId
set_option maxRecDepth 20000 in
theorem ggX1_join_X0_finishInto : GoodIn wsX1_join wsX0_finishInto := goodIn_r _ [26, 27, 28, 8, 29, 30, 31, 6, 32, 33, 22, 10, 11, 12, 13, 34, 35, 36, 37, 38, 39, 40, 41, 42, 43, 44, 45, 46, 54, 55, 56, 57] (by decide +kernel) (by decide +kernel)
set_option maxRecDepth 20000 in
theorem gX1_join_X0_finishInto : GoodIn wsX1_join (wsV RX1 44 RX0 yX0_finishInto wsX0_finishInto) := goodIn_app (goodIn_of _ (by decide +kernel)) ggX1_join_X0_finishInto
set_option maxRecDepth 20000 in
theorem ggX1_refreshAbove_X1_hasOneBeside : GoodIn wsX1_refreshAbove wsX1_hasOneBeside := goodIn_r _ [6] (by decide +kernel) (by decide +kernel)
set_option maxRecDepth 20000 in
theorem gX1_refreshAbove_X1_hasOneBeside : GoodIn wsX1_refreshAbove (va_wsS RX1 80 yX1_hasOneBeside wsX1_hasOneBeside) := goodIn_app (goodIn_of _ (by decide +kernel)) ggX1_refreshAbove_X1_hasOneBeside
set_option maxRecDepth 20000 in
theorem ggX1_refreshAbove_X1_join : GoodIn wsX1_refreshAbove wsX1_join := goodIn_r _ [10, 11, 12, 13, 14, 15, 16, 17, 18, 19, 20, 21, 22, 23, 24, 25, 26, 27, 28, 29, 30, 31, 32, 33, 34, 35, 36, 37, 38, 39, 40, 41, 42, 43, 44, 45, 46, 47, 48, 49, 50, 51, 52, 53, 54, 55, 56, 64, 65, 66, 67, 68, 69, 70, 71, 72, 73, 74] (by decide +kernel) (by decide +kernel)
set_option maxRecDepth 20000 in
theorem gX1_refreshAbove_X1_join : GoodIn wsX1_refreshAbove (wsV RX1 84 RX1 yX1_join wsX1_join) := goodIn_app (goodIn_of _ (by decide +kernel)) ggX1_refreshAbove_X1_join
set_option maxRecDepth 20000 in
theorem ggX1_refreshAbove_X1_copyId : GoodIn wsX1_refreshAbove wsX1_copyId := goodIn_r _ [60, 12, 64, 65, 66, 67, 68, 69, 70] (by decide +kernel) (by decide +kernel)
set_option maxRecDepth 20000 in
theorem gX1_refreshAbove_X1_copyId : GoodIn wsX1_refreshAbove (wsV RX1 101 RX1 yX1_copyId wsX1_copyId) := goodIn_app (goodIn_of _ (by decide +kernel)) ggX1_refreshAbove_X1_copyId
set_option maxRecDepth 20000 in
theorem ggX1_refreshAbove_X1_widthAbove : GoodIn wsX1_refreshAbove wsX1_widthAbove := goodIn_r _ [63] (by decide +kernel) (by decide +kernel)
set_option maxRecDepth 20000 in
theorem gX1_refreshAbove_X1_widthAbove : GoodIn wsX1_refreshAbove (va_wsS RX1 88 yX1_widthAbove wsX1_widthAbove) := goodIn_app (goodIn_of _ (by decide +kernel)) ggX1_refreshAbove_X1_widthAbove
set_option maxRecDepth 20000 in
theorem ggX1_levelOfStep_X1_isLeaf : GoodIn wsX1_levelOfStep wsX1_isLeaf := goodIn_r _ [6, 1, 13, 14, 15, 16, 17, 18, 19] (by decide +kernel) (by decide +kernel)
set_option maxRecDepth 20000 in
theorem gX1_levelOfStep_X1_isLeaf : GoodIn wsX1_levelOfStep (wsV RX1 56 RX1 yX1_isLeaf wsX1_isLeaf) := goodIn_app (goodIn_of _ (by decide +kernel)) ggX1_levelOfStep_X1_isLeaf
set_option maxRecDepth 20000 in
theorem ggX1_levelOfStep_X1_hasOneBeside : GoodIn wsX1_levelOfStep wsX1_hasOneBeside := goodIn_r _ [9] (by decide +kernel) (by decide +kernel)
set_option maxRecDepth 20000 in
theorem gX1_levelOfStep_X1_hasOneBeside : GoodIn wsX1_levelOfStep (va_wsS RX1 80 yX1_hasOneBeside wsX1_hasOneBeside) := goodIn_app (goodIn_of _ (by decide +kernel)) ggX1_levelOfStep_X1_hasOneBeside
set_option maxRecDepth 20000 in
theorem ggX1_levelOfStep_X1_widthAbove : GoodIn wsX1_levelOfStep wsX1_widthAbove := goodIn_r _ [12] (by decide +kernel) (by decide +kernel)
set_option maxRecDepth 20000 in
theorem gX1_levelOfStep_X1_widthAbove : GoodIn wsX1_levelOfStep (va_wsS RX1 88 yX1_widthAbove wsX1_widthAbove) := goodIn_app (goodIn_of _ (by decide +kernel)) ggX1_levelOfStep_X1_widthAbove
set_option maxRecDepth 20000 in
theorem ggX1_rootLevel_X1_widthAbove : GoodIn wsX1_rootLevel wsX1_widthAbove := goodIn_r _ [5] (by decide +kernel) (by decide +kernel)
set_option maxRecDepth 20000 in
theorem gX1_rootLevel_X1_widthAbove : GoodIn wsX1_rootLevel (va_wsS RX1 88 yX1_widthAbove wsX1_widthAbove) := goodIn_app (goodIn_of _ (by decide +kernel)) ggX1_rootLevel_X1_widthAbove
def RX2 : String := "RootDeskModel"
def TX2 : u_T := fun k => match k with
  | 0 => ("RootDeskModel", "hashed", "[I", true)
  | 1 => ("RootDeskModel", "hashSize", "I", false)
  | 2 => ("RootDeskModel", "sums", "[I", true)
  | 3 => ("RootDeskModel", "schedule", "[I", true)
  | 4 => ("RootDeskModel", "rounds", "[I", true)
  | 5 => ("RootDeskModel", "begins", "[I", true)
  | 6 => ("RootDeskModel", "tape", "[I", true)
  | 7 => ("RootDeskModel", "taped", "I", false)
  | 8 => ("RootDeskModel", "leaves", "I", false)
  | 9 => ("RootDeskModel", "bytes", "[I", true)
  | 10 => ("RootDeskModel", "sizes", "[I", true)
  | 11 => ("RootDeskModel", "level", "[J", true)
  | 12 => ("RootDeskModel", "many", "I", false)
  | 13 => ("RootDeskModel", "levels", "I", false)
  | 14 => ("RootDeskModel", "climbed", "I", false)
  | _ => ("RootDeskModel", "mine", "[J", true)
def tyX2 : Nat → FieldType := fun k => match k with
  | 0 => .array .int
  | 1 => .int
  | 2 => .array .int
  | 3 => .array .int
  | 4 => .array .int
  | 5 => .array .int
  | 6 => .array .int
  | 7 => .int
  | 8 => .int
  | 9 => .array .int
  | 10 => .array .int
  | 11 => .array .long
  | 12 => .int
  | 13 => .int
  | 14 => .int
  | _ => .array .long
abbrev wsX20 : List Cond := u_ws RX2 TX2 16
theorem nmX2 : ∀ a, a < 16 → ∀ b, b < 16 → a ≠ b → (TX2 a).2.1 ≠ (TX2 b).2.1 := by decide +kernel
theorem tyX2_ok : ∀ k, k < 16 → parseFieldDescriptor (TX2 k).2.2.1 = some (tyX2 k) := by decide +kernel
abbrev vwCl : List vw_C := [(RX0, TX0, 4), (RX1, TX1, 7), (RX2, TX2, 16)]
