abbrev cX2_init : ByteArray := prog_4_method_10_code
def yX2_init : MethodName := ⟨RX2, "<init>", "()V"⟩
abbrev cX2_primes : ByteArray := prog_4_method_1_code
def yX2_primes : MethodName := ⟨RX2, "primes", "()V"⟩
abbrev cX2_root : ByteArray := prog_4_method_2_code
def yX2_root : MethodName := ⟨RX2, "root", "(II)I"⟩
abbrev cX2_isAbove : ByteArray := prog_4_method_3_code
def yX2_isAbove : MethodName := ⟨RX2, "isAbove", "(JII)Z"⟩
abbrev cX2_put : ByteArray := prog_4_method_11_code
def yX2_put : MethodName := ⟨RX2, "put", "(JI)Z"⟩
abbrev cX2_hash : ByteArray := prog_4_method_13_code
def yX2_hash : MethodName := ⟨RX2, "hash", "(I)J"⟩
abbrev cX2_hashTape : ByteArray := prog_4_method_12_code
def yX2_hashTape : MethodName := ⟨RX2, "hashTape", "()V"⟩
abbrev cX2_hashByte : ByteArray := prog_4_method_5_code
def yX2_hashByte : MethodName := ⟨RX2, "hashByte", "(I)V"⟩
abbrev cX2_digest : ByteArray := prog_4_method_6_code
def yX2_digest : MethodName := ⟨RX2, "digest", "()V"⟩
abbrev cX2_compress : ByteArray := prog_4_method_7_code
def yX2_compress : MethodName := ⟨RX2, "compress", "(I)V"⟩
abbrev cX2_turn : ByteArray := prog_4_method_4_code
def yX2_turn : MethodName := ⟨RX2, "turn", "(II)I"⟩
abbrev cX2_sum : ByteArray := prog_4_method_8_code
def yX2_sum : MethodName := ⟨RX2, "sum", "(I)J"⟩
abbrev cX2_add : ByteArray := prog_4_method_15_code
def yX2_add : MethodName := ⟨RX2, "add", "()I"⟩
abbrev cX2_lay : ByteArray := prog_4_method_14_code
def yX2_lay : MethodName := ⟨RX2, "lay", "(I)V"⟩
abbrev cX2_change : ByteArray := prog_4_method_17_code
def yX2_change : MethodName := ⟨RX2, "change", "(I)Z"⟩
abbrev cX2_isLeaf : ByteArray := prog_4_method_16_code
def yX2_isLeaf : MethodName := ⟨RX2, "isLeaf", "(I)Z"⟩
abbrev cX2_drop : ByteArray := prog_4_method_18_code
def yX2_drop : MethodName := ⟨RX2, "drop", "()I"⟩
abbrev cX2_root2 : ByteArray := prog_4_method_22_code
def yX2_root2 : MethodName := ⟨RX2, "root", "(I)J"⟩
abbrev cX2_lowest : ByteArray := prog_4_method_20_code
def yX2_lowest : MethodName := ⟨RX2, "lowest", "()V"⟩
abbrev cX2_keep : ByteArray := prog_4_method_19_code
def yX2_keep : MethodName := ⟨RX2, "keep", "(I)V"⟩
abbrev cX2_up : ByteArray := prog_4_method_21_code
def yX2_up : MethodName := ⟨RX2, "up", "()V"⟩
abbrev cX2_byteIn : ByteArray := prog_4_method_9_code
def yX2_byteIn : MethodName := ⟨RX2, "byteIn", "(JI)I"⟩
abbrev cX2_way : ByteArray := prog_4_method_24_code
def yX2_way : MethodName := ⟨RX2, "way", "(I)I"⟩
abbrev cX2_climb : ByteArray := prog_4_method_23_code
def yX2_climb : MethodName := ⟨RX2, "climb", "(II)I"⟩
abbrev cX2_beside : ByteArray := prog_4_method_25_code
def yX2_beside : MethodName := ⟨RX2, "beside", "(III)J"⟩
abbrev cX2_isLeft : ByteArray := prog_4_method_26_code
def yX2_isLeft : MethodName := ⟨RX2, "isLeft", "(II)I"⟩
abbrev cX2_proves : ByteArray := prog_4_method_27_code
def yX2_proves : MethodName := ⟨RX2, "proves", "(I)I"⟩
abbrev cX2_count : ByteArray := prog_4_method_28_code
def yX2_count : MethodName := ⟨RX2, "count", "(I)I"⟩
def wsM : List Cond := [.initialized RX2, .instanceMethod objectInit, .code objectInit ⟨#[0xb1]⟩ 1 none, .arrayClass .byte, .arrayClass .int, .instanceMethod yX2_init, .code yX2_init cX2_init 1 none, .methodLink RX2 45 objectInit, .methodLink RX2 67 yX2_primes, .instanceMethod yX2_primes, .code yX2_primes cX2_primes 5 none, .methodLink RX2 7 yX2_root, .static yX2_root, .code yX2_root cX2_root 7 (some .int), .methodLink RX2 14 yX2_isAbove, .static yX2_isAbove, .code yX2_isAbove cX2_isAbove 30 (some .boolean), .constantLong RX2 18 (4294967295), .constantLong RX2 20 (2), .fieldLink RX2 22 "RootDeskModel" "hashed" "[I", .fieldLink RX2 25 "RootDeskModel" "hashSize" "I", .fieldLink RX2 33 "RootDeskModel" "sums" "[I", .fieldLink RX2 39 "RootDeskModel" "schedule" "[I", .fieldLink RX2 11 "RootDeskModel" "rounds" "[I", .fieldLink RX2 1 "RootDeskModel" "begins" "[I", .fieldLink RX2 51 "RootDeskModel" "tape" "[I", .fieldLink RX2 70 "RootDeskModel" "taped" "I", .fieldLink RX2 83 "RootDeskModel" "leaves" "I", .fieldLink RX2 54 "RootDeskModel" "bytes" "[I", .fieldLink RX2 57 "RootDeskModel" "sizes" "[I", .fieldLink RX2 60 "RootDeskModel" "level" "[J", .fieldLink RX2 96 "RootDeskModel" "many" "I", .fieldLink RX2 99 "RootDeskModel" "levels" "I", .fieldLink RX2 112 "RootDeskModel" "climbed" "I", .fieldLink RX2 64 "RootDeskModel" "mine" "[J", .arrayClass .long, .instanceMethod yX2_put, .selects RX2 yX2_put yX2_put, .code yX2_put cX2_put 5 (some .boolean), .instanceMethod yX2_hash, .selects RX2 yX2_hash yX2_hash, .code yX2_hash cX2_hash 2 (some .long), .methodLink RX2 76 yX2_hashTape, .instanceMethod yX2_hashTape, .code yX2_hashTape cX2_hashTape 2 none, .methodLink RX2 29 yX2_hashByte, .instanceMethod yX2_hashByte, .code yX2_hashByte cX2_hashByte 2 none, .methodLink RX2 73 yX2_digest, .instanceMethod yX2_digest, .code yX2_digest cX2_digest 3 none, .methodLink RX2 36 yX2_compress, .instanceMethod yX2_compress, .code yX2_compress cX2_compress 13 none, .methodLink RX2 42 yX2_turn, .static yX2_turn, .code yX2_turn cX2_turn 2 (some .int), .methodLink RX2 79 yX2_sum, .instanceMethod yX2_sum, .code yX2_sum cX2_sum 2 (some .long), .instanceMethod yX2_add, .selects RX2 yX2_add yX2_add, .code yX2_add cX2_add 1 (some .int), .methodLink RX2 86 yX2_lay, .instanceMethod yX2_lay, .code yX2_lay cX2_lay 3 none, .instanceMethod yX2_change, .selects RX2 yX2_change yX2_change, .code yX2_change cX2_change 2 (some .boolean), .methodLink RX2 89 yX2_isLeaf, .instanceMethod yX2_isLeaf, .code yX2_isLeaf cX2_isLeaf 2 (some .boolean), .instanceMethod yX2_drop, .selects RX2 yX2_drop yX2_drop, .code yX2_drop cX2_drop 1 (some .int), .instanceMethod yX2_root2, .selects RX2 yX2_root2 yX2_root2, .code yX2_root2 cX2_root2 2 (some .long), .methodLink RX2 106 yX2_lowest, .instanceMethod yX2_lowest, .code yX2_lowest cX2_lowest 3 none, .methodLink RX2 93 yX2_keep, .instanceMethod yX2_keep, .code yX2_keep cX2_keep 3 none, .methodLink RX2 109 yX2_up, .instanceMethod yX2_up, .code yX2_up cX2_up 3 none, .methodLink RX2 102 yX2_byteIn, .static yX2_byteIn, .code yX2_byteIn cX2_byteIn 3 (some .int), .instanceMethod yX2_way, .selects RX2 yX2_way yX2_way, .code yX2_way cX2_way 2 (some .int), .methodLink RX2 115 yX2_climb, .instanceMethod yX2_climb, .code yX2_climb cX2_climb 5 (some .int), .instanceMethod yX2_beside, .selects RX2 yX2_beside yX2_beside, .code yX2_beside cX2_beside 5 (some .long), .instanceMethod yX2_isLeft, .selects RX2 yX2_isLeft yX2_isLeft, .code yX2_isLeft cX2_isLeft 4 (some .int), .instanceMethod yX2_proves, .selects RX2 yX2_proves yX2_proves, .code yX2_proves cX2_proves 8 (some .int), .methodLink RX2 118 yX2_way, .methodLink RX2 122 yX2_root2, .instanceMethod yX2_count, .selects RX2 yX2_count yX2_count, .code yX2_count cX2_count 4 (some .int), .selects RX2 yX2_primes yX2_primes, .selects RX2 yX2_hashTape yX2_hashTape, .selects RX2 yX2_hashByte yX2_hashByte, .selects RX2 yX2_digest yX2_digest, .selects RX2 yX2_compress yX2_compress, .selects RX2 yX2_sum yX2_sum, .selects RX2 yX2_lay yX2_lay, .selects RX2 yX2_isLeaf yX2_isLeaf, .selects RX2 yX2_lowest yX2_lowest, .selects RX2 yX2_keep yX2_keep, .selects RX2 yX2_up yX2_up, .selects RX2 yX2_climb yX2_climb]
def wsMM : List Cond := wsM ++ wsX20
def wsX2_init : List Cond := .code yX2_init cX2_init 1 none :: wsMM
def wsX2_primes : List Cond := .code yX2_primes cX2_primes 5 none :: wsMM
def wsX2_root : List Cond := .code yX2_root cX2_root 7 (some .int) :: wsMM
def wsX2_isAbove : List Cond := .code yX2_isAbove cX2_isAbove 30 (some .boolean) :: wsMM
def wsX2_put : List Cond := .code yX2_put cX2_put 5 (some .boolean) :: wsMM
def wsX2_hash : List Cond := .code yX2_hash cX2_hash 2 (some .long) :: wsMM
def wsX2_hashTape : List Cond := .code yX2_hashTape cX2_hashTape 2 none :: wsMM
def wsX2_hashByte : List Cond := .code yX2_hashByte cX2_hashByte 2 none :: wsMM
def wsX2_digest : List Cond := .code yX2_digest cX2_digest 3 none :: wsMM
def wsX2_compress : List Cond := .code yX2_compress cX2_compress 13 none :: wsMM
def wsX2_turn : List Cond := .code yX2_turn cX2_turn 2 (some .int) :: wsMM
def wsX2_sum : List Cond := .code yX2_sum cX2_sum 2 (some .long) :: wsMM
def wsX2_add : List Cond := .code yX2_add cX2_add 1 (some .int) :: wsMM
def wsX2_lay : List Cond := .code yX2_lay cX2_lay 3 none :: wsMM
def wsX2_change : List Cond := .code yX2_change cX2_change 2 (some .boolean) :: wsMM
def wsX2_isLeaf : List Cond := .code yX2_isLeaf cX2_isLeaf 2 (some .boolean) :: wsMM
def wsX2_drop : List Cond := .code yX2_drop cX2_drop 1 (some .int) :: wsMM
def wsX2_root2 : List Cond := .code yX2_root2 cX2_root2 2 (some .long) :: wsMM
def wsX2_lowest : List Cond := .code yX2_lowest cX2_lowest 3 none :: wsMM
def wsX2_keep : List Cond := .code yX2_keep cX2_keep 3 none :: wsMM
def wsX2_up : List Cond := .code yX2_up cX2_up 3 none :: wsMM
def wsX2_byteIn : List Cond := .code yX2_byteIn cX2_byteIn 3 (some .int) :: wsMM
def wsX2_way : List Cond := .code yX2_way cX2_way 2 (some .int) :: wsMM
def wsX2_climb : List Cond := .code yX2_climb cX2_climb 5 (some .int) :: wsMM
def wsX2_beside : List Cond := .code yX2_beside cX2_beside 5 (some .long) :: wsMM
def wsX2_isLeft : List Cond := .code yX2_isLeft cX2_isLeft 4 (some .int) :: wsMM
def wsX2_proves : List Cond := .code yX2_proves cX2_proves 8 (some .int) :: wsMM
def wsX2_count : List Cond := .code yX2_count cX2_count 4 (some .int) :: wsMM
set_option maxRecDepth 20000 in
theorem wsM_good : wsM.all goodWord = true := by decide +kernel
set_option maxRecDepth 20000 in
theorem wsX20_good : wsX20.all goodWord = true := by decide +kernel
theorem wsMM_good (w : Cond) (h : w ∈ wsMM) : (w.onTables && w.keeps) = true ∨ ∃ ty, w = .arrayClass ty := by
  rcases List.mem_append.mp h with h | h
  · exact good_of_word (List.all_eq_true.mp wsM_good w h)
  · exact good_of_word (List.all_eq_true.mp wsX20_good w h)
theorem inM {c0 w : Cond} (h : w ∈ wsM) : w ∈ c0 :: wsMM := List.mem_cons_of_mem _ (List.mem_append_left _ h)
theorem gM {c0 c1 : Cond} (h : c1 ∈ wsM) : GoodIn (c0 :: wsMM) (c1 :: wsMM) := by
  intro w hw
  have hm : w ∈ wsMM := by
    rcases List.mem_cons.mp hw with e | e
    · subst e
      exact List.mem_append_left _ h
    · exact e
  exact ⟨List.mem_cons_of_mem _ hm, wsMM_good w hm⟩
theorem gM4 {c0 : Cond} {ws : List Cond} (h : ∀ w ∈ ws, w ∈ wsM) : GoodIn (c0 :: wsMM) ws := fun w hw => ⟨inM (h w hw), wsMM_good w (List.mem_append_left _ (h w hw))⟩
theorem gMV {c0 c1 : Cond} {own C : String} {idx : Nat} {y : MethodName} (h1 : Cond.methodLink own idx y ∈ wsM) (h2 : Cond.instanceMethod y ∈ wsM) (h3 : Cond.selects C y y ∈ wsM) (h4 : Cond.initialized C ∈ wsM) (h : c1 ∈ wsM) : GoodIn (c0 :: wsMM) (wsV own idx C y (c1 :: wsMM)) := by
  refine goodIn_app (gM4 (fun w hw => ?_)) (gM h)
  simp only [List.mem_cons, List.not_mem_nil, or_false] at hw
  rcases hw with rfl | rfl | rfl | rfl
  · exact h1
  · exact h2
  · exact h3
  · exact h4
theorem gMS {c0 c1 : Cond} {own : String} {idx : Nat} {y : MethodName} (h1 : Cond.methodLink own idx y ∈ wsM) (h2 : Cond.static y ∈ wsM) (h3 : Cond.initialized own ∈ wsM) (h : c1 ∈ wsM) : GoodIn (c0 :: wsMM) (wsS own idx y (c1 :: wsMM)) := by
  refine goodIn_app (gM4 (fun w hw => ?_)) (gM h)
  simp only [List.mem_cons, List.not_mem_nil, or_false] at hw
  rcases hw with rfl | rfl | rfl
  · exact h1
  · exact h2
  · exact h3
