section
-- ===== PART A: goes FIRST, ahead of the names: the tables' words, and 'selects' of the private methods out of them =====
/-- a private method of a class that the tables say can be made, by its rows of tables_1 -/
def lw_okq (q : MethodName × Nat) : Prop := (q.1.cls ≠ "java/lang/invoke/MethodHandle" ∧ q.1.cls ≠ "java/lang/invoke/VarHandle") ∧ Cond.instantiable q.1.cls q.2 ∈ tables_1 ∧ Cond.privateMethod q.1 ∈ tables_1 ∧ Cond.instanceMethod q.1 ∈ tables_1
theorem lw_p0 : lw_okq (⟨"RootDesk$Digest", "pad", "()V"⟩, 4) := ⟨⟨by decide +kernel, by decide +kernel⟩, List.mem_of_getElem? (i := 13) (by decide +kernel), List.mem_of_getElem? (i := 80) (by decide +kernel), List.mem_of_getElem? (i := 81) (by decide +kernel)⟩
theorem lw_p1 : lw_okq (⟨"RootDesk$Digest", "fillSchedule", "(I)V"⟩, 4) := ⟨⟨by decide +kernel, by decide +kernel⟩, List.mem_of_getElem? (i := 13) (by decide +kernel), List.mem_of_getElem? (i := 87) (by decide +kernel), List.mem_of_getElem? (i := 88) (by decide +kernel)⟩
theorem lw_p2 : lw_okq (⟨"RootDesk$Digest", "mixBlock", "()V"⟩, 4) := ⟨⟨by decide +kernel, by decide +kernel⟩, List.mem_of_getElem? (i := 13) (by decide +kernel), List.mem_of_getElem? (i := 94) (by decide +kernel), List.mem_of_getElem? (i := 95) (by decide +kernel)⟩
theorem lw_p3 : lw_okq (⟨"RootDesk", "eightBytes", "(II)J"⟩, 7) := ⟨⟨by decide +kernel, by decide +kernel⟩, List.mem_of_getElem? (i := 5) (by decide +kernel), List.mem_of_getElem? (i := 100) (by decide +kernel), List.mem_of_getElem? (i := 101) (by decide +kernel)⟩
theorem lw_p4 : lw_okq (⟨"RootDesk", "moveTapeTo", "(I)V"⟩, 7) := ⟨⟨by decide +kernel, by decide +kernel⟩, List.mem_of_getElem? (i := 5) (by decide +kernel), List.mem_of_getElem? (i := 109) (by decide +kernel), List.mem_of_getElem? (i := 110) (by decide +kernel)⟩
theorem lw_p5 : lw_okq (⟨"RootDesk", "makeLeafId", "(I)V"⟩, 7) := ⟨⟨by decide +kernel, by decide +kernel⟩, List.mem_of_getElem? (i := 5) (by decide +kernel), List.mem_of_getElem? (i := 113) (by decide +kernel), List.mem_of_getElem? (i := 114) (by decide +kernel)⟩
theorem lw_p6 : lw_okq (⟨"RootDesk", "refreshAbove", "(I)V"⟩, 7) := ⟨⟨by decide +kernel, by decide +kernel⟩, List.mem_of_getElem? (i := 5) (by decide +kernel), List.mem_of_getElem? (i := 118) (by decide +kernel), List.mem_of_getElem? (i := 119) (by decide +kernel)⟩
theorem lw_p7 : lw_okq (⟨"RootDesk", "join", "(III)V"⟩, 7) := ⟨⟨by decide +kernel, by decide +kernel⟩, List.mem_of_getElem? (i := 5) (by decide +kernel), List.mem_of_getElem? (i := 127) (by decide +kernel), List.mem_of_getElem? (i := 128) (by decide +kernel)⟩
theorem lw_p8 : lw_okq (⟨"RootDesk$Digest", "takeWord", "(I)V"⟩, 4) := ⟨⟨by decide +kernel, by decide +kernel⟩, List.mem_of_getElem? (i := 13) (by decide +kernel), List.mem_of_getElem? (i := 135) (by decide +kernel), List.mem_of_getElem? (i := 136) (by decide +kernel)⟩
theorem lw_p9 : lw_okq (⟨"RootDesk", "copyId", "(II)V"⟩, 7) := ⟨⟨by decide +kernel, by decide +kernel⟩, List.mem_of_getElem? (i := 5) (by decide +kernel), List.mem_of_getElem? (i := 139) (by decide +kernel), List.mem_of_getElem? (i := 140) (by decide +kernel)⟩
theorem lw_p10 : lw_okq (⟨"RootDesk", "isLeaf", "(I)Z"⟩, 7) := ⟨⟨by decide +kernel, by decide +kernel⟩, List.mem_of_getElem? (i := 5) (by decide +kernel), List.mem_of_getElem? (i := 150) (by decide +kernel), List.mem_of_getElem? (i := 151) (by decide +kernel)⟩
theorem lw_p11 : lw_okq (⟨"RootDesk", "rootLevel", "()I"⟩, 7) := ⟨⟨by decide +kernel, by decide +kernel⟩, List.mem_of_getElem? (i := 5) (by decide +kernel), List.mem_of_getElem? (i := 162) (by decide +kernel), List.mem_of_getElem? (i := 163) (by decide +kernel)⟩
theorem lw_p12 : lw_okq (⟨"RootDesk", "levelOfStep", "(II)I"⟩, 7) := ⟨⟨by decide +kernel, by decide +kernel⟩, List.mem_of_getElem? (i := 5) (by decide +kernel), List.mem_of_getElem? (i := 170) (by decide +kernel), List.mem_of_getElem? (i := 171) (by decide +kernel)⟩
theorem lw_p13 : lw_okq (⟨"RootDesk", "sameIds", "(II)Z"⟩, 7) := ⟨⟨by decide +kernel, by decide +kernel⟩, List.mem_of_getElem? (i := 5) (by decide +kernel), List.mem_of_getElem? (i := 189) (by decide +kernel), List.mem_of_getElem? (i := 190) (by decide +kernel)⟩
theorem lw_p14 : lw_okq (⟨"RootDeskModel", "primes", "()V"⟩, 16) := ⟨⟨by decide +kernel, by decide +kernel⟩, List.mem_of_getElem? (i := 197) (by decide +kernel), List.mem_of_getElem? (i := 203) (by decide +kernel), List.mem_of_getElem? (i := 204) (by decide +kernel)⟩
theorem lw_p15 : lw_okq (⟨"RootDeskModel", "hashTape", "()V"⟩, 16) := ⟨⟨by decide +kernel, by decide +kernel⟩, List.mem_of_getElem? (i := 197) (by decide +kernel), List.mem_of_getElem? (i := 273) (by decide +kernel), List.mem_of_getElem? (i := 274) (by decide +kernel)⟩
def lw_privs_1 : List (MethodName × Nat) := [(⟨"RootDesk$Digest", "pad", "()V"⟩, 4), (⟨"RootDesk$Digest", "fillSchedule", "(I)V"⟩, 4), (⟨"RootDesk$Digest", "mixBlock", "()V"⟩, 4), (⟨"RootDesk", "eightBytes", "(II)J"⟩, 7), (⟨"RootDesk", "moveTapeTo", "(I)V"⟩, 7), (⟨"RootDesk", "makeLeafId", "(I)V"⟩, 7), (⟨"RootDesk", "refreshAbove", "(I)V"⟩, 7), (⟨"RootDesk", "join", "(III)V"⟩, 7), (⟨"RootDesk$Digest", "takeWord", "(I)V"⟩, 4), (⟨"RootDesk", "copyId", "(II)V"⟩, 7), (⟨"RootDesk", "isLeaf", "(I)Z"⟩, 7), (⟨"RootDesk", "rootLevel", "()I"⟩, 7), (⟨"RootDesk", "levelOfStep", "(II)I"⟩, 7), (⟨"RootDesk", "sameIds", "(II)Z"⟩, 7), (⟨"RootDeskModel", "primes", "()V"⟩, 16), (⟨"RootDeskModel", "hashTape", "()V"⟩, 16)]
theorem lw_r1 : ∀ q ∈ lw_privs_1, lw_okq q := List.forall_mem_cons.mpr ⟨lw_p0, List.forall_mem_cons.mpr ⟨lw_p1, List.forall_mem_cons.mpr ⟨lw_p2, List.forall_mem_cons.mpr ⟨lw_p3, List.forall_mem_cons.mpr ⟨lw_p4, List.forall_mem_cons.mpr ⟨lw_p5, List.forall_mem_cons.mpr ⟨lw_p6, List.forall_mem_cons.mpr ⟨lw_p7, List.forall_mem_cons.mpr ⟨lw_p8, List.forall_mem_cons.mpr ⟨lw_p9, List.forall_mem_cons.mpr ⟨lw_p10, List.forall_mem_cons.mpr ⟨lw_p11, List.forall_mem_cons.mpr ⟨lw_p12, List.forall_mem_cons.mpr ⟨lw_p13, List.forall_mem_cons.mpr ⟨lw_p14, List.forall_mem_cons.mpr ⟨lw_p15, fun _ h => absurd h List.not_mem_nil⟩⟩⟩⟩⟩⟩⟩⟩⟩⟩⟩⟩⟩⟩⟩⟩
theorem lw_p16 : lw_okq (⟨"RootDeskModel", "hashByte", "(I)V"⟩, 16) := ⟨⟨by decide +kernel, by decide +kernel⟩, List.mem_of_getElem? (i := 197) (by decide +kernel), List.mem_of_getElem? (i := 277) (by decide +kernel), List.mem_of_getElem? (i := 278) (by decide +kernel)⟩
theorem lw_p17 : lw_okq (⟨"RootDeskModel", "digest", "()V"⟩, 16) := ⟨⟨by decide +kernel, by decide +kernel⟩, List.mem_of_getElem? (i := 197) (by decide +kernel), List.mem_of_getElem? (i := 281) (by decide +kernel), List.mem_of_getElem? (i := 282) (by decide +kernel)⟩
theorem lw_p18 : lw_okq (⟨"RootDeskModel", "compress", "(I)V"⟩, 16) := ⟨⟨by decide +kernel, by decide +kernel⟩, List.mem_of_getElem? (i := 197) (by decide +kernel), List.mem_of_getElem? (i := 285) (by decide +kernel), List.mem_of_getElem? (i := 286) (by decide +kernel)⟩
theorem lw_p19 : lw_okq (⟨"RootDeskModel", "sum", "(I)J"⟩, 16) := ⟨⟨by decide +kernel, by decide +kernel⟩, List.mem_of_getElem? (i := 197) (by decide +kernel), List.mem_of_getElem? (i := 292) (by decide +kernel), List.mem_of_getElem? (i := 293) (by decide +kernel)⟩
theorem lw_p20 : lw_okq (⟨"RootDeskModel", "lay", "(I)V"⟩, 16) := ⟨⟨by decide +kernel, by decide +kernel⟩, List.mem_of_getElem? (i := 197) (by decide +kernel), List.mem_of_getElem? (i := 300) (by decide +kernel), List.mem_of_getElem? (i := 301) (by decide +kernel)⟩
theorem lw_p21 : lw_okq (⟨"RootDeskModel", "isLeaf", "(I)Z"⟩, 16) := ⟨⟨by decide +kernel, by decide +kernel⟩, List.mem_of_getElem? (i := 197) (by decide +kernel), List.mem_of_getElem? (i := 308) (by decide +kernel), List.mem_of_getElem? (i := 309) (by decide +kernel)⟩
theorem lw_p22 : lw_okq (⟨"RootDeskModel", "lowest", "()V"⟩, 16) := ⟨⟨by decide +kernel, by decide +kernel⟩, List.mem_of_getElem? (i := 197) (by decide +kernel), List.mem_of_getElem? (i := 320) (by decide +kernel), List.mem_of_getElem? (i := 321) (by decide +kernel)⟩
theorem lw_p23 : lw_okq (⟨"RootDeskModel", "keep", "(I)V"⟩, 16) := ⟨⟨by decide +kernel, by decide +kernel⟩, List.mem_of_getElem? (i := 197) (by decide +kernel), List.mem_of_getElem? (i := 324) (by decide +kernel), List.mem_of_getElem? (i := 325) (by decide +kernel)⟩
theorem lw_p24 : lw_okq (⟨"RootDeskModel", "up", "()V"⟩, 16) := ⟨⟨by decide +kernel, by decide +kernel⟩, List.mem_of_getElem? (i := 197) (by decide +kernel), List.mem_of_getElem? (i := 328) (by decide +kernel), List.mem_of_getElem? (i := 329) (by decide +kernel)⟩
theorem lw_p25 : lw_okq (⟨"RootDeskModel", "climb", "(II)I"⟩, 16) := ⟨⟨by decide +kernel, by decide +kernel⟩, List.mem_of_getElem? (i := 197) (by decide +kernel), List.mem_of_getElem? (i := 339) (by decide +kernel), List.mem_of_getElem? (i := 340) (by decide +kernel)⟩
def lw_privs_2 : List (MethodName × Nat) := [(⟨"RootDeskModel", "hashByte", "(I)V"⟩, 16), (⟨"RootDeskModel", "digest", "()V"⟩, 16), (⟨"RootDeskModel", "compress", "(I)V"⟩, 16), (⟨"RootDeskModel", "sum", "(I)J"⟩, 16), (⟨"RootDeskModel", "lay", "(I)V"⟩, 16), (⟨"RootDeskModel", "isLeaf", "(I)Z"⟩, 16), (⟨"RootDeskModel", "lowest", "()V"⟩, 16), (⟨"RootDeskModel", "keep", "(I)V"⟩, 16), (⟨"RootDeskModel", "up", "()V"⟩, 16), (⟨"RootDeskModel", "climb", "(II)I"⟩, 16)]
theorem lw_r2 : ∀ q ∈ lw_privs_2, lw_okq q := List.forall_mem_cons.mpr ⟨lw_p16, List.forall_mem_cons.mpr ⟨lw_p17, List.forall_mem_cons.mpr ⟨lw_p18, List.forall_mem_cons.mpr ⟨lw_p19, List.forall_mem_cons.mpr ⟨lw_p20, List.forall_mem_cons.mpr ⟨lw_p21, List.forall_mem_cons.mpr ⟨lw_p22, List.forall_mem_cons.mpr ⟨lw_p23, List.forall_mem_cons.mpr ⟨lw_p24, List.forall_mem_cons.mpr ⟨lw_p25, fun _ h => absurd h List.not_mem_nil⟩⟩⟩⟩⟩⟩⟩⟩⟩⟩
def lw_privs : List (MethodName × Nat) := lw_privs_1 ++ (lw_privs_2)
def lw_tbl : List Cond := k2_sels lw_privs ++ tables_1
theorem lw_privs_ok : ∀ q ∈ lw_privs, lw_okq q := by
  show ∀ q ∈ lw_privs_1 ++ (lw_privs_2), lw_okq q
  exact List.forall_mem_append.mpr ⟨lw_r1, lw_r2⟩
end
section
/-! ===== BEGIN words of one list among another's, by their places ===== -/
theorem goodIn_r {big : List Cond} (ws : List Cond) (ps : List Nat) (hp : ws = ps.filterMap (fun i => big[i]?)) (h : ws.all goodWord = true) : GoodIn big ws := by
  intro w hw
  have h1 := List.all_eq_true.mp h w hw
  rw [hp] at hw
  obtain ⟨i, -, hi⟩ := List.mem_filterMap.mp hw
  have hm : w ∈ big := by first | exact List.mem_of_getElem? hi | exact List.getElem?_mem hi
  exact ⟨hm, good_of_word h1⟩
theorem goodIn_app {big a b : List Cond} (ha : GoodIn big a) (hb : GoodIn big b) : GoodIn big (a ++ b) := fun w h => (List.mem_append.mp h).elim (ha w) (hb w)
theorem goodIn_ca {big a b : List Cond} {c : Cond} (ha : GoodIn big (c :: a)) (hb : GoodIn big b) : GoodIn big (c :: (a ++ b)) := fun w h => (List.mem_cons.mp h).elim (fun e => ha w (List.mem_cons.mpr (Or.inl e))) (fun h => (List.mem_append.mp h).elim (fun h => ha w (List.mem_cons.mpr (Or.inr h))) (hb w))
theorem goodIn_sub {big ws : List Cond} (hm : ∀ w ∈ ws, w ∈ big) (h : ws.all goodWord = true) : GoodIn big ws := fun w hw => ⟨hm w hw, good_of_word (List.all_eq_true.mp h w hw)⟩
/-! ===== END ===== -/

/-! ===== BEGIN printed: names, fields, word lists, decode rows ===== -/
def RX0 : String := "RootDesk$Digest"
def TX0 : u_T := fun k => match k with
  | 0 => ("RootDesk$Digest", "message", "[B", true)
  | 1 => ("RootDesk$Digest", "schedule", "[I", true)
  | 2 => ("RootDesk$Digest", "state", "[I", true)
  | _ => ("RootDesk$Digest", "length", "I", false)
def tyX0 : Nat → FieldType := fun k => match k with
  | 0 => .array .byte
  | 1 => .array .int
  | 2 => .array .int
  | _ => .int
abbrev wsX00 : List Cond := u_ws RX0 TX0 4
theorem nmX0 : ∀ a, a < 4 → ∀ b, b < 4 → a ≠ b → (TX0 a).2.1 ≠ (TX0 b).2.1 := by decide +kernel
theorem tyX0_ok : ∀ k, k < 4 → parseFieldDescriptor (TX0 k).2.2.1 = some (tyX0 k) := by decide +kernel
abbrev cX0_init : ByteArray := prog_2_method_1_code
def yX0_init : MethodName := ⟨RX0, "<init>", "()V"⟩
abbrev cX0_begin : ByteArray := prog_2_method_2_code
def yX0_begin : MethodName := ⟨RX0, "begin", "()V"⟩
abbrev cX0_takeByte : ByteArray := prog_2_method_3_code
def yX0_takeByte : MethodName := ⟨RX0, "takeByte", "(I)V"⟩
abbrev cX0_takeBytes : ByteArray := prog_2_method_4_code
def yX0_takeBytes : MethodName := ⟨RX0, "takeBytes", "([BI)V"⟩
abbrev cX0_takeId : ByteArray := prog_2_method_5_code
def yX0_takeId : MethodName := ⟨RX0, "takeId", "([II)V"⟩
abbrev cX0_takeWord : ByteArray := prog_2_method_6_code
def yX0_takeWord : MethodName := ⟨RX0, "takeWord", "(I)V"⟩
abbrev cX0_finishInto : ByteArray := prog_2_method_7_code
def yX0_finishInto : MethodName := ⟨RX0, "finishInto", "([II)V"⟩
abbrev cX0_pad : ByteArray := prog_2_method_8_code
def yX0_pad : MethodName := ⟨RX0, "pad", "()V"⟩
abbrev cX0_fillSchedule : ByteArray := prog_2_method_9_code
def yX0_fillSchedule : MethodName := ⟨RX0, "fillSchedule", "(I)V"⟩
abbrev cX0_mixBlock : ByteArray := prog_2_method_10_code
def yX0_mixBlock : MethodName := ⟨RX0, "mixBlock", "()V"⟩
abbrev cX0_turn : ByteArray := prog_2_method_11_code
def yX0_turn : MethodName := ⟨RX0, "turn", "(II)I"⟩
def RX1 : String := "RootDesk"
def TX1 : u_T := fun k => match k with
  | 0 => ("RootDesk", "tape", "[B", true)
  | 1 => ("RootDesk", "tapeLength", "I", false)
  | 2 => ("RootDesk", "leafLengths", "[I", true)
  | 3 => ("RootDesk", "leaves", "I", false)
  | 4 => ("RootDesk", "leafBytes", "I", false)
  | 5 => ("RootDesk", "ids", "[I", true)
  | _ => ("RootDesk", "digest", "LRootDesk$Digest;", true)
def tyX1 : Nat → FieldType := fun k => match k with
  | 0 => .array .byte
  | 1 => .int
  | 2 => .array .int
  | 3 => .int
  | 4 => .int
  | 5 => .array .int
  | _ => .object "RootDesk$Digest"
abbrev wsX10 : List Cond := u_ws RX1 TX1 7
theorem nmX1 : ∀ a, a < 7 → ∀ b, b < 7 → a ≠ b → (TX1 a).2.1 ≠ (TX1 b).2.1 := by decide +kernel
theorem tyX1_ok : ∀ k, k < 7 → parseFieldDescriptor (TX1 k).2.2.1 = some (tyX1 k) := by decide +kernel
abbrev cX1_init : ByteArray := prog_1_method_1_code
def yX1_init : MethodName := ⟨RX1, "<init>", "()V"⟩
abbrev cX1_put : ByteArray := prog_1_method_2_code
def yX1_put : MethodName := ⟨RX1, "put", "(JI)Z"⟩
abbrev cX1_hash : ByteArray := prog_1_method_3_code
def yX1_hash : MethodName := ⟨RX1, "hash", "(I)J"⟩
abbrev cX1_add : ByteArray := prog_1_method_4_code
def yX1_add : MethodName := ⟨RX1, "add", "()I"⟩
abbrev cX1_change : ByteArray := prog_1_method_5_code
def yX1_change : MethodName := ⟨RX1, "change", "(I)Z"⟩
abbrev cX1_drop : ByteArray := prog_1_method_6_code
def yX1_drop : MethodName := ⟨RX1, "drop", "()I"⟩
abbrev cX1_root : ByteArray := prog_1_method_7_code
def yX1_root : MethodName := ⟨RX1, "root", "(I)J"⟩
abbrev cX1_way : ByteArray := prog_1_method_8_code
def yX1_way : MethodName := ⟨RX1, "way", "(I)I"⟩
abbrev cX1_beside : ByteArray := prog_1_method_9_code
def yX1_beside : MethodName := ⟨RX1, "beside", "(III)J"⟩
abbrev cX1_isLeft : ByteArray := prog_1_method_10_code
def yX1_isLeft : MethodName := ⟨RX1, "isLeft", "(II)I"⟩
abbrev cX1_proves : ByteArray := prog_1_method_11_code
def yX1_proves : MethodName := ⟨RX1, "proves", "(I)I"⟩
abbrev cX1_count : ByteArray := prog_1_method_12_code
def yX1_count : MethodName := ⟨RX1, "count", "(I)I"⟩
abbrev cX1_isLeaf : ByteArray := prog_1_method_13_code
def yX1_isLeaf : MethodName := ⟨RX1, "isLeaf", "(I)Z"⟩
abbrev cX1_moveTapeTo : ByteArray := prog_1_method_14_code
def yX1_moveTapeTo : MethodName := ⟨RX1, "moveTapeTo", "(I)V"⟩
abbrev cX1_makeLeafId : ByteArray := prog_1_method_15_code
def yX1_makeLeafId : MethodName := ⟨RX1, "makeLeafId", "(I)V"⟩
abbrev cX1_join : ByteArray := prog_1_method_16_code
def yX1_join : MethodName := ⟨RX1, "join", "(III)V"⟩
abbrev cX1_refreshAbove : ByteArray := prog_1_method_17_code
def yX1_refreshAbove : MethodName := ⟨RX1, "refreshAbove", "(I)V"⟩
abbrev cX1_copyId : ByteArray := prog_1_method_18_code
def yX1_copyId : MethodName := ⟨RX1, "copyId", "(II)V"⟩
abbrev cX1_sameIds : ByteArray := prog_1_method_19_code
def yX1_sameIds : MethodName := ⟨RX1, "sameIds", "(II)Z"⟩
abbrev cX1_eightBytes : ByteArray := prog_1_method_20_code
def yX1_eightBytes : MethodName := ⟨RX1, "eightBytes", "(II)J"⟩
abbrev cX1_levelOfStep : ByteArray := prog_1_method_21_code
def yX1_levelOfStep : MethodName := ⟨RX1, "levelOfStep", "(II)I"⟩
abbrev cX1_rootLevel : ByteArray := prog_1_method_22_code
def yX1_rootLevel : MethodName := ⟨RX1, "rootLevel", "()I"⟩
abbrev cX1_nodeBeside : ByteArray := prog_1_method_23_code
def yX1_nodeBeside : MethodName := ⟨RX1, "nodeBeside", "(II)I"⟩
abbrev cX1_hasOneBeside : ByteArray := prog_1_method_24_code
def yX1_hasOneBeside : MethodName := ⟨RX1, "hasOneBeside", "(II)Z"⟩
abbrev cX1_widthAbove : ByteArray := prog_1_method_25_code
def yX1_widthAbove : MethodName := ⟨RX1, "widthAbove", "(I)I"⟩
def RL : String := "RootDeskLaw"
abbrev cL_law : ByteArray := code
def yL_law : MethodName := ⟨RL, "law", "([I)Z"⟩
def wsX0_init : List Cond := .code yX0_init cX0_init 1 none :: ([.methodLink RX0 3 objectInit, .instanceMethod objectInit, .code objectInit ⟨#[0xb1]⟩ 1 none, .arrayClass .byte, .fieldLink RX0 11 "RootDesk$Digest" "message" "[B", .arrayClass .int, .fieldLink RX0 15 "RootDesk$Digest" "schedule" "[I", .fieldLink RX0 19 "RootDesk$Digest" "state" "[I", .fieldLink RX0 22 "RootDesk$Digest" "length" "I"] ++ wsX00)
def wsX0_begin : List Cond := .code yX0_begin cX0_begin 1 none :: ([.fieldLink RX0 22 "RootDesk$Digest" "length" "I"] ++ wsX00)
def wsX0_takeByte : List Cond := .code yX0_takeByte cX0_takeByte 2 none :: ([.fieldLink RX0 22 "RootDesk$Digest" "length" "I", .fieldLink RX0 11 "RootDesk$Digest" "message" "[B"] ++ wsX00)
def wsX0_takeBytes : List Cond := .code yX0_takeBytes cX0_takeBytes 4 none :: ([.methodLink RX0 26 yX0_takeByte, .instanceMethod yX0_takeByte, .selects RX0 yX0_takeByte yX0_takeByte, .initialized RX0, .code yX0_takeByte cX0_takeByte 2 none, .fieldLink RX0 22 "RootDesk$Digest" "length" "I", .fieldLink RX0 11 "RootDesk$Digest" "message" "[B"] ++ wsX00)
def wsX0_takeWord : List Cond := .code yX0_takeWord cX0_takeWord 2 none :: ([.methodLink RX0 26 yX0_takeByte, .instanceMethod yX0_takeByte, .selects RX0 yX0_takeByte yX0_takeByte, .initialized RX0, .code yX0_takeByte cX0_takeByte 2 none, .fieldLink RX0 22 "RootDesk$Digest" "length" "I", .fieldLink RX0 11 "RootDesk$Digest" "message" "[B"] ++ wsX00)
def wsX0_takeId : List Cond := .code yX0_takeId cX0_takeId 4 none :: ([.methodLink RX0 30 yX0_takeWord, .instanceMethod yX0_takeWord, .selects RX0 yX0_takeWord yX0_takeWord, .initialized RX0, .code yX0_takeWord cX0_takeWord 2 none, .methodLink RX0 26 yX0_takeByte, .instanceMethod yX0_takeByte, .selects RX0 yX0_takeByte yX0_takeByte, .code yX0_takeByte cX0_takeByte 2 none, .fieldLink RX0 22 "RootDesk$Digest" "length" "I", .fieldLink RX0 11 "RootDesk$Digest" "message" "[B"] ++ wsX00)
def wsX0_pad : List Cond := .code yX0_pad cX0_pad 4 none :: ([.constantLong RX0 45 (8), .fieldLink RX0 22 "RootDesk$Digest" "length" "I", .methodLink RX0 26 yX0_takeByte, .instanceMethod yX0_takeByte, .selects RX0 yX0_takeByte yX0_takeByte, .initialized RX0, .code yX0_takeByte cX0_takeByte 2 none, .fieldLink RX0 11 "RootDesk$Digest" "message" "[B"] ++ wsX00)
def wsX0_turn : List Cond := .code yX0_turn cX0_turn 2 (some .int) :: ([])
def wsX0_fillSchedule : List Cond := .code yX0_fillSchedule cX0_fillSchedule 7 none :: ([.fieldLink RX0 15 "RootDesk$Digest" "schedule" "[I", .fieldLink RX0 11 "RootDesk$Digest" "message" "[B", .methodLink RX0 47 yX0_turn, .static yX0_turn, .initialized RX0, .code yX0_turn cX0_turn 2 (some .int)] ++ wsX00)
def wsX0_mixBlock : List Cond := .code yX0_mixBlock cX0_mixBlock 15 none :: ([.fieldLink RX0 19 "RootDesk$Digest" "state" "[I", .fieldLink RX0 51 "RootDesk$Digest" "ROUND_WORDS" "[I", .fieldLink RX0 15 "RootDesk$Digest" "schedule" "[I", .methodLink RX0 47 yX0_turn, .static yX0_turn, .initialized RX0, .code yX0_turn cX0_turn 2 (some .int)] ++ wsX00)
def wsX0_finishInto_r1 : List Cond := [Cond.fieldLink RX0 19 "RootDesk$Digest" "state" "[I", Cond.fieldLink RX0 36 "RootDesk$Digest" "FIRST_STATE" "[I", Cond.fieldLink RX0 22 "RootDesk$Digest" "length" "I", Cond.methodLink RX0 33 yX0_pad, Cond.instanceMethod yX0_pad, Cond.selects RX0 yX0_pad yX0_pad, Cond.initialized RX0, Cond.code yX0_pad cX0_pad 4 none, Cond.constantLong RX0 45 (8), Cond.methodLink RX0 26 yX0_takeByte, Cond.instanceMethod yX0_takeByte, Cond.selects RX0 yX0_takeByte yX0_takeByte, Cond.code yX0_takeByte cX0_takeByte 2 none, Cond.fieldLink RX0 11 "RootDesk$Digest" "message" "[B", Cond.methodLink RX0 39 yX0_fillSchedule, Cond.instanceMethod yX0_fillSchedule, Cond.selects RX0 yX0_fillSchedule yX0_fillSchedule, Cond.code yX0_fillSchedule cX0_fillSchedule 7 none, Cond.fieldLink RX0 15 "RootDesk$Digest" "schedule" "[I", Cond.methodLink RX0 47 yX0_turn, Cond.static yX0_turn, Cond.code yX0_turn cX0_turn 2 (some .int), Cond.methodLink RX0 42 yX0_mixBlock, Cond.instanceMethod yX0_mixBlock]
def wsX0_finishInto_r2 : List Cond := [Cond.selects RX0 yX0_mixBlock yX0_mixBlock, Cond.code yX0_mixBlock cX0_mixBlock 15 none, Cond.fieldLink RX0 51 "RootDesk$Digest" "ROUND_WORDS" "[I"]
def wsX0_finishInto : List Cond := .code yX0_finishInto cX0_finishInto 4 none :: ((wsX0_finishInto_r1 ++ wsX0_finishInto_r2) ++ wsX00)
def wsX1_init : List Cond := .code yX1_init cX1_init 1 none :: ([.methodLink RX1 1 objectInit, .instanceMethod objectInit, .code objectInit ⟨#[0xb1]⟩ 1 none, .arrayClass .byte, .fieldLink RX1 9 "RootDesk" "tape" "[B", .arrayClass .int, .fieldLink RX1 13 "RootDesk" "leafLengths" "[I", .fieldLink RX1 17 "RootDesk" "ids" "[I", .classLink RX1 20 RX0, .instantiable RX0 4, .initialized RX0, .fieldLink RX1 23 "RootDesk" "digest" "LRootDesk$Digest;", .fieldLink RX1 27 "RootDesk" "tapeLength" "I", .fieldLink RX1 31 "RootDesk" "leaves" "I", .fieldLink RX1 34 "RootDesk" "leafBytes" "I", .methodLink RX1 22 yX0_init, .instanceMethod yX0_init, .code yX0_init cX0_init 1 none, .methodLink RX0 3 objectInit, .fieldLink RX0 11 "RootDesk$Digest" "message" "[B", .fieldLink RX0 15 "RootDesk$Digest" "schedule" "[I", .fieldLink RX0 19 "RootDesk$Digest" "state" "[I", .fieldLink RX0 22 "RootDesk$Digest" "length" "I"] ++ wsX10 ++ wsX00)
def wsX1_put : List Cond := .code yX1_put cX1_put 5 (some .boolean) :: ([.fieldLink RX1 27 "RootDesk" "tapeLength" "I", .fieldLink RX1 9 "RootDesk" "tape" "[B"] ++ wsX10)
def wsX1_eightBytes : List Cond := .code yX1_eightBytes cX1_eightBytes 4 (some .long) :: ([.fieldLink RX1 17 "RootDesk" "ids" "[I", .constantLong RX1 105 (4294967295)] ++ wsX10)
def wsX1_hash_r1 : List Cond := [Cond.fieldLink RX1 23 "RootDesk" "digest" "LRootDesk$Digest;", Cond.fieldLink RX1 9 "RootDesk" "tape" "[B", Cond.fieldLink RX1 27 "RootDesk" "tapeLength" "I", Cond.fieldLink RX1 17 "RootDesk" "ids" "[I", Cond.methodLink RX1 37 yX0_begin, Cond.instanceMethod yX0_begin, Cond.selects RX0 yX0_begin yX0_begin, Cond.initialized RX0, Cond.code yX0_begin cX0_begin 1 none, Cond.fieldLink RX0 22 "RootDesk$Digest" "length" "I", Cond.methodLink RX1 40 yX0_takeBytes, Cond.instanceMethod yX0_takeBytes, Cond.selects RX0 yX0_takeBytes yX0_takeBytes, Cond.code yX0_takeBytes cX0_takeBytes 4 none, Cond.methodLink RX0 26 yX0_takeByte, Cond.instanceMethod yX0_takeByte, Cond.selects RX0 yX0_takeByte yX0_takeByte, Cond.code yX0_takeByte cX0_takeByte 2 none, Cond.fieldLink RX0 11 "RootDesk$Digest" "message" "[B", Cond.methodLink RX1 44 yX0_finishInto, Cond.instanceMethod yX0_finishInto, Cond.selects RX0 yX0_finishInto yX0_finishInto, Cond.code yX0_finishInto cX0_finishInto 4 none, Cond.fieldLink RX0 19 "RootDesk$Digest" "state" "[I"]
def wsX1_hash_r2 : List Cond := [Cond.fieldLink RX0 36 "RootDesk$Digest" "FIRST_STATE" "[I", Cond.methodLink RX0 33 yX0_pad, Cond.instanceMethod yX0_pad, Cond.selects RX0 yX0_pad yX0_pad, Cond.code yX0_pad cX0_pad 4 none, Cond.constantLong RX0 45 (8), Cond.methodLink RX0 39 yX0_fillSchedule, Cond.instanceMethod yX0_fillSchedule, Cond.selects RX0 yX0_fillSchedule yX0_fillSchedule, Cond.code yX0_fillSchedule cX0_fillSchedule 7 none, Cond.fieldLink RX0 15 "RootDesk$Digest" "schedule" "[I", Cond.methodLink RX0 47 yX0_turn, Cond.static yX0_turn, Cond.code yX0_turn cX0_turn 2 (some .int), Cond.methodLink RX0 42 yX0_mixBlock, Cond.instanceMethod yX0_mixBlock, Cond.selects RX0 yX0_mixBlock yX0_mixBlock, Cond.code yX0_mixBlock cX0_mixBlock 15 none, Cond.fieldLink RX0 51 "RootDesk$Digest" "ROUND_WORDS" "[I", Cond.methodLink RX1 48 yX1_eightBytes, Cond.instanceMethod yX1_eightBytes, Cond.selects RX1 yX1_eightBytes yX1_eightBytes, Cond.initialized RX1, Cond.code yX1_eightBytes cX1_eightBytes 4 (some .long)]
def wsX1_hash_r3 : List Cond := [Cond.constantLong RX1 105 (4294967295)]
def wsX1_hash : List Cond := .code yX1_hash cX1_hash 2 (some .long) :: ((wsX1_hash_r1 ++ (wsX1_hash_r2 ++ wsX1_hash_r3)) ++ wsX10 ++ wsX00)
def wsX1_makeLeafId_r1 : List Cond := [Cond.fieldLink RX1 23 "RootDesk" "digest" "LRootDesk$Digest;", Cond.fieldLink RX1 9 "RootDesk" "tape" "[B", Cond.fieldLink RX1 27 "RootDesk" "tapeLength" "I", Cond.fieldLink RX1 17 "RootDesk" "ids" "[I", Cond.methodLink RX1 37 yX0_begin, Cond.instanceMethod yX0_begin, Cond.selects RX0 yX0_begin yX0_begin, Cond.initialized RX0, Cond.code yX0_begin cX0_begin 1 none, Cond.fieldLink RX0 22 "RootDesk$Digest" "length" "I", Cond.methodLink RX1 95 yX0_takeByte, Cond.instanceMethod yX0_takeByte, Cond.selects RX0 yX0_takeByte yX0_takeByte, Cond.code yX0_takeByte cX0_takeByte 2 none, Cond.fieldLink RX0 11 "RootDesk$Digest" "message" "[B", Cond.methodLink RX1 40 yX0_takeBytes, Cond.instanceMethod yX0_takeBytes, Cond.selects RX0 yX0_takeBytes yX0_takeBytes, Cond.code yX0_takeBytes cX0_takeBytes 4 none, Cond.methodLink RX0 26 yX0_takeByte, Cond.methodLink RX1 44 yX0_finishInto, Cond.instanceMethod yX0_finishInto, Cond.selects RX0 yX0_finishInto yX0_finishInto, Cond.code yX0_finishInto cX0_finishInto 4 none]
def wsX1_makeLeafId_r2 : List Cond := [Cond.fieldLink RX0 19 "RootDesk$Digest" "state" "[I", Cond.fieldLink RX0 36 "RootDesk$Digest" "FIRST_STATE" "[I", Cond.methodLink RX0 33 yX0_pad, Cond.instanceMethod yX0_pad, Cond.selects RX0 yX0_pad yX0_pad, Cond.code yX0_pad cX0_pad 4 none, Cond.constantLong RX0 45 (8), Cond.methodLink RX0 39 yX0_fillSchedule, Cond.instanceMethod yX0_fillSchedule, Cond.selects RX0 yX0_fillSchedule yX0_fillSchedule, Cond.code yX0_fillSchedule cX0_fillSchedule 7 none, Cond.fieldLink RX0 15 "RootDesk$Digest" "schedule" "[I", Cond.methodLink RX0 47 yX0_turn, Cond.static yX0_turn, Cond.code yX0_turn cX0_turn 2 (some .int), Cond.methodLink RX0 42 yX0_mixBlock, Cond.instanceMethod yX0_mixBlock, Cond.selects RX0 yX0_mixBlock yX0_mixBlock, Cond.code yX0_mixBlock cX0_mixBlock 15 none, Cond.fieldLink RX0 51 "RootDesk$Digest" "ROUND_WORDS" "[I"]
def wsX1_makeLeafId : List Cond := .code yX1_makeLeafId cX1_makeLeafId 2 none :: ((wsX1_makeLeafId_r1 ++ wsX1_makeLeafId_r2) ++ wsX10 ++ wsX00)
def wsX1_hasOneBeside : List Cond := .code yX1_hasOneBeside cX1_hasOneBeside 2 (some .boolean) :: ([])
def wsX1_join_r1 : List Cond := [Cond.fieldLink RX1 23 "RootDesk" "digest" "LRootDesk$Digest;", Cond.fieldLink RX1 17 "RootDesk" "ids" "[I", Cond.methodLink RX1 37 yX0_begin, Cond.instanceMethod yX0_begin, Cond.selects RX0 yX0_begin yX0_begin, Cond.initialized RX0, Cond.code yX0_begin cX0_begin 1 none, Cond.fieldLink RX0 22 "RootDesk$Digest" "length" "I", Cond.methodLink RX1 95 yX0_takeByte, Cond.instanceMethod yX0_takeByte, Cond.selects RX0 yX0_takeByte yX0_takeByte, Cond.code yX0_takeByte cX0_takeByte 2 none, Cond.fieldLink RX0 11 "RootDesk$Digest" "message" "[B", Cond.methodLink RX1 98 yX0_takeId, Cond.instanceMethod yX0_takeId, Cond.selects RX0 yX0_takeId yX0_takeId, Cond.code yX0_takeId cX0_takeId 4 none, Cond.methodLink RX0 30 yX0_takeWord, Cond.instanceMethod yX0_takeWord, Cond.selects RX0 yX0_takeWord yX0_takeWord, Cond.code yX0_takeWord cX0_takeWord 2 none, Cond.methodLink RX0 26 yX0_takeByte, Cond.methodLink RX1 44 yX0_finishInto, Cond.instanceMethod yX0_finishInto]
def wsX1_join_r2 : List Cond := [Cond.selects RX0 yX0_finishInto yX0_finishInto, Cond.code yX0_finishInto cX0_finishInto 4 none, Cond.fieldLink RX0 19 "RootDesk$Digest" "state" "[I", Cond.fieldLink RX0 36 "RootDesk$Digest" "FIRST_STATE" "[I", Cond.methodLink RX0 33 yX0_pad, Cond.instanceMethod yX0_pad, Cond.selects RX0 yX0_pad yX0_pad, Cond.code yX0_pad cX0_pad 4 none, Cond.constantLong RX0 45 (8), Cond.methodLink RX0 39 yX0_fillSchedule, Cond.instanceMethod yX0_fillSchedule, Cond.selects RX0 yX0_fillSchedule yX0_fillSchedule, Cond.code yX0_fillSchedule cX0_fillSchedule 7 none, Cond.fieldLink RX0 15 "RootDesk$Digest" "schedule" "[I", Cond.methodLink RX0 47 yX0_turn, Cond.static yX0_turn, Cond.code yX0_turn cX0_turn 2 (some .int), Cond.methodLink RX0 42 yX0_mixBlock, Cond.instanceMethod yX0_mixBlock, Cond.selects RX0 yX0_mixBlock yX0_mixBlock, Cond.code yX0_mixBlock cX0_mixBlock 15 none, Cond.fieldLink RX0 51 "RootDesk$Digest" "ROUND_WORDS" "[I"]
def wsX1_join : List Cond := .code yX1_join cX1_join 4 none :: ((wsX1_join_r1 ++ wsX1_join_r2) ++ wsX10 ++ wsX00)
def wsX1_copyId : List Cond := .code yX1_copyId cX1_copyId 4 none :: ([.fieldLink RX1 17 "RootDesk" "ids" "[I"] ++ wsX10)
def wsX1_widthAbove : List Cond := .code yX1_widthAbove cX1_widthAbove 1 (some .int) :: ([])
def wsX1_refreshAbove_r1 : List Cond := [Cond.fieldLink RX1 31 "RootDesk" "leaves" "I", Cond.fieldLink RX1 63 "RootDesk" "LEVEL_START" "[I", Cond.methodLink RX1 80 yX1_hasOneBeside, Cond.static yX1_hasOneBeside, Cond.initialized RX1, Cond.code yX1_hasOneBeside cX1_hasOneBeside 2 (some .boolean), Cond.methodLink RX1 84 yX1_join, Cond.instanceMethod yX1_join, Cond.selects RX1 yX1_join yX1_join, Cond.code yX1_join cX1_join 4 none, Cond.fieldLink RX1 23 "RootDesk" "digest" "LRootDesk$Digest;", Cond.fieldLink RX1 17 "RootDesk" "ids" "[I", Cond.methodLink RX1 37 yX0_begin, Cond.instanceMethod yX0_begin, Cond.selects RX0 yX0_begin yX0_begin, Cond.initialized RX0, Cond.code yX0_begin cX0_begin 1 none, Cond.fieldLink RX0 22 "RootDesk$Digest" "length" "I", Cond.methodLink RX1 95 yX0_takeByte, Cond.instanceMethod yX0_takeByte, Cond.selects RX0 yX0_takeByte yX0_takeByte, Cond.code yX0_takeByte cX0_takeByte 2 none, Cond.fieldLink RX0 11 "RootDesk$Digest" "message" "[B", Cond.methodLink RX1 98 yX0_takeId]
def wsX1_refreshAbove_r2 : List Cond := [Cond.instanceMethod yX0_takeId, Cond.selects RX0 yX0_takeId yX0_takeId, Cond.code yX0_takeId cX0_takeId 4 none, Cond.methodLink RX0 30 yX0_takeWord, Cond.instanceMethod yX0_takeWord, Cond.selects RX0 yX0_takeWord yX0_takeWord, Cond.code yX0_takeWord cX0_takeWord 2 none, Cond.methodLink RX0 26 yX0_takeByte, Cond.methodLink RX1 44 yX0_finishInto, Cond.instanceMethod yX0_finishInto, Cond.selects RX0 yX0_finishInto yX0_finishInto, Cond.code yX0_finishInto cX0_finishInto 4 none, Cond.fieldLink RX0 19 "RootDesk$Digest" "state" "[I", Cond.fieldLink RX0 36 "RootDesk$Digest" "FIRST_STATE" "[I", Cond.methodLink RX0 33 yX0_pad, Cond.instanceMethod yX0_pad, Cond.selects RX0 yX0_pad yX0_pad, Cond.code yX0_pad cX0_pad 4 none, Cond.constantLong RX0 45 (8), Cond.methodLink RX0 39 yX0_fillSchedule, Cond.instanceMethod yX0_fillSchedule, Cond.selects RX0 yX0_fillSchedule yX0_fillSchedule, Cond.code yX0_fillSchedule cX0_fillSchedule 7 none, Cond.fieldLink RX0 15 "RootDesk$Digest" "schedule" "[I"]
def wsX1_refreshAbove_r3 : List Cond := [Cond.methodLink RX0 47 yX0_turn, Cond.static yX0_turn, Cond.code yX0_turn cX0_turn 2 (some .int), Cond.methodLink RX0 42 yX0_mixBlock, Cond.instanceMethod yX0_mixBlock, Cond.selects RX0 yX0_mixBlock yX0_mixBlock, Cond.code yX0_mixBlock cX0_mixBlock 15 none, Cond.fieldLink RX0 51 "RootDesk$Digest" "ROUND_WORDS" "[I", Cond.methodLink RX1 101 yX1_copyId, Cond.instanceMethod yX1_copyId, Cond.selects RX1 yX1_copyId yX1_copyId, Cond.code yX1_copyId cX1_copyId 4 none, Cond.methodLink RX1 88 yX1_widthAbove, Cond.static yX1_widthAbove, Cond.code yX1_widthAbove cX1_widthAbove 1 (some .int)]
def wsX1_refreshAbove : List Cond := .code yX1_refreshAbove cX1_refreshAbove 7 none :: ((wsX1_refreshAbove_r1 ++ (wsX1_refreshAbove_r2 ++ wsX1_refreshAbove_r3)) ++ wsX10 ++ wsX00)
def wsX1_moveTapeTo_r1 : List Cond := [Cond.fieldLink RX1 34 "RootDesk" "leafBytes" "I", Cond.fieldLink RX1 27 "RootDesk" "tapeLength" "I", Cond.fieldLink RX1 13 "RootDesk" "leafLengths" "[I", Cond.methodLink RX1 77 yX1_makeLeafId, Cond.instanceMethod yX1_makeLeafId, Cond.selects RX1 yX1_makeLeafId yX1_makeLeafId, Cond.initialized RX1, Cond.code yX1_makeLeafId cX1_makeLeafId 2 none, Cond.fieldLink RX1 23 "RootDesk" "digest" "LRootDesk$Digest;", Cond.fieldLink RX1 9 "RootDesk" "tape" "[B", Cond.fieldLink RX1 17 "RootDesk" "ids" "[I", Cond.methodLink RX1 37 yX0_begin, Cond.instanceMethod yX0_begin, Cond.selects RX0 yX0_begin yX0_begin, Cond.initialized RX0, Cond.code yX0_begin cX0_begin 1 none, Cond.fieldLink RX0 22 "RootDesk$Digest" "length" "I", Cond.methodLink RX1 95 yX0_takeByte, Cond.instanceMethod yX0_takeByte, Cond.selects RX0 yX0_takeByte yX0_takeByte, Cond.code yX0_takeByte cX0_takeByte 2 none, Cond.fieldLink RX0 11 "RootDesk$Digest" "message" "[B", Cond.methodLink RX1 40 yX0_takeBytes, Cond.instanceMethod yX0_takeBytes]
def wsX1_moveTapeTo_r2 : List Cond := [Cond.selects RX0 yX0_takeBytes yX0_takeBytes, Cond.code yX0_takeBytes cX0_takeBytes 4 none, Cond.methodLink RX0 26 yX0_takeByte, Cond.methodLink RX1 44 yX0_finishInto, Cond.instanceMethod yX0_finishInto, Cond.selects RX0 yX0_finishInto yX0_finishInto, Cond.code yX0_finishInto cX0_finishInto 4 none, Cond.fieldLink RX0 19 "RootDesk$Digest" "state" "[I", Cond.fieldLink RX0 36 "RootDesk$Digest" "FIRST_STATE" "[I", Cond.methodLink RX0 33 yX0_pad, Cond.instanceMethod yX0_pad, Cond.selects RX0 yX0_pad yX0_pad, Cond.code yX0_pad cX0_pad 4 none, Cond.constantLong RX0 45 (8), Cond.methodLink RX0 39 yX0_fillSchedule, Cond.instanceMethod yX0_fillSchedule, Cond.selects RX0 yX0_fillSchedule yX0_fillSchedule, Cond.code yX0_fillSchedule cX0_fillSchedule 7 none, Cond.fieldLink RX0 15 "RootDesk$Digest" "schedule" "[I", Cond.methodLink RX0 47 yX0_turn, Cond.static yX0_turn, Cond.code yX0_turn cX0_turn 2 (some .int), Cond.methodLink RX0 42 yX0_mixBlock, Cond.instanceMethod yX0_mixBlock]
def wsX1_moveTapeTo_r3 : List Cond := [Cond.selects RX0 yX0_mixBlock yX0_mixBlock, Cond.code yX0_mixBlock cX0_mixBlock 15 none, Cond.fieldLink RX0 51 "RootDesk$Digest" "ROUND_WORDS" "[I", Cond.methodLink RX1 60 yX1_refreshAbove, Cond.instanceMethod yX1_refreshAbove, Cond.selects RX1 yX1_refreshAbove yX1_refreshAbove, Cond.code yX1_refreshAbove cX1_refreshAbove 7 none, Cond.fieldLink RX1 31 "RootDesk" "leaves" "I", Cond.fieldLink RX1 63 "RootDesk" "LEVEL_START" "[I", Cond.methodLink RX1 80 yX1_hasOneBeside, Cond.static yX1_hasOneBeside, Cond.code yX1_hasOneBeside cX1_hasOneBeside 2 (some .boolean), Cond.methodLink RX1 84 yX1_join, Cond.instanceMethod yX1_join, Cond.selects RX1 yX1_join yX1_join, Cond.code yX1_join cX1_join 4 none, Cond.methodLink RX1 98 yX0_takeId, Cond.instanceMethod yX0_takeId, Cond.selects RX0 yX0_takeId yX0_takeId, Cond.code yX0_takeId cX0_takeId 4 none, Cond.methodLink RX0 30 yX0_takeWord, Cond.instanceMethod yX0_takeWord, Cond.selects RX0 yX0_takeWord yX0_takeWord, Cond.code yX0_takeWord cX0_takeWord 2 none]
def wsX1_moveTapeTo_r4 : List Cond := [Cond.methodLink RX1 101 yX1_copyId, Cond.instanceMethod yX1_copyId, Cond.selects RX1 yX1_copyId yX1_copyId, Cond.code yX1_copyId cX1_copyId 4 none, Cond.methodLink RX1 88 yX1_widthAbove, Cond.static yX1_widthAbove, Cond.code yX1_widthAbove cX1_widthAbove 1 (some .int)]
def wsX1_moveTapeTo : List Cond := .code yX1_moveTapeTo cX1_moveTapeTo 2 none :: ((wsX1_moveTapeTo_r1 ++ (wsX1_moveTapeTo_r2 ++ (wsX1_moveTapeTo_r3 ++ wsX1_moveTapeTo_r4))) ++ wsX10 ++ wsX00)
def wsX1_add_r1 : List Cond := [Cond.fieldLink RX1 31 "RootDesk" "leaves" "I", Cond.fieldLink RX1 13 "RootDesk" "leafLengths" "[I", Cond.methodLink RX1 52 yX1_moveTapeTo, Cond.instanceMethod yX1_moveTapeTo, Cond.selects RX1 yX1_moveTapeTo yX1_moveTapeTo, Cond.initialized RX1, Cond.code yX1_moveTapeTo cX1_moveTapeTo 2 none, Cond.fieldLink RX1 34 "RootDesk" "leafBytes" "I", Cond.fieldLink RX1 27 "RootDesk" "tapeLength" "I", Cond.methodLink RX1 77 yX1_makeLeafId, Cond.instanceMethod yX1_makeLeafId, Cond.selects RX1 yX1_makeLeafId yX1_makeLeafId, Cond.code yX1_makeLeafId cX1_makeLeafId 2 none, Cond.fieldLink RX1 23 "RootDesk" "digest" "LRootDesk$Digest;", Cond.fieldLink RX1 9 "RootDesk" "tape" "[B", Cond.fieldLink RX1 17 "RootDesk" "ids" "[I", Cond.methodLink RX1 37 yX0_begin, Cond.instanceMethod yX0_begin, Cond.selects RX0 yX0_begin yX0_begin, Cond.initialized RX0, Cond.code yX0_begin cX0_begin 1 none, Cond.fieldLink RX0 22 "RootDesk$Digest" "length" "I", Cond.methodLink RX1 95 yX0_takeByte, Cond.instanceMethod yX0_takeByte]
def wsX1_add_r2 : List Cond := [Cond.selects RX0 yX0_takeByte yX0_takeByte, Cond.code yX0_takeByte cX0_takeByte 2 none, Cond.fieldLink RX0 11 "RootDesk$Digest" "message" "[B", Cond.methodLink RX1 40 yX0_takeBytes, Cond.instanceMethod yX0_takeBytes, Cond.selects RX0 yX0_takeBytes yX0_takeBytes, Cond.code yX0_takeBytes cX0_takeBytes 4 none, Cond.methodLink RX0 26 yX0_takeByte, Cond.methodLink RX1 44 yX0_finishInto, Cond.instanceMethod yX0_finishInto, Cond.selects RX0 yX0_finishInto yX0_finishInto, Cond.code yX0_finishInto cX0_finishInto 4 none, Cond.fieldLink RX0 19 "RootDesk$Digest" "state" "[I", Cond.fieldLink RX0 36 "RootDesk$Digest" "FIRST_STATE" "[I", Cond.methodLink RX0 33 yX0_pad, Cond.instanceMethod yX0_pad, Cond.selects RX0 yX0_pad yX0_pad, Cond.code yX0_pad cX0_pad 4 none, Cond.constantLong RX0 45 (8), Cond.methodLink RX0 39 yX0_fillSchedule, Cond.instanceMethod yX0_fillSchedule, Cond.selects RX0 yX0_fillSchedule yX0_fillSchedule, Cond.code yX0_fillSchedule cX0_fillSchedule 7 none, Cond.fieldLink RX0 15 "RootDesk$Digest" "schedule" "[I"]
def wsX1_add_r3 : List Cond := [Cond.methodLink RX0 47 yX0_turn, Cond.static yX0_turn, Cond.code yX0_turn cX0_turn 2 (some .int), Cond.methodLink RX0 42 yX0_mixBlock, Cond.instanceMethod yX0_mixBlock, Cond.selects RX0 yX0_mixBlock yX0_mixBlock, Cond.code yX0_mixBlock cX0_mixBlock 15 none, Cond.fieldLink RX0 51 "RootDesk$Digest" "ROUND_WORDS" "[I", Cond.methodLink RX1 60 yX1_refreshAbove, Cond.instanceMethod yX1_refreshAbove, Cond.selects RX1 yX1_refreshAbove yX1_refreshAbove, Cond.code yX1_refreshAbove cX1_refreshAbove 7 none, Cond.fieldLink RX1 63 "RootDesk" "LEVEL_START" "[I", Cond.methodLink RX1 80 yX1_hasOneBeside, Cond.static yX1_hasOneBeside, Cond.code yX1_hasOneBeside cX1_hasOneBeside 2 (some .boolean), Cond.methodLink RX1 84 yX1_join, Cond.instanceMethod yX1_join, Cond.selects RX1 yX1_join yX1_join, Cond.code yX1_join cX1_join 4 none, Cond.methodLink RX1 98 yX0_takeId, Cond.instanceMethod yX0_takeId, Cond.selects RX0 yX0_takeId yX0_takeId, Cond.code yX0_takeId cX0_takeId 4 none]
def wsX1_add_r4 : List Cond := [Cond.methodLink RX0 30 yX0_takeWord, Cond.instanceMethod yX0_takeWord, Cond.selects RX0 yX0_takeWord yX0_takeWord, Cond.code yX0_takeWord cX0_takeWord 2 none, Cond.methodLink RX1 101 yX1_copyId, Cond.instanceMethod yX1_copyId, Cond.selects RX1 yX1_copyId yX1_copyId, Cond.code yX1_copyId cX1_copyId 4 none, Cond.methodLink RX1 88 yX1_widthAbove, Cond.static yX1_widthAbove, Cond.code yX1_widthAbove cX1_widthAbove 1 (some .int)]
def wsX1_add : List Cond := .code yX1_add cX1_add 2 (some .int) :: ((wsX1_add_r1 ++ (wsX1_add_r2 ++ (wsX1_add_r3 ++ wsX1_add_r4))) ++ wsX10 ++ wsX00)
def wsX1_isLeaf : List Cond := .code yX1_isLeaf cX1_isLeaf 2 (some .boolean) :: ([.fieldLink RX1 31 "RootDesk" "leaves" "I"] ++ wsX10)
def wsX1_change_r1 : List Cond := [Cond.methodLink RX1 56 yX1_isLeaf, Cond.instanceMethod yX1_isLeaf, Cond.selects RX1 yX1_isLeaf yX1_isLeaf, Cond.initialized RX1, Cond.code yX1_isLeaf cX1_isLeaf 2 (some .boolean), Cond.fieldLink RX1 31 "RootDesk" "leaves" "I", Cond.methodLink RX1 52 yX1_moveTapeTo, Cond.instanceMethod yX1_moveTapeTo, Cond.selects RX1 yX1_moveTapeTo yX1_moveTapeTo, Cond.code yX1_moveTapeTo cX1_moveTapeTo 2 none, Cond.fieldLink RX1 34 "RootDesk" "leafBytes" "I", Cond.fieldLink RX1 27 "RootDesk" "tapeLength" "I", Cond.fieldLink RX1 13 "RootDesk" "leafLengths" "[I", Cond.methodLink RX1 77 yX1_makeLeafId, Cond.instanceMethod yX1_makeLeafId, Cond.selects RX1 yX1_makeLeafId yX1_makeLeafId, Cond.code yX1_makeLeafId cX1_makeLeafId 2 none, Cond.fieldLink RX1 23 "RootDesk" "digest" "LRootDesk$Digest;", Cond.fieldLink RX1 9 "RootDesk" "tape" "[B", Cond.fieldLink RX1 17 "RootDesk" "ids" "[I", Cond.methodLink RX1 37 yX0_begin, Cond.instanceMethod yX0_begin, Cond.selects RX0 yX0_begin yX0_begin, Cond.initialized RX0]
def wsX1_change_r2 : List Cond := [Cond.code yX0_begin cX0_begin 1 none, Cond.fieldLink RX0 22 "RootDesk$Digest" "length" "I", Cond.methodLink RX1 95 yX0_takeByte, Cond.instanceMethod yX0_takeByte, Cond.selects RX0 yX0_takeByte yX0_takeByte, Cond.code yX0_takeByte cX0_takeByte 2 none, Cond.fieldLink RX0 11 "RootDesk$Digest" "message" "[B", Cond.methodLink RX1 40 yX0_takeBytes, Cond.instanceMethod yX0_takeBytes, Cond.selects RX0 yX0_takeBytes yX0_takeBytes, Cond.code yX0_takeBytes cX0_takeBytes 4 none, Cond.methodLink RX0 26 yX0_takeByte, Cond.methodLink RX1 44 yX0_finishInto, Cond.instanceMethod yX0_finishInto, Cond.selects RX0 yX0_finishInto yX0_finishInto, Cond.code yX0_finishInto cX0_finishInto 4 none, Cond.fieldLink RX0 19 "RootDesk$Digest" "state" "[I", Cond.fieldLink RX0 36 "RootDesk$Digest" "FIRST_STATE" "[I", Cond.methodLink RX0 33 yX0_pad, Cond.instanceMethod yX0_pad, Cond.selects RX0 yX0_pad yX0_pad, Cond.code yX0_pad cX0_pad 4 none, Cond.constantLong RX0 45 (8), Cond.methodLink RX0 39 yX0_fillSchedule]
def wsX1_change_r3 : List Cond := [Cond.instanceMethod yX0_fillSchedule, Cond.selects RX0 yX0_fillSchedule yX0_fillSchedule, Cond.code yX0_fillSchedule cX0_fillSchedule 7 none, Cond.fieldLink RX0 15 "RootDesk$Digest" "schedule" "[I", Cond.methodLink RX0 47 yX0_turn, Cond.static yX0_turn, Cond.code yX0_turn cX0_turn 2 (some .int), Cond.methodLink RX0 42 yX0_mixBlock, Cond.instanceMethod yX0_mixBlock, Cond.selects RX0 yX0_mixBlock yX0_mixBlock, Cond.code yX0_mixBlock cX0_mixBlock 15 none, Cond.fieldLink RX0 51 "RootDesk$Digest" "ROUND_WORDS" "[I", Cond.methodLink RX1 60 yX1_refreshAbove, Cond.instanceMethod yX1_refreshAbove, Cond.selects RX1 yX1_refreshAbove yX1_refreshAbove, Cond.code yX1_refreshAbove cX1_refreshAbove 7 none, Cond.fieldLink RX1 63 "RootDesk" "LEVEL_START" "[I", Cond.methodLink RX1 80 yX1_hasOneBeside, Cond.static yX1_hasOneBeside, Cond.code yX1_hasOneBeside cX1_hasOneBeside 2 (some .boolean), Cond.methodLink RX1 84 yX1_join, Cond.instanceMethod yX1_join, Cond.selects RX1 yX1_join yX1_join, Cond.code yX1_join cX1_join 4 none]
def wsX1_change_r4 : List Cond := [Cond.methodLink RX1 98 yX0_takeId, Cond.instanceMethod yX0_takeId, Cond.selects RX0 yX0_takeId yX0_takeId, Cond.code yX0_takeId cX0_takeId 4 none, Cond.methodLink RX0 30 yX0_takeWord, Cond.instanceMethod yX0_takeWord, Cond.selects RX0 yX0_takeWord yX0_takeWord, Cond.code yX0_takeWord cX0_takeWord 2 none, Cond.methodLink RX1 101 yX1_copyId, Cond.instanceMethod yX1_copyId, Cond.selects RX1 yX1_copyId yX1_copyId, Cond.code yX1_copyId cX1_copyId 4 none, Cond.methodLink RX1 88 yX1_widthAbove, Cond.static yX1_widthAbove, Cond.code yX1_widthAbove cX1_widthAbove 1 (some .int)]
def wsX1_change : List Cond := .code yX1_change cX1_change 2 (some .boolean) :: ((wsX1_change_r1 ++ (wsX1_change_r2 ++ (wsX1_change_r3 ++ wsX1_change_r4))) ++ wsX10 ++ wsX00)
def wsX1_drop_r1 : List Cond := [Cond.fieldLink RX1 31 "RootDesk" "leaves" "I", Cond.fieldLink RX1 34 "RootDesk" "leafBytes" "I", Cond.fieldLink RX1 13 "RootDesk" "leafLengths" "[I", Cond.methodLink RX1 60 yX1_refreshAbove, Cond.instanceMethod yX1_refreshAbove, Cond.selects RX1 yX1_refreshAbove yX1_refreshAbove, Cond.initialized RX1, Cond.code yX1_refreshAbove cX1_refreshAbove 7 none, Cond.fieldLink RX1 63 "RootDesk" "LEVEL_START" "[I", Cond.methodLink RX1 80 yX1_hasOneBeside, Cond.static yX1_hasOneBeside, Cond.code yX1_hasOneBeside cX1_hasOneBeside 2 (some .boolean), Cond.methodLink RX1 84 yX1_join, Cond.instanceMethod yX1_join, Cond.selects RX1 yX1_join yX1_join, Cond.code yX1_join cX1_join 4 none, Cond.fieldLink RX1 23 "RootDesk" "digest" "LRootDesk$Digest;", Cond.fieldLink RX1 17 "RootDesk" "ids" "[I", Cond.methodLink RX1 37 yX0_begin, Cond.instanceMethod yX0_begin, Cond.selects RX0 yX0_begin yX0_begin, Cond.initialized RX0, Cond.code yX0_begin cX0_begin 1 none, Cond.fieldLink RX0 22 "RootDesk$Digest" "length" "I"]
def wsX1_drop_r2 : List Cond := [Cond.methodLink RX1 95 yX0_takeByte, Cond.instanceMethod yX0_takeByte, Cond.selects RX0 yX0_takeByte yX0_takeByte, Cond.code yX0_takeByte cX0_takeByte 2 none, Cond.fieldLink RX0 11 "RootDesk$Digest" "message" "[B", Cond.methodLink RX1 98 yX0_takeId, Cond.instanceMethod yX0_takeId, Cond.selects RX0 yX0_takeId yX0_takeId, Cond.code yX0_takeId cX0_takeId 4 none, Cond.methodLink RX0 30 yX0_takeWord, Cond.instanceMethod yX0_takeWord, Cond.selects RX0 yX0_takeWord yX0_takeWord, Cond.code yX0_takeWord cX0_takeWord 2 none, Cond.methodLink RX0 26 yX0_takeByte, Cond.methodLink RX1 44 yX0_finishInto, Cond.instanceMethod yX0_finishInto, Cond.selects RX0 yX0_finishInto yX0_finishInto, Cond.code yX0_finishInto cX0_finishInto 4 none, Cond.fieldLink RX0 19 "RootDesk$Digest" "state" "[I", Cond.fieldLink RX0 36 "RootDesk$Digest" "FIRST_STATE" "[I", Cond.methodLink RX0 33 yX0_pad, Cond.instanceMethod yX0_pad, Cond.selects RX0 yX0_pad yX0_pad, Cond.code yX0_pad cX0_pad 4 none]
def wsX1_drop_r3 : List Cond := [Cond.constantLong RX0 45 (8), Cond.methodLink RX0 39 yX0_fillSchedule, Cond.instanceMethod yX0_fillSchedule, Cond.selects RX0 yX0_fillSchedule yX0_fillSchedule, Cond.code yX0_fillSchedule cX0_fillSchedule 7 none, Cond.fieldLink RX0 15 "RootDesk$Digest" "schedule" "[I", Cond.methodLink RX0 47 yX0_turn, Cond.static yX0_turn, Cond.code yX0_turn cX0_turn 2 (some .int), Cond.methodLink RX0 42 yX0_mixBlock, Cond.instanceMethod yX0_mixBlock, Cond.selects RX0 yX0_mixBlock yX0_mixBlock, Cond.code yX0_mixBlock cX0_mixBlock 15 none, Cond.fieldLink RX0 51 "RootDesk$Digest" "ROUND_WORDS" "[I", Cond.methodLink RX1 101 yX1_copyId, Cond.instanceMethod yX1_copyId, Cond.selects RX1 yX1_copyId yX1_copyId, Cond.code yX1_copyId cX1_copyId 4 none, Cond.methodLink RX1 88 yX1_widthAbove, Cond.static yX1_widthAbove, Cond.code yX1_widthAbove cX1_widthAbove 1 (some .int)]
def wsX1_drop : List Cond := .code yX1_drop cX1_drop 1 (some .int) :: ((wsX1_drop_r1 ++ (wsX1_drop_r2 ++ wsX1_drop_r3)) ++ wsX10 ++ wsX00)
def wsX1_rootLevel : List Cond := .code yX1_rootLevel cX1_rootLevel 3 (some .int) :: ([.fieldLink RX1 31 "RootDesk" "leaves" "I", .methodLink RX1 88 yX1_widthAbove, .static yX1_widthAbove, .initialized RX1, .code yX1_widthAbove cX1_widthAbove 1 (some .int)] ++ wsX10)
def wsX1_root : List Cond := .code yX1_root cX1_root 2 (some .long) :: ([.fieldLink RX1 31 "RootDesk" "leaves" "I", .fieldLink RX1 63 "RootDesk" "LEVEL_START" "[I", .methodLink RX1 66 yX1_rootLevel, .instanceMethod yX1_rootLevel, .selects RX1 yX1_rootLevel yX1_rootLevel, .initialized RX1, .code yX1_rootLevel cX1_rootLevel 3 (some .int), .methodLink RX1 88 yX1_widthAbove, .static yX1_widthAbove, .code yX1_widthAbove cX1_widthAbove 1 (some .int), .methodLink RX1 48 yX1_eightBytes, .instanceMethod yX1_eightBytes, .selects RX1 yX1_eightBytes yX1_eightBytes, .code yX1_eightBytes cX1_eightBytes 4 (some .long), .fieldLink RX1 17 "RootDesk" "ids" "[I", .constantLong RX1 105 (4294967295)] ++ wsX10)
def wsX1_levelOfStep : List Cond := .code yX1_levelOfStep cX1_levelOfStep 6 (some .int) :: ([.fieldLink RX1 31 "RootDesk" "leaves" "I", .methodLink RX1 56 yX1_isLeaf, .instanceMethod yX1_isLeaf, .selects RX1 yX1_isLeaf yX1_isLeaf, .initialized RX1, .code yX1_isLeaf cX1_isLeaf 2 (some .boolean), .methodLink RX1 80 yX1_hasOneBeside, .static yX1_hasOneBeside, .code yX1_hasOneBeside cX1_hasOneBeside 2 (some .boolean), .methodLink RX1 88 yX1_widthAbove, .static yX1_widthAbove, .code yX1_widthAbove cX1_widthAbove 1 (some .int)] ++ wsX10)
def wsX1_way : List Cond := .code yX1_way cX1_way 3 (some .int) :: ([.methodLink RX1 56 yX1_isLeaf, .instanceMethod yX1_isLeaf, .selects RX1 yX1_isLeaf yX1_isLeaf, .initialized RX1, .code yX1_isLeaf cX1_isLeaf 2 (some .boolean), .fieldLink RX1 31 "RootDesk" "leaves" "I", .methodLink RX1 70 yX1_levelOfStep, .instanceMethod yX1_levelOfStep, .selects RX1 yX1_levelOfStep yX1_levelOfStep, .code yX1_levelOfStep cX1_levelOfStep 6 (some .int), .methodLink RX1 80 yX1_hasOneBeside, .static yX1_hasOneBeside, .code yX1_hasOneBeside cX1_hasOneBeside 2 (some .boolean), .methodLink RX1 88 yX1_widthAbove, .static yX1_widthAbove, .code yX1_widthAbove cX1_widthAbove 1 (some .int)] ++ wsX10)
def wsX1_nodeBeside : List Cond := .code yX1_nodeBeside cX1_nodeBeside 2 (some .int) :: ([.fieldLink RX1 63 "RootDesk" "LEVEL_START" "[I"])
def wsX1_beside_r1 : List Cond := [Cond.methodLink RX1 70 yX1_levelOfStep, Cond.instanceMethod yX1_levelOfStep, Cond.selects RX1 yX1_levelOfStep yX1_levelOfStep, Cond.initialized RX1, Cond.code yX1_levelOfStep cX1_levelOfStep 6 (some .int), Cond.fieldLink RX1 31 "RootDesk" "leaves" "I", Cond.methodLink RX1 56 yX1_isLeaf, Cond.instanceMethod yX1_isLeaf, Cond.selects RX1 yX1_isLeaf yX1_isLeaf, Cond.code yX1_isLeaf cX1_isLeaf 2 (some .boolean), Cond.methodLink RX1 80 yX1_hasOneBeside, Cond.static yX1_hasOneBeside, Cond.code yX1_hasOneBeside cX1_hasOneBeside 2 (some .boolean), Cond.methodLink RX1 88 yX1_widthAbove, Cond.static yX1_widthAbove, Cond.code yX1_widthAbove cX1_widthAbove 1 (some .int), Cond.methodLink RX1 74 yX1_nodeBeside, Cond.static yX1_nodeBeside, Cond.code yX1_nodeBeside cX1_nodeBeside 2 (some .int), Cond.fieldLink RX1 63 "RootDesk" "LEVEL_START" "[I", Cond.methodLink RX1 48 yX1_eightBytes, Cond.instanceMethod yX1_eightBytes, Cond.selects RX1 yX1_eightBytes yX1_eightBytes, Cond.code yX1_eightBytes cX1_eightBytes 4 (some .long)]
def wsX1_beside_r2 : List Cond := [Cond.fieldLink RX1 17 "RootDesk" "ids" "[I", Cond.constantLong RX1 105 (4294967295)]
def wsX1_beside : List Cond := .code yX1_beside cX1_beside 5 (some .long) :: ((wsX1_beside_r1 ++ wsX1_beside_r2) ++ wsX10)
def wsX1_isLeft : List Cond := .code yX1_isLeft cX1_isLeft 4 (some .int) :: ([.methodLink RX1 70 yX1_levelOfStep, .instanceMethod yX1_levelOfStep, .selects RX1 yX1_levelOfStep yX1_levelOfStep, .initialized RX1, .code yX1_levelOfStep cX1_levelOfStep 6 (some .int), .fieldLink RX1 31 "RootDesk" "leaves" "I", .methodLink RX1 56 yX1_isLeaf, .instanceMethod yX1_isLeaf, .selects RX1 yX1_isLeaf yX1_isLeaf, .code yX1_isLeaf cX1_isLeaf 2 (some .boolean), .methodLink RX1 80 yX1_hasOneBeside, .static yX1_hasOneBeside, .code yX1_hasOneBeside cX1_hasOneBeside 2 (some .boolean), .methodLink RX1 88 yX1_widthAbove, .static yX1_widthAbove, .code yX1_widthAbove cX1_widthAbove 1 (some .int)] ++ wsX10)
def wsX1_sameIds : List Cond := .code yX1_sameIds cX1_sameIds 4 (some .boolean) :: ([.fieldLink RX1 17 "RootDesk" "ids" "[I"] ++ wsX10)
def wsX1_proves_r1 : List Cond := [Cond.fieldLink RX1 31 "RootDesk" "leaves" "I", Cond.fieldLink RX1 63 "RootDesk" "LEVEL_START" "[I", Cond.methodLink RX1 56 yX1_isLeaf, Cond.instanceMethod yX1_isLeaf, Cond.selects RX1 yX1_isLeaf yX1_isLeaf, Cond.initialized RX1, Cond.code yX1_isLeaf cX1_isLeaf 2 (some .boolean), Cond.methodLink RX1 77 yX1_makeLeafId, Cond.instanceMethod yX1_makeLeafId, Cond.selects RX1 yX1_makeLeafId yX1_makeLeafId, Cond.code yX1_makeLeafId cX1_makeLeafId 2 none, Cond.fieldLink RX1 23 "RootDesk" "digest" "LRootDesk$Digest;", Cond.fieldLink RX1 9 "RootDesk" "tape" "[B", Cond.fieldLink RX1 27 "RootDesk" "tapeLength" "I", Cond.fieldLink RX1 17 "RootDesk" "ids" "[I", Cond.methodLink RX1 37 yX0_begin, Cond.instanceMethod yX0_begin, Cond.selects RX0 yX0_begin yX0_begin, Cond.initialized RX0, Cond.code yX0_begin cX0_begin 1 none, Cond.fieldLink RX0 22 "RootDesk$Digest" "length" "I", Cond.methodLink RX1 95 yX0_takeByte, Cond.instanceMethod yX0_takeByte, Cond.selects RX0 yX0_takeByte yX0_takeByte]
def wsX1_proves_r2 : List Cond := [Cond.code yX0_takeByte cX0_takeByte 2 none, Cond.fieldLink RX0 11 "RootDesk$Digest" "message" "[B", Cond.methodLink RX1 40 yX0_takeBytes, Cond.instanceMethod yX0_takeBytes, Cond.selects RX0 yX0_takeBytes yX0_takeBytes, Cond.code yX0_takeBytes cX0_takeBytes 4 none, Cond.methodLink RX0 26 yX0_takeByte, Cond.methodLink RX1 44 yX0_finishInto, Cond.instanceMethod yX0_finishInto, Cond.selects RX0 yX0_finishInto yX0_finishInto, Cond.code yX0_finishInto cX0_finishInto 4 none, Cond.fieldLink RX0 19 "RootDesk$Digest" "state" "[I", Cond.fieldLink RX0 36 "RootDesk$Digest" "FIRST_STATE" "[I", Cond.methodLink RX0 33 yX0_pad, Cond.instanceMethod yX0_pad, Cond.selects RX0 yX0_pad yX0_pad, Cond.code yX0_pad cX0_pad 4 none, Cond.constantLong RX0 45 (8), Cond.methodLink RX0 39 yX0_fillSchedule, Cond.instanceMethod yX0_fillSchedule, Cond.selects RX0 yX0_fillSchedule yX0_fillSchedule, Cond.code yX0_fillSchedule cX0_fillSchedule 7 none, Cond.fieldLink RX0 15 "RootDesk$Digest" "schedule" "[I", Cond.methodLink RX0 47 yX0_turn]
def wsX1_proves_r3 : List Cond := [Cond.static yX0_turn, Cond.code yX0_turn cX0_turn 2 (some .int), Cond.methodLink RX0 42 yX0_mixBlock, Cond.instanceMethod yX0_mixBlock, Cond.selects RX0 yX0_mixBlock yX0_mixBlock, Cond.code yX0_mixBlock cX0_mixBlock 15 none, Cond.fieldLink RX0 51 "RootDesk$Digest" "ROUND_WORDS" "[I", Cond.methodLink RX1 80 yX1_hasOneBeside, Cond.static yX1_hasOneBeside, Cond.code yX1_hasOneBeside cX1_hasOneBeside 2 (some .boolean), Cond.methodLink RX1 74 yX1_nodeBeside, Cond.static yX1_nodeBeside, Cond.code yX1_nodeBeside cX1_nodeBeside 2 (some .int), Cond.methodLink RX1 84 yX1_join, Cond.instanceMethod yX1_join, Cond.selects RX1 yX1_join yX1_join, Cond.code yX1_join cX1_join 4 none, Cond.methodLink RX1 98 yX0_takeId, Cond.instanceMethod yX0_takeId, Cond.selects RX0 yX0_takeId yX0_takeId, Cond.code yX0_takeId cX0_takeId 4 none, Cond.methodLink RX0 30 yX0_takeWord, Cond.instanceMethod yX0_takeWord, Cond.selects RX0 yX0_takeWord yX0_takeWord]
def wsX1_proves_r4 : List Cond := [Cond.code yX0_takeWord cX0_takeWord 2 none, Cond.methodLink RX1 88 yX1_widthAbove, Cond.static yX1_widthAbove, Cond.code yX1_widthAbove cX1_widthAbove 1 (some .int), Cond.methodLink RX1 66 yX1_rootLevel, Cond.instanceMethod yX1_rootLevel, Cond.selects RX1 yX1_rootLevel yX1_rootLevel, Cond.code yX1_rootLevel cX1_rootLevel 3 (some .int), Cond.methodLink RX1 92 yX1_sameIds, Cond.instanceMethod yX1_sameIds, Cond.selects RX1 yX1_sameIds yX1_sameIds, Cond.code yX1_sameIds cX1_sameIds 4 (some .boolean)]
def wsX1_proves : List Cond := .code yX1_proves cX1_proves 7 (some .int) :: ((wsX1_proves_r1 ++ (wsX1_proves_r2 ++ (wsX1_proves_r3 ++ wsX1_proves_r4))) ++ wsX10 ++ wsX00)
def wsX1_count : List Cond := .code yX1_count cX1_count 2 (some .int) :: ([.fieldLink RX1 27 "RootDesk" "tapeLength" "I", .fieldLink RX1 31 "RootDesk" "leaves" "I", .fieldLink RX1 34 "RootDesk" "leafBytes" "I", .methodLink RX1 66 yX1_rootLevel, .instanceMethod yX1_rootLevel, .selects RX1 yX1_rootLevel yX1_rootLevel, .initialized RX1, .code yX1_rootLevel cX1_rootLevel 3 (some .int), .methodLink RX1 88 yX1_widthAbove, .static yX1_widthAbove, .code yX1_widthAbove cX1_widthAbove 1 (some .int)] ++ wsX10)
set_option maxRecDepth 20000 in
theorem ggX0_takeBytes_X0_takeByte : GoodIn wsX0_takeBytes wsX0_takeByte := goodIn_r _ [5, 6, 7, 8, 9, 10, 11] (by decide +kernel) (by decide +kernel)
set_option maxRecDepth 20000 in
theorem gX0_takeBytes_X0_takeByte : GoodIn wsX0_takeBytes (wsV RX0 26 RX0 yX0_takeByte wsX0_takeByte) := goodIn_app (goodIn_of _ (by decide +kernel)) ggX0_takeBytes_X0_takeByte
set_option maxRecDepth 20000 in
theorem ggX0_takeId_X0_takeWord : GoodIn wsX0_takeId wsX0_takeWord := goodIn_r _ [5, 6, 7, 8, 4, 9, 10, 11, 12, 13, 14, 15] (by decide +kernel) (by decide +kernel)
set_option maxRecDepth 20000 in
theorem gX0_takeId_X0_takeWord : GoodIn wsX0_takeId (wsV RX0 30 RX0 yX0_takeWord wsX0_takeWord) := goodIn_app (goodIn_of _ (by decide +kernel)) ggX0_takeId_X0_takeWord
set_option maxRecDepth 20000 in
theorem ggX0_takeWord_X0_takeByte : GoodIn wsX0_takeWord wsX0_takeByte := goodIn_r _ [5, 6, 7, 8, 9, 10, 11] (by decide +kernel) (by decide +kernel)
set_option maxRecDepth 20000 in
theorem gX0_takeWord_X0_takeByte : GoodIn wsX0_takeWord (wsV RX0 26 RX0 yX0_takeByte wsX0_takeByte) := goodIn_app (goodIn_of _ (by decide +kernel)) ggX0_takeWord_X0_takeByte
set_option maxRecDepth 20000 in
theorem ggX0_finishInto_X0_pad : GoodIn wsX0_finishInto wsX0_pad := goodIn_r _ [8, 9, 3, 10, 11, 12, 7, 13, 14, 28, 29, 30, 31] (by decide +kernel) (by decide +kernel)
set_option maxRecDepth 20000 in
theorem gX0_finishInto_X0_pad : GoodIn wsX0_finishInto (wsV RX0 33 RX0 yX0_pad wsX0_pad) := goodIn_app (goodIn_of _ (by decide +kernel)) ggX0_finishInto_X0_pad
set_option maxRecDepth 20000 in
theorem ggX0_finishInto_X0_fillSchedule : GoodIn wsX0_finishInto wsX0_fillSchedule := goodIn_r _ [18, 19, 14, 20, 21, 7, 22, 28, 29, 30, 31] (by decide +kernel) (by decide +kernel)
set_option maxRecDepth 20000 in
theorem gX0_finishInto_X0_fillSchedule : GoodIn wsX0_finishInto (wsV RX0 39 RX0 yX0_fillSchedule wsX0_fillSchedule) := goodIn_app (goodIn_of _ (by decide +kernel)) ggX0_finishInto_X0_fillSchedule
set_option maxRecDepth 20000 in
theorem ggX0_finishInto_X0_mixBlock : GoodIn wsX0_finishInto wsX0_mixBlock := goodIn_r _ [26, 1, 27, 19, 20, 21, 7, 22, 28, 29, 30, 31] (by decide +kernel) (by decide +kernel)
set_option maxRecDepth 20000 in
theorem gX0_finishInto_X0_mixBlock : GoodIn wsX0_finishInto (wsV RX0 42 RX0 yX0_mixBlock wsX0_mixBlock) := goodIn_app (goodIn_of _ (by decide +kernel)) ggX0_finishInto_X0_mixBlock
set_option maxRecDepth 20000 in
theorem ggX0_pad_X0_takeByte : GoodIn wsX0_pad wsX0_takeByte := goodIn_r _ [7, 2, 8, 9, 10, 11, 12] (by decide +kernel) (by decide +kernel)
set_option maxRecDepth 20000 in
theorem gX0_pad_X0_takeByte : GoodIn wsX0_pad (wsV RX0 26 RX0 yX0_takeByte wsX0_takeByte) := goodIn_app (goodIn_of _ (by decide +kernel)) ggX0_pad_X0_takeByte
set_option maxRecDepth 20000 in
theorem ggX0_fillSchedule_X0_turn : GoodIn wsX0_fillSchedule wsX0_turn := goodIn_r _ [6] (by decide +kernel) (by decide +kernel)
set_option maxRecDepth 20000 in
theorem gX0_fillSchedule_X0_turn : GoodIn wsX0_fillSchedule (va_wsS RX0 47 yX0_turn wsX0_turn) := goodIn_app (goodIn_of _ (by decide +kernel)) ggX0_fillSchedule_X0_turn
set_option maxRecDepth 20000 in
theorem ggX0_mixBlock_X0_turn : GoodIn wsX0_mixBlock wsX0_turn := goodIn_r _ [7] (by decide +kernel) (by decide +kernel)
set_option maxRecDepth 20000 in
theorem gX0_mixBlock_X0_turn : GoodIn wsX0_mixBlock (va_wsS RX0 47 yX0_turn wsX0_turn) := goodIn_app (goodIn_of _ (by decide +kernel)) ggX0_mixBlock_X0_turn
set_option maxRecDepth 20000 in
theorem ggX1_init_X0_init : GoodIn wsX1_init wsX0_init := goodIn_r _ [18, 19, 2, 3, 4, 20, 6, 21, 22, 23, 31, 32, 33, 34] (by decide +kernel) (by decide +kernel)
set_option maxRecDepth 20000 in
theorem gX1_init_X0_init : GoodIn wsX1_init (wsX0_init) := ggX1_init_X0_init
set_option maxRecDepth 20000 in
theorem ggX1_hash_X0_begin : GoodIn wsX1_hash wsX0_begin := goodIn_r _ [9, 10, 57, 58, 59, 60] (by decide +kernel) (by decide +kernel)
set_option maxRecDepth 20000 in
theorem gX1_hash_X0_begin : GoodIn wsX1_hash (wsV RX1 37 RX0 yX0_begin wsX0_begin) := goodIn_app (goodIn_of _ (by decide +kernel)) ggX1_hash_X0_begin
set_option maxRecDepth 20000 in
theorem ggX1_hash_X0_takeBytes : GoodIn wsX1_hash wsX0_takeBytes := goodIn_r _ [14, 15, 16, 17, 8, 18, 10, 19, 57, 58, 59, 60] (by decide +kernel) (by decide +kernel)
set_option maxRecDepth 20000 in
theorem gX1_hash_X0_takeBytes : GoodIn wsX1_hash (wsV RX1 40 RX0 yX0_takeBytes wsX0_takeBytes) := goodIn_app (goodIn_of _ (by decide +kernel)) ggX1_hash_X0_takeBytes
set_option maxRecDepth 20000 in
theorem ggX1_hash_X0_finishInto : GoodIn wsX1_hash wsX0_finishInto := goodIn_r _ [23, 24, 25, 10, 26, 27, 28, 8, 29, 30, 15, 16, 17, 18, 19, 31, 32, 33, 34, 35, 36, 37, 38, 39, 40, 41, 42, 43, 57, 58, 59, 60] (by decide +kernel) (by decide +kernel)
set_option maxRecDepth 20000 in
theorem gX1_hash_X0_finishInto : GoodIn wsX1_hash (wsV RX1 44 RX0 yX0_finishInto wsX0_finishInto) := goodIn_app (goodIn_of _ (by decide +kernel)) ggX1_hash_X0_finishInto
set_option maxRecDepth 20000 in
theorem ggX1_hash_X1_eightBytes : GoodIn wsX1_hash wsX1_eightBytes := goodIn_r _ [48, 4, 49, 50, 51, 52, 53, 54, 55, 56] (by decide +kernel) (by decide +kernel)
set_option maxRecDepth 20000 in
theorem gX1_hash_X1_eightBytes : GoodIn wsX1_hash (wsV RX1 48 RX1 yX1_eightBytes wsX1_eightBytes) := goodIn_app (goodIn_of _ (by decide +kernel)) ggX1_hash_X1_eightBytes
set_option maxRecDepth 20000 in
theorem ggX1_add_X1_moveTapeTo : GoodIn wsX1_add wsX1_moveTapeTo := goodIn_r _ [7, 8, 9, 2, 10, 11, 12, 6, 13, 14, 15, 16, 17, 18, 19, 20, 21, 22, 23, 24, 25, 26, 27, 28, 29, 30, 31, 32, 33, 34, 35, 36, 37, 38, 39, 40, 41, 42, 43, 44, 45, 46, 47, 48, 49, 50, 51, 52, 53, 54, 55, 56, 57, 58, 59, 60, 1, 61, 62, 63, 64, 65, 66, 67, 68, 69, 70, 71, 72, 73, 74, 75, 76, 77, 78, 79, 80, 81, 82, 83, 84, 85, 86, 87, 88, 89, 90, 91, 92, 93, 94] (by decide +kernel) (by decide +kernel)
set_option maxRecDepth 20000 in
theorem gX1_add_X1_moveTapeTo : GoodIn wsX1_add (wsV RX1 52 RX1 yX1_moveTapeTo wsX1_moveTapeTo) := goodIn_app (goodIn_of _ (by decide +kernel)) ggX1_add_X1_moveTapeTo
set_option maxRecDepth 20000 in
theorem ggX1_change_X1_isLeaf : GoodIn wsX1_change wsX1_isLeaf := goodIn_r _ [5, 6, 88, 89, 90, 91, 92, 93, 94] (by decide +kernel) (by decide +kernel)
set_option maxRecDepth 20000 in
theorem gX1_change_X1_isLeaf : GoodIn wsX1_change (wsV RX1 56 RX1 yX1_isLeaf wsX1_isLeaf) := goodIn_app (goodIn_of _ (by decide +kernel)) ggX1_change_X1_isLeaf
set_option maxRecDepth 20000 in
theorem ggX1_change_X1_moveTapeTo : GoodIn wsX1_change wsX1_moveTapeTo := goodIn_r _ [10, 11, 12, 13, 14, 15, 16, 4, 17, 18, 19, 20, 21, 22, 23, 24, 25, 26, 27, 28, 29, 30, 31, 32, 33, 34, 35, 36, 37, 38, 39, 40, 41, 42, 43, 44, 45, 46, 47, 48, 49, 50, 51, 52, 53, 54, 55, 56, 57, 58, 59, 60, 61, 62, 63, 64, 6, 65, 66, 67, 68, 69, 70, 71, 72, 73, 74, 75, 76, 77, 78, 79, 80, 81, 82, 83, 84, 85, 86, 87, 88, 89, 90, 91, 92, 93, 94, 95, 96, 97, 98] (by decide +kernel) (by decide +kernel)
set_option maxRecDepth 20000 in
theorem gX1_change_X1_moveTapeTo : GoodIn wsX1_change (wsV RX1 52 RX1 yX1_moveTapeTo wsX1_moveTapeTo) := goodIn_app (goodIn_of _ (by decide +kernel)) ggX1_change_X1_moveTapeTo
set_option maxRecDepth 20000 in
theorem ggX1_drop_X1_refreshAbove : GoodIn wsX1_drop wsX1_refreshAbove := goodIn_r _ [8, 1, 9, 10, 11, 7, 12, 13, 14, 15, 16, 17, 18, 19, 20, 21, 22, 23, 24, 25, 26, 27, 28, 29, 30, 31, 32, 33, 34, 35, 36, 37, 38, 39, 40, 41, 42, 43, 44, 45, 46, 47, 48, 49, 50, 51, 52, 53, 54, 55, 56, 57, 58, 59, 60, 61, 62, 63, 64, 65, 66, 67, 68, 69, 70, 71, 72, 73, 74, 75, 76, 77, 78, 79, 80] (by decide +kernel) (by decide +kernel)
set_option maxRecDepth 20000 in
theorem gX1_drop_X1_refreshAbove : GoodIn wsX1_drop (wsV RX1 60 RX1 yX1_refreshAbove wsX1_refreshAbove) := goodIn_app (goodIn_of _ (by decide +kernel)) ggX1_drop_X1_refreshAbove
set_option maxRecDepth 20000 in
theorem ggX1_root_X1_rootLevel : GoodIn wsX1_root wsX1_rootLevel := goodIn_r _ [7, 1, 8, 9, 6, 10, 17, 18, 19, 20, 21, 22, 23] (by decide +kernel) (by decide +kernel)
set_option maxRecDepth 20000 in
theorem gX1_root_X1_rootLevel : GoodIn wsX1_root (wsV RX1 66 RX1 yX1_rootLevel wsX1_rootLevel) := goodIn_app (goodIn_of _ (by decide +kernel)) ggX1_root_X1_rootLevel
set_option maxRecDepth 20000 in
theorem ggX1_root_X1_eightBytes : GoodIn wsX1_root wsX1_eightBytes := goodIn_r _ [14, 15, 16, 17, 18, 19, 20, 21, 22, 23] (by decide +kernel) (by decide +kernel)
set_option maxRecDepth 20000 in
theorem gX1_root_X1_eightBytes : GoodIn wsX1_root (wsV RX1 48 RX1 yX1_eightBytes wsX1_eightBytes) := goodIn_app (goodIn_of _ (by decide +kernel)) ggX1_root_X1_eightBytes
set_option maxRecDepth 20000 in
theorem ggX1_way_X1_isLeaf : GoodIn wsX1_way wsX1_isLeaf := goodIn_r _ [5, 6, 17, 18, 19, 20, 21, 22, 23] (by decide +kernel) (by decide +kernel)
set_option maxRecDepth 20000 in
theorem gX1_way_X1_isLeaf : GoodIn wsX1_way (wsV RX1 56 RX1 yX1_isLeaf wsX1_isLeaf) := goodIn_app (goodIn_of _ (by decide +kernel)) ggX1_way_X1_isLeaf
set_option maxRecDepth 20000 in
theorem ggX1_way_X1_levelOfStep : GoodIn wsX1_way wsX1_levelOfStep := goodIn_r _ [10, 6, 1, 2, 3, 4, 5, 11, 12, 13, 14, 15, 16, 17, 18, 19, 20, 21, 22, 23] (by decide +kernel) (by decide +kernel)
set_option maxRecDepth 20000 in
theorem gX1_way_X1_levelOfStep : GoodIn wsX1_way (wsV RX1 70 RX1 yX1_levelOfStep wsX1_levelOfStep) := goodIn_app (goodIn_of _ (by decide +kernel)) ggX1_way_X1_levelOfStep
set_option maxRecDepth 20000 in
theorem ggX1_beside_X1_levelOfStep : GoodIn wsX1_beside wsX1_levelOfStep := goodIn_r _ [5, 6, 7, 8, 9, 4, 10, 11, 12, 13, 14, 15, 16, 27, 28, 29, 30, 31, 32, 33] (by decide +kernel) (by decide +kernel)
set_option maxRecDepth 20000 in
theorem gX1_beside_X1_levelOfStep : GoodIn wsX1_beside (wsV RX1 70 RX1 yX1_levelOfStep wsX1_levelOfStep) := goodIn_app (goodIn_of _ (by decide +kernel)) ggX1_beside_X1_levelOfStep
set_option maxRecDepth 20000 in
theorem ggX1_beside_X1_nodeBeside : GoodIn wsX1_beside wsX1_nodeBeside := goodIn_r _ [19, 20] (by decide +kernel) (by decide +kernel)
set_option maxRecDepth 20000 in
theorem gX1_beside_X1_nodeBeside : GoodIn wsX1_beside (va_wsS RX1 74 yX1_nodeBeside wsX1_nodeBeside) := goodIn_app (goodIn_of _ (by decide +kernel)) ggX1_beside_X1_nodeBeside
set_option maxRecDepth 20000 in
theorem ggX1_beside_X1_eightBytes : GoodIn wsX1_beside wsX1_eightBytes := goodIn_r _ [24, 25, 26, 27, 28, 29, 30, 31, 32, 33] (by decide +kernel) (by decide +kernel)
set_option maxRecDepth 20000 in
theorem gX1_beside_X1_eightBytes : GoodIn wsX1_beside (wsV RX1 48 RX1 yX1_eightBytes wsX1_eightBytes) := goodIn_app (goodIn_of _ (by decide +kernel)) ggX1_beside_X1_eightBytes
set_option maxRecDepth 20000 in
theorem ggX1_isLeft_X1_levelOfStep : GoodIn wsX1_isLeft wsX1_levelOfStep := goodIn_r _ [5, 6, 7, 8, 9, 4, 10, 11, 12, 13, 14, 15, 16, 17, 18, 19, 20, 21, 22, 23] (by decide +kernel) (by decide +kernel)
set_option maxRecDepth 20000 in
theorem gX1_isLeft_X1_levelOfStep : GoodIn wsX1_isLeft (wsV RX1 70 RX1 yX1_levelOfStep wsX1_levelOfStep) := goodIn_app (goodIn_of _ (by decide +kernel)) ggX1_isLeft_X1_levelOfStep
set_option maxRecDepth 20000 in
theorem ggX1_proves_X1_isLeaf : GoodIn wsX1_proves wsX1_isLeaf := goodIn_r _ [7, 1, 85, 86, 87, 88, 89, 90, 91] (by decide +kernel) (by decide +kernel)
set_option maxRecDepth 20000 in
theorem gX1_proves_X1_isLeaf : GoodIn wsX1_proves (wsV RX1 56 RX1 yX1_isLeaf wsX1_isLeaf) := goodIn_app (goodIn_of _ (by decide +kernel)) ggX1_proves_X1_isLeaf
set_option maxRecDepth 20000 in
theorem ggX1_proves_X1_makeLeafId : GoodIn wsX1_proves wsX1_makeLeafId := goodIn_r _ [11, 12, 13, 14, 15, 16, 17, 18, 19, 20, 21, 22, 23, 24, 25, 26, 27, 28, 29, 30, 31, 32, 33, 34, 35, 36, 37, 38, 39, 40, 41, 42, 43, 44, 45, 46, 47, 48, 49, 50, 51, 52, 53, 54, 55, 85, 86, 87, 88, 89, 90, 91, 92, 93, 94, 95] (by decide +kernel) (by decide +kernel)
set_option maxRecDepth 20000 in
theorem gX1_proves_X1_makeLeafId : GoodIn wsX1_proves (wsV RX1 77 RX1 yX1_makeLeafId wsX1_makeLeafId) := goodIn_app (goodIn_of _ (by decide +kernel)) ggX1_proves_X1_makeLeafId
set_option maxRecDepth 20000 in
theorem ggX1_proves_X1_hasOneBeside : GoodIn wsX1_proves wsX1_hasOneBeside := goodIn_r _ [58] (by decide +kernel) (by decide +kernel)
set_option maxRecDepth 20000 in
theorem gX1_proves_X1_hasOneBeside : GoodIn wsX1_proves (va_wsS RX1 80 yX1_hasOneBeside wsX1_hasOneBeside) := goodIn_app (goodIn_of _ (by decide +kernel)) ggX1_proves_X1_hasOneBeside
set_option maxRecDepth 20000 in
theorem ggX1_proves_X1_nodeBeside : GoodIn wsX1_proves wsX1_nodeBeside := goodIn_r _ [61, 2] (by decide +kernel) (by decide +kernel)
set_option maxRecDepth 20000 in
theorem gX1_proves_X1_nodeBeside : GoodIn wsX1_proves (va_wsS RX1 74 yX1_nodeBeside wsX1_nodeBeside) := goodIn_app (goodIn_of _ (by decide +kernel)) ggX1_proves_X1_nodeBeside
set_option maxRecDepth 20000 in
theorem ggX1_proves_X1_join : GoodIn wsX1_proves wsX1_join := goodIn_r _ [65, 12, 15, 16, 17, 18, 19, 20, 21, 22, 23, 24, 25, 26, 66, 67, 68, 69, 70, 71, 72, 73, 31, 32, 33, 34, 35, 36, 37, 38, 39, 40, 41, 42, 43, 44, 45, 46, 47, 48, 49, 50, 51, 52, 53, 54, 55, 85, 86, 87, 88, 89, 90, 91, 92, 93, 94, 95] (by decide +kernel) (by decide +kernel)
set_option maxRecDepth 20000 in
theorem gX1_proves_X1_join : GoodIn wsX1_proves (wsV RX1 84 RX1 yX1_join wsX1_join) := goodIn_app (goodIn_of _ (by decide +kernel)) ggX1_proves_X1_join
set_option maxRecDepth 20000 in
theorem ggX1_proves_X1_widthAbove : GoodIn wsX1_proves wsX1_widthAbove := goodIn_r _ [76] (by decide +kernel) (by decide +kernel)
set_option maxRecDepth 20000 in
theorem gX1_proves_X1_widthAbove : GoodIn wsX1_proves (va_wsS RX1 88 yX1_widthAbove wsX1_widthAbove) := goodIn_app (goodIn_of _ (by decide +kernel)) ggX1_proves_X1_widthAbove
set_option maxRecDepth 20000 in
theorem ggX1_proves_X1_rootLevel : GoodIn wsX1_proves wsX1_rootLevel := goodIn_r _ [80, 1, 74, 75, 6, 76, 85, 86, 87, 88, 89, 90, 91] (by decide +kernel) (by decide +kernel)
set_option maxRecDepth 20000 in
theorem gX1_proves_X1_rootLevel : GoodIn wsX1_proves (wsV RX1 66 RX1 yX1_rootLevel wsX1_rootLevel) := goodIn_app (goodIn_of _ (by decide +kernel)) ggX1_proves_X1_rootLevel
set_option maxRecDepth 20000 in
theorem ggX1_proves_X1_sameIds : GoodIn wsX1_proves wsX1_sameIds := goodIn_r _ [84, 15, 85, 86, 87, 88, 89, 90, 91] (by decide +kernel) (by decide +kernel)
set_option maxRecDepth 20000 in
theorem gX1_proves_X1_sameIds : GoodIn wsX1_proves (wsV RX1 92 RX1 yX1_sameIds wsX1_sameIds) := goodIn_app (goodIn_of _ (by decide +kernel)) ggX1_proves_X1_sameIds
set_option maxRecDepth 20000 in
theorem ggX1_count_X1_rootLevel : GoodIn wsX1_count wsX1_rootLevel := goodIn_r _ [8, 2, 9, 10, 7, 11, 12, 13, 14, 15, 16, 17, 18] (by decide +kernel) (by decide +kernel)
set_option maxRecDepth 20000 in
theorem gX1_count_X1_rootLevel : GoodIn wsX1_count (wsV RX1 66 RX1 yX1_rootLevel wsX1_rootLevel) := goodIn_app (goodIn_of _ (by decide +kernel)) ggX1_count_X1_rootLevel
set_option maxRecDepth 20000 in
theorem ggX1_moveTapeTo_X1_makeLeafId : GoodIn wsX1_moveTapeTo wsX1_makeLeafId := goodIn_r _ [8, 9, 10, 2, 11, 12, 13, 14, 15, 16, 17, 18, 19, 20, 21, 22, 23, 24, 25, 26, 27, 28, 29, 30, 31, 32, 33, 34, 35, 36, 37, 38, 39, 40, 41, 42, 43, 44, 45, 46, 47, 48, 49, 50, 51, 80, 81, 82, 83, 84, 85, 86, 87, 88, 89, 90] (by decide +kernel) (by decide +kernel)
set_option maxRecDepth 20000 in
theorem gX1_moveTapeTo_X1_makeLeafId : GoodIn wsX1_moveTapeTo (wsV RX1 77 RX1 yX1_makeLeafId wsX1_makeLeafId) := goodIn_app (goodIn_of _ (by decide +kernel)) ggX1_moveTapeTo_X1_makeLeafId
set_option maxRecDepth 20000 in
theorem ggX1_moveTapeTo_X1_refreshAbove : GoodIn wsX1_moveTapeTo wsX1_refreshAbove := goodIn_r _ [55, 56, 57, 58, 59, 7, 60, 61, 62, 63, 64, 9, 11, 12, 13, 14, 15, 16, 17, 18, 19, 20, 21, 22, 65, 66, 67, 68, 69, 70, 71, 72, 27, 28, 29, 30, 31, 32, 33, 34, 35, 36, 37, 38, 39, 40, 41, 42, 43, 44, 45, 46, 47, 48, 49, 50, 51, 73, 74, 75, 76, 77, 78, 79, 80, 81, 82, 83, 84, 85, 86, 87, 88, 89, 90] (by decide +kernel) (by decide +kernel)
set_option maxRecDepth 20000 in
theorem gX1_moveTapeTo_X1_refreshAbove : GoodIn wsX1_moveTapeTo (wsV RX1 60 RX1 yX1_refreshAbove wsX1_refreshAbove) := goodIn_app (goodIn_of _ (by decide +kernel)) ggX1_moveTapeTo_X1_refreshAbove
set_option maxRecDepth 20000 in
theorem ggX1_makeLeafId_X0_begin : GoodIn wsX1_makeLeafId wsX0_begin := goodIn_r _ [9, 10, 52, 53, 54, 55] (by decide +kernel) (by decide +kernel)
set_option maxRecDepth 20000 in
theorem gX1_makeLeafId_X0_begin : GoodIn wsX1_makeLeafId (wsV RX1 37 RX0 yX0_begin wsX0_begin) := goodIn_app (goodIn_of _ (by decide +kernel)) ggX1_makeLeafId_X0_begin
set_option maxRecDepth 20000 in
theorem ggX1_makeLeafId_X0_takeByte : GoodIn wsX1_makeLeafId wsX0_takeByte := goodIn_r _ [14, 10, 15, 52, 53, 54, 55] (by decide +kernel) (by decide +kernel)
set_option maxRecDepth 20000 in
theorem gX1_makeLeafId_X0_takeByte : GoodIn wsX1_makeLeafId (wsV RX1 95 RX0 yX0_takeByte wsX0_takeByte) := goodIn_app (goodIn_of _ (by decide +kernel)) ggX1_makeLeafId_X0_takeByte
set_option maxRecDepth 20000 in
theorem ggX1_makeLeafId_X0_takeBytes : GoodIn wsX1_makeLeafId wsX0_takeBytes := goodIn_r _ [19, 20, 12, 13, 8, 14, 10, 15, 52, 53, 54, 55] (by decide +kernel) (by decide +kernel)
set_option maxRecDepth 20000 in
theorem gX1_makeLeafId_X0_takeBytes : GoodIn wsX1_makeLeafId (wsV RX1 40 RX0 yX0_takeBytes wsX0_takeBytes) := goodIn_app (goodIn_of _ (by decide +kernel)) ggX1_makeLeafId_X0_takeBytes
set_option maxRecDepth 20000 in
theorem ggX1_makeLeafId_X0_finishInto : GoodIn wsX1_makeLeafId wsX0_finishInto := goodIn_r _ [24, 25, 26, 10, 27, 28, 29, 8, 30, 31, 20, 12, 13, 14, 15, 32, 33, 34, 35, 36, 37, 38, 39, 40, 41, 42, 43, 44, 52, 53, 54, 55] (by decide +kernel) (by decide +kernel)
set_option maxRecDepth 20000 in
theorem gX1_makeLeafId_X0_finishInto : GoodIn wsX1_makeLeafId (wsV RX1 44 RX0 yX0_finishInto wsX0_finishInto) := goodIn_app (goodIn_of _ (by decide +kernel)) ggX1_makeLeafId_X0_finishInto
set_option maxRecDepth 20000 in
theorem ggX1_join_X0_begin : GoodIn wsX1_join wsX0_begin := goodIn_r _ [7, 8, 54, 55, 56, 57] (by decide +kernel) (by decide +kernel)
set_option maxRecDepth 20000 in
theorem gX1_join_X0_begin : GoodIn wsX1_join (wsV RX1 37 RX0 yX0_begin wsX0_begin) := goodIn_app (goodIn_of _ (by decide +kernel)) ggX1_join_X0_begin
set_option maxRecDepth 20000 in
theorem ggX1_join_X0_takeByte : GoodIn wsX1_join wsX0_takeByte := goodIn_r _ [12, 8, 13, 54, 55, 56, 57] (by decide +kernel) (by decide +kernel)
set_option maxRecDepth 20000 in
theorem gX1_join_X0_takeByte : GoodIn wsX1_join (wsV RX1 95 RX0 yX0_takeByte wsX0_takeByte) := goodIn_app (goodIn_of _ (by decide +kernel)) ggX1_join_X0_takeByte
set_option maxRecDepth 20000 in
theorem ggX1_join_X0_takeId : GoodIn wsX1_join wsX0_takeId := goodIn_r _ [17, 18, 19, 20, 6, 21, 22, 10, 11, 12, 8, 13, 54, 55, 56, 57] (by decide +kernel) (by decide +kernel)
set_option maxRecDepth 20000 in
theorem gX1_join_X0_takeId : GoodIn wsX1_join (wsV RX1 98 RX0 yX0_takeId wsX0_takeId) := goodIn_app (goodIn_of _ (by decide +kernel)) ggX1_join_X0_takeId
set_option maxRecDepth 20000 in
theorem ggX1_join_X0_finishInto : GoodIn wsX1_join wsX0_finishInto := goodIn_r _ [26, 27, 28, 8, 29, 30, 31, 6, 32, 33, 22, 10, 11, 12, 13, 34, 35, 36, 37, 38, 39, 40, 41, 42, 43, 44, 45, 46, 54, 55, 56, 57] (by decide +kernel) (by decide +kernel)
set_option maxRecDepth 20000 in
theorem gX1_join_X0_finishInto : GoodIn wsX1_join (wsV RX1 44 RX0 yX0_finishInto wsX0_finishInto) := goodIn_app (goodIn_of _ (by decide +kernel)) ggX1_join_X0_finishInto
set_option maxRecDepth 20000 in
theorem ggX1_refreshAbove_X1_hasOneBeside : GoodIn wsX1_refreshAbove wsX1_hasOneBeside := goodIn_r _ [6] (by decide +kernel) (by decide +kernel)
set_option maxRecDepth 20000 in
theorem gX1_refreshAbove_X1_hasOneBeside : GoodIn wsX1_refreshAbove (va_wsS RX1 80 yX1_hasOneBeside wsX1_hasOneBeside) := goodIn_app (goodIn_of _ (by decide +kernel)) ggX1_refreshAbove_X1_hasOneBeside
set_option maxRecDepth 20000 in
theorem ggX1_refreshAbove_X1_join : GoodIn wsX1_refreshAbove wsX1_join := goodIn_r _ [10, 11, 12, 13, 14, 15, 16, 17, 18, 19, 20, 21, 22, 23, 24, 25, 26, 27, 28, 29, 30, 31, 32, 33, 34, 35, 36, 37, 38, 39, 40, 41, 42, 43, 44, 45, 46, 47, 48, 49, 50, 51, 52, 53, 54, 55, 56, 64, 65, 66, 67, 68, 69, 70, 71, 72, 73, 74] (by decide +kernel) (by decide +kernel)
set_option maxRecDepth 20000 in
theorem gX1_refreshAbove_X1_join : GoodIn wsX1_refreshAbove (wsV RX1 84 RX1 yX1_join wsX1_join) := goodIn_app (goodIn_of _ (by decide +kernel)) ggX1_refreshAbove_X1_join
set_option maxRecDepth 20000 in
theorem ggX1_refreshAbove_X1_copyId : GoodIn wsX1_refreshAbove wsX1_copyId := goodIn_r _ [60, 12, 64, 65, 66, 67, 68, 69, 70] (by decide +kernel) (by decide +kernel)
set_option maxRecDepth 20000 in
theorem gX1_refreshAbove_X1_copyId : GoodIn wsX1_refreshAbove (wsV RX1 101 RX1 yX1_copyId wsX1_copyId) := goodIn_app (goodIn_of _ (by decide +kernel)) ggX1_refreshAbove_X1_copyId
set_option maxRecDepth 20000 in
theorem ggX1_refreshAbove_X1_widthAbove : GoodIn wsX1_refreshAbove wsX1_widthAbove := goodIn_r _ [63] (by decide +kernel) (by decide +kernel)
set_option maxRecDepth 20000 in
theorem gX1_refreshAbove_X1_widthAbove : GoodIn wsX1_refreshAbove (va_wsS RX1 88 yX1_widthAbove wsX1_widthAbove) := goodIn_app (goodIn_of _ (by decide +kernel)) ggX1_refreshAbove_X1_widthAbove
set_option maxRecDepth 20000 in
theorem ggX1_levelOfStep_X1_isLeaf : GoodIn wsX1_levelOfStep wsX1_isLeaf := goodIn_r _ [6, 1, 13, 14, 15, 16, 17, 18, 19] (by decide +kernel) (by decide +kernel)
set_option maxRecDepth 20000 in
theorem gX1_levelOfStep_X1_isLeaf : GoodIn wsX1_levelOfStep (wsV RX1 56 RX1 yX1_isLeaf wsX1_isLeaf) := goodIn_app (goodIn_of _ (by decide +kernel)) ggX1_levelOfStep_X1_isLeaf
set_option maxRecDepth 20000 in
theorem ggX1_levelOfStep_X1_hasOneBeside : GoodIn wsX1_levelOfStep wsX1_hasOneBeside := goodIn_r _ [9] (by decide +kernel) (by decide +kernel)
set_option maxRecDepth 20000 in
theorem gX1_levelOfStep_X1_hasOneBeside : GoodIn wsX1_levelOfStep (va_wsS RX1 80 yX1_hasOneBeside wsX1_hasOneBeside) := goodIn_app (goodIn_of _ (by decide +kernel)) ggX1_levelOfStep_X1_hasOneBeside
set_option maxRecDepth 20000 in
theorem ggX1_levelOfStep_X1_widthAbove : GoodIn wsX1_levelOfStep wsX1_widthAbove := goodIn_r _ [12] (by decide +kernel) (by decide +kernel)
set_option maxRecDepth 20000 in
theorem gX1_levelOfStep_X1_widthAbove : GoodIn wsX1_levelOfStep (va_wsS RX1 88 yX1_widthAbove wsX1_widthAbove) := goodIn_app (goodIn_of _ (by decide +kernel)) ggX1_levelOfStep_X1_widthAbove
set_option maxRecDepth 20000 in
theorem ggX1_rootLevel_X1_widthAbove : GoodIn wsX1_rootLevel wsX1_widthAbove := goodIn_r _ [5] (by decide +kernel) (by decide +kernel)
set_option maxRecDepth 20000 in
theorem gX1_rootLevel_X1_widthAbove : GoodIn wsX1_rootLevel (va_wsS RX1 88 yX1_widthAbove wsX1_widthAbove) := goodIn_app (goodIn_of _ (by decide +kernel)) ggX1_rootLevel_X1_widthAbove
def RX2 : String := "RootDeskModel"
def TX2 : u_T := fun k => match k with
  | 0 => ("RootDeskModel", "hashed", "[I", true)
  | 1 => ("RootDeskModel", "hashSize", "I", false)
  | 2 => ("RootDeskModel", "sums", "[I", true)
  | 3 => ("RootDeskModel", "schedule", "[I", true)
  | 4 => ("RootDeskModel", "rounds", "[I", true)
  | 5 => ("RootDeskModel", "begins", "[I", true)
  | 6 => ("RootDeskModel", "tape", "[I", true)
  | 7 => ("RootDeskModel", "taped", "I", false)
  | 8 => ("RootDeskModel", "leaves", "I", false)
  | 9 => ("RootDeskModel", "bytes", "[I", true)
  | 10 => ("RootDeskModel", "sizes", "[I", true)
  | 11 => ("RootDeskModel", "level", "[J", true)
  | 12 => ("RootDeskModel", "many", "I", false)
  | 13 => ("RootDeskModel", "levels", "I", false)
  | 14 => ("RootDeskModel", "climbed", "I", false)
  | _ => ("RootDeskModel", "mine", "[J", true)
def tyX2 : Nat → FieldType := fun k => match k with
  | 0 => .array .int
  | 1 => .int
  | 2 => .array .int
  | 3 => .array .int
  | 4 => .array .int
  | 5 => .array .int
  | 6 => .array .int
  | 7 => .int
  | 8 => .int
  | 9 => .array .int
  | 10 => .array .int
  | 11 => .array .long
  | 12 => .int
  | 13 => .int
  | 14 => .int
  | _ => .array .long
abbrev wsX20 : List Cond := u_ws RX2 TX2 16
theorem nmX2 : ∀ a, a < 16 → ∀ b, b < 16 → a ≠ b → (TX2 a).2.1 ≠ (TX2 b).2.1 := by decide +kernel
theorem tyX2_ok : ∀ k, k < 16 → parseFieldDescriptor (TX2 k).2.2.1 = some (tyX2 k) := by decide +kernel
abbrev vwCl : List vw_C := [(RX0, TX0, 4), (RX1, TX1, 7), (RX2, TX2, 16)]
end
section
theorem dX0_init_0 : decode cX0_init 0 = .ok (.aload_n 0, 1) := by decide +kernel
theorem dX0_init_1 : decode cX0_init 1 = .ok (.invokespecial 3, 3) := by decide +kernel
theorem dX0_init_4 : decode cX0_init 4 = .ok (.aload_n 0, 1) := by decide +kernel
theorem dX0_init_5 : decode cX0_init 5 = .ok (.sipush 192, 3) := by decide +kernel
theorem dX0_init_8 : decode cX0_init 8 = .ok (.newarray .byte, 2) := by decide +kernel
theorem dX0_init_10 : decode cX0_init 10 = .ok (.putfield 11, 3) := by decide +kernel
theorem dX0_init_13 : decode cX0_init 13 = .ok (.aload_n 0, 1) := by decide +kernel
theorem dX0_init_14 : decode cX0_init 14 = .ok (.bipush 64, 2) := by decide +kernel
theorem dX0_init_16 : decode cX0_init 16 = .ok (.newarray .int, 2) := by decide +kernel
theorem dX0_init_18 : decode cX0_init 18 = .ok (.putfield 15, 3) := by decide +kernel
theorem dX0_init_21 : decode cX0_init 21 = .ok (.aload_n 0, 1) := by decide +kernel
theorem dX0_init_22 : decode cX0_init 22 = .ok (.bipush 8, 2) := by decide +kernel
theorem dX0_init_24 : decode cX0_init 24 = .ok (.newarray .int, 2) := by decide +kernel
theorem dX0_init_26 : decode cX0_init 26 = .ok (.putfield 19, 3) := by decide +kernel
theorem dX0_init_29 : decode cX0_init 29 = .ok (.aload_n 0, 1) := by decide +kernel
theorem dX0_init_30 : decode cX0_init 30 = .ok (.iconst 0, 1) := by decide +kernel
theorem dX0_init_31 : decode cX0_init 31 = .ok (.putfield 22, 3) := by decide +kernel
theorem dX0_init_34 : decode cX0_init 34 = .ok (.return_, 1) := by decide +kernel
theorem dX0_begin_0 : decode cX0_begin 0 = .ok (.aload_n 0, 1) := by decide +kernel
theorem dX0_begin_1 : decode cX0_begin 1 = .ok (.iconst 0, 1) := by decide +kernel
theorem dX0_begin_2 : decode cX0_begin 2 = .ok (.putfield 22, 3) := by decide +kernel
theorem dX0_begin_5 : decode cX0_begin 5 = .ok (.return_, 1) := by decide +kernel
theorem dX0_takeByte_0 : decode cX0_takeByte 0 = .ok (.aload_n 0, 1) := by decide +kernel
theorem dX0_takeByte_1 : decode cX0_takeByte 1 = .ok (.getfield 22, 3) := by decide +kernel
theorem dX0_takeByte_4 : decode cX0_takeByte 4 = .ok (.sipush 192, 3) := by decide +kernel
theorem dX0_takeByte_7 : decode cX0_takeByte 7 = .ok (.if_icmp .ge 24, 3) := by decide +kernel
theorem dX0_takeByte_10 : decode cX0_takeByte 10 = .ok (.aload_n 0, 1) := by decide +kernel
theorem dX0_takeByte_11 : decode cX0_takeByte 11 = .ok (.getfield 11, 3) := by decide +kernel
theorem dX0_takeByte_14 : decode cX0_takeByte 14 = .ok (.aload_n 0, 1) := by decide +kernel
theorem dX0_takeByte_15 : decode cX0_takeByte 15 = .ok (.getfield 22, 3) := by decide +kernel
theorem dX0_takeByte_18 : decode cX0_takeByte 18 = .ok (.iload_n 1, 1) := by decide +kernel
theorem dX0_takeByte_19 : decode cX0_takeByte 19 = .ok (.i2b, 1) := by decide +kernel
theorem dX0_takeByte_20 : decode cX0_takeByte 20 = .ok (.bastore, 1) := by decide +kernel
theorem dX0_takeByte_21 : decode cX0_takeByte 21 = .ok (.aload_n 0, 1) := by decide +kernel
theorem dX0_takeByte_22 : decode cX0_takeByte 22 = .ok (.dup, 1) := by decide +kernel
theorem dX0_takeByte_23 : decode cX0_takeByte 23 = .ok (.getfield 22, 3) := by decide +kernel
theorem dX0_takeByte_26 : decode cX0_takeByte 26 = .ok (.iconst 1, 1) := by decide +kernel
theorem dX0_takeByte_27 : decode cX0_takeByte 27 = .ok (.iadd, 1) := by decide +kernel
theorem dX0_takeByte_28 : decode cX0_takeByte 28 = .ok (.putfield 22, 3) := by decide +kernel
theorem dX0_takeByte_31 : decode cX0_takeByte 31 = .ok (.return_, 1) := by decide +kernel
theorem dX0_takeBytes_0 : decode cX0_takeBytes 0 = .ok (.iconst 0, 1) := by decide +kernel
theorem dX0_takeBytes_1 : decode cX0_takeBytes 1 = .ok (.istore_n 3, 1) := by decide +kernel
theorem dX0_takeBytes_2 : decode cX0_takeBytes 2 = .ok (.iload_n 3, 1) := by decide +kernel
theorem dX0_takeBytes_3 : decode cX0_takeBytes 3 = .ok (.iload_n 2, 1) := by decide +kernel
theorem dX0_takeBytes_4 : decode cX0_takeBytes 4 = .ok (.if_icmp .ge 22, 3) := by decide +kernel
theorem dX0_takeBytes_7 : decode cX0_takeBytes 7 = .ok (.iload_n 3, 1) := by decide +kernel
theorem dX0_takeBytes_8 : decode cX0_takeBytes 8 = .ok (.aload_n 1, 1) := by decide +kernel
theorem dX0_takeBytes_9 : decode cX0_takeBytes 9 = .ok (.arraylength, 1) := by decide +kernel
theorem dX0_takeBytes_10 : decode cX0_takeBytes 10 = .ok (.if_icmp .ge 16, 3) := by decide +kernel
theorem dX0_takeBytes_13 : decode cX0_takeBytes 13 = .ok (.aload_n 0, 1) := by decide +kernel
theorem dX0_takeBytes_14 : decode cX0_takeBytes 14 = .ok (.aload_n 1, 1) := by decide +kernel
theorem dX0_takeBytes_15 : decode cX0_takeBytes 15 = .ok (.iload_n 3, 1) := by decide +kernel
theorem dX0_takeBytes_16 : decode cX0_takeBytes 16 = .ok (.baload, 1) := by decide +kernel
theorem dX0_takeBytes_17 : decode cX0_takeBytes 17 = .ok (.invokevirtual 26, 3) := by decide +kernel
theorem dX0_takeBytes_20 : decode cX0_takeBytes 20 = .ok (.iinc 3 1, 3) := by decide +kernel
theorem dX0_takeBytes_23 : decode cX0_takeBytes 23 = .ok (.goto (-21), 3) := by decide +kernel
theorem dX0_takeBytes_26 : decode cX0_takeBytes 26 = .ok (.return_, 1) := by decide +kernel
theorem dX0_takeId_0 : decode cX0_takeId 0 = .ok (.iload_n 2, 1) := by decide +kernel
theorem dX0_takeId_1 : decode cX0_takeId 1 = .ok (.ifCond .lt 12, 3) := by decide +kernel
theorem dX0_takeId_4 : decode cX0_takeId 4 = .ok (.iload_n 2, 1) := by decide +kernel
theorem dX0_takeId_5 : decode cX0_takeId 5 = .ok (.bipush 8, 2) := by decide +kernel
theorem dX0_takeId_7 : decode cX0_takeId 7 = .ok (.iadd, 1) := by decide +kernel
theorem dX0_takeId_8 : decode cX0_takeId 8 = .ok (.aload_n 1, 1) := by decide +kernel
theorem dX0_takeId_9 : decode cX0_takeId 9 = .ok (.arraylength, 1) := by decide +kernel
theorem dX0_takeId_10 : decode cX0_takeId 10 = .ok (.if_icmp .le 4, 3) := by decide +kernel
theorem dX0_takeId_13 : decode cX0_takeId 13 = .ok (.return_, 1) := by decide +kernel
theorem dX0_takeId_14 : decode cX0_takeId 14 = .ok (.iconst 0, 1) := by decide +kernel
theorem dX0_takeId_15 : decode cX0_takeId 15 = .ok (.istore_n 3, 1) := by decide +kernel
theorem dX0_takeId_16 : decode cX0_takeId 16 = .ok (.iload_n 3, 1) := by decide +kernel
theorem dX0_takeId_17 : decode cX0_takeId 17 = .ok (.bipush 8, 2) := by decide +kernel
theorem dX0_takeId_19 : decode cX0_takeId 19 = .ok (.if_icmp .ge 18, 3) := by decide +kernel
theorem dX0_takeId_22 : decode cX0_takeId 22 = .ok (.aload_n 0, 1) := by decide +kernel
theorem dX0_takeId_23 : decode cX0_takeId 23 = .ok (.aload_n 1, 1) := by decide +kernel
theorem dX0_takeId_24 : decode cX0_takeId 24 = .ok (.iload_n 2, 1) := by decide +kernel
theorem dX0_takeId_25 : decode cX0_takeId 25 = .ok (.iload_n 3, 1) := by decide +kernel
theorem dX0_takeId_26 : decode cX0_takeId 26 = .ok (.iadd, 1) := by decide +kernel
theorem dX0_takeId_27 : decode cX0_takeId 27 = .ok (.iaload, 1) := by decide +kernel
theorem dX0_takeId_28 : decode cX0_takeId 28 = .ok (.invokevirtual 30, 3) := by decide +kernel
theorem dX0_takeId_31 : decode cX0_takeId 31 = .ok (.iinc 3 1, 3) := by decide +kernel
theorem dX0_takeId_34 : decode cX0_takeId 34 = .ok (.goto (-18), 3) := by decide +kernel
theorem dX0_takeId_37 : decode cX0_takeId 37 = .ok (.return_, 1) := by decide +kernel
theorem dX0_takeWord_0 : decode cX0_takeWord 0 = .ok (.aload_n 0, 1) := by decide +kernel
theorem dX0_takeWord_1 : decode cX0_takeWord 1 = .ok (.iload_n 1, 1) := by decide +kernel
theorem dX0_takeWord_2 : decode cX0_takeWord 2 = .ok (.bipush 24, 2) := by decide +kernel
theorem dX0_takeWord_4 : decode cX0_takeWord 4 = .ok (.iushr, 1) := by decide +kernel
theorem dX0_takeWord_5 : decode cX0_takeWord 5 = .ok (.invokevirtual 26, 3) := by decide +kernel
theorem dX0_takeWord_8 : decode cX0_takeWord 8 = .ok (.aload_n 0, 1) := by decide +kernel
theorem dX0_takeWord_9 : decode cX0_takeWord 9 = .ok (.iload_n 1, 1) := by decide +kernel
theorem dX0_takeWord_10 : decode cX0_takeWord 10 = .ok (.bipush 16, 2) := by decide +kernel
theorem dX0_takeWord_12 : decode cX0_takeWord 12 = .ok (.iushr, 1) := by decide +kernel
theorem dX0_takeWord_13 : decode cX0_takeWord 13 = .ok (.invokevirtual 26, 3) := by decide +kernel
theorem dX0_takeWord_16 : decode cX0_takeWord 16 = .ok (.aload_n 0, 1) := by decide +kernel
theorem dX0_takeWord_17 : decode cX0_takeWord 17 = .ok (.iload_n 1, 1) := by decide +kernel
theorem dX0_takeWord_18 : decode cX0_takeWord 18 = .ok (.bipush 8, 2) := by decide +kernel
theorem dX0_takeWord_20 : decode cX0_takeWord 20 = .ok (.iushr, 1) := by decide +kernel
theorem dX0_takeWord_21 : decode cX0_takeWord 21 = .ok (.invokevirtual 26, 3) := by decide +kernel
theorem dX0_takeWord_24 : decode cX0_takeWord 24 = .ok (.aload_n 0, 1) := by decide +kernel
theorem dX0_takeWord_25 : decode cX0_takeWord 25 = .ok (.iload_n 1, 1) := by decide +kernel
theorem dX0_takeWord_26 : decode cX0_takeWord 26 = .ok (.invokevirtual 26, 3) := by decide +kernel
theorem dX0_takeWord_29 : decode cX0_takeWord 29 = .ok (.return_, 1) := by decide +kernel
theorem dX0_finishInto_0 : decode cX0_finishInto 0 = .ok (.aload_n 0, 1) := by decide +kernel
theorem dX0_finishInto_1 : decode cX0_finishInto 1 = .ok (.invokevirtual 33, 3) := by decide +kernel
theorem dX0_finishInto_4 : decode cX0_finishInto 4 = .ok (.iconst 0, 1) := by decide +kernel
theorem dX0_finishInto_5 : decode cX0_finishInto 5 = .ok (.istore_n 3, 1) := by decide +kernel
theorem dX0_finishInto_6 : decode cX0_finishInto 6 = .ok (.iload_n 3, 1) := by decide +kernel
theorem dX0_finishInto_7 : decode cX0_finishInto 7 = .ok (.bipush 8, 2) := by decide +kernel
theorem dX0_finishInto_9 : decode cX0_finishInto 9 = .ok (.if_icmp .ge 20, 3) := by decide +kernel
theorem dX0_finishInto_12 : decode cX0_finishInto 12 = .ok (.aload_n 0, 1) := by decide +kernel
theorem dX0_finishInto_13 : decode cX0_finishInto 13 = .ok (.getfield 19, 3) := by decide +kernel
theorem dX0_finishInto_16 : decode cX0_finishInto 16 = .ok (.iload_n 3, 1) := by decide +kernel
theorem dX0_finishInto_17 : decode cX0_finishInto 17 = .ok (.getstatic 36, 3) := by decide +kernel
theorem dX0_finishInto_20 : decode cX0_finishInto 20 = .ok (.iload_n 3, 1) := by decide +kernel
theorem dX0_finishInto_21 : decode cX0_finishInto 21 = .ok (.iaload, 1) := by decide +kernel
theorem dX0_finishInto_22 : decode cX0_finishInto 22 = .ok (.iastore, 1) := by decide +kernel
theorem dX0_finishInto_23 : decode cX0_finishInto 23 = .ok (.iinc 3 1, 3) := by decide +kernel
theorem dX0_finishInto_26 : decode cX0_finishInto 26 = .ok (.goto (-20), 3) := by decide +kernel
theorem dX0_finishInto_29 : decode cX0_finishInto 29 = .ok (.iconst 0, 1) := by decide +kernel
theorem dX0_finishInto_30 : decode cX0_finishInto 30 = .ok (.istore_n 3, 1) := by decide +kernel
theorem dX0_finishInto_31 : decode cX0_finishInto 31 = .ok (.iload_n 3, 1) := by decide +kernel
theorem dX0_finishInto_32 : decode cX0_finishInto 32 = .ok (.bipush 64, 2) := by decide +kernel
theorem dX0_finishInto_34 : decode cX0_finishInto 34 = .ok (.iadd, 1) := by decide +kernel
theorem dX0_finishInto_35 : decode cX0_finishInto 35 = .ok (.aload_n 0, 1) := by decide +kernel
theorem dX0_finishInto_36 : decode cX0_finishInto 36 = .ok (.getfield 22, 3) := by decide +kernel
theorem dX0_finishInto_39 : decode cX0_finishInto 39 = .ok (.if_icmp .gt 18, 3) := by decide +kernel
theorem dX0_finishInto_42 : decode cX0_finishInto 42 = .ok (.aload_n 0, 1) := by decide +kernel
theorem dX0_finishInto_43 : decode cX0_finishInto 43 = .ok (.iload_n 3, 1) := by decide +kernel
theorem dX0_finishInto_44 : decode cX0_finishInto 44 = .ok (.invokevirtual 39, 3) := by decide +kernel
theorem dX0_finishInto_47 : decode cX0_finishInto 47 = .ok (.aload_n 0, 1) := by decide +kernel
theorem dX0_finishInto_48 : decode cX0_finishInto 48 = .ok (.invokevirtual 42, 3) := by decide +kernel
theorem dX0_finishInto_51 : decode cX0_finishInto 51 = .ok (.iinc 3 64, 3) := by decide +kernel
theorem dX0_finishInto_54 : decode cX0_finishInto 54 = .ok (.goto (-23), 3) := by decide +kernel
theorem dX0_finishInto_57 : decode cX0_finishInto 57 = .ok (.iload_n 2, 1) := by decide +kernel
theorem dX0_finishInto_58 : decode cX0_finishInto 58 = .ok (.ifCond .lt 12, 3) := by decide +kernel
theorem dX0_finishInto_61 : decode cX0_finishInto 61 = .ok (.iload_n 2, 1) := by decide +kernel
theorem dX0_finishInto_62 : decode cX0_finishInto 62 = .ok (.bipush 8, 2) := by decide +kernel
theorem dX0_finishInto_64 : decode cX0_finishInto 64 = .ok (.iadd, 1) := by decide +kernel
theorem dX0_finishInto_65 : decode cX0_finishInto 65 = .ok (.aload_n 1, 1) := by decide +kernel
theorem dX0_finishInto_66 : decode cX0_finishInto 66 = .ok (.arraylength, 1) := by decide +kernel
theorem dX0_finishInto_67 : decode cX0_finishInto 67 = .ok (.if_icmp .le 4, 3) := by decide +kernel
theorem dX0_finishInto_70 : decode cX0_finishInto 70 = .ok (.return_, 1) := by decide +kernel
theorem dX0_finishInto_71 : decode cX0_finishInto 71 = .ok (.iconst 0, 1) := by decide +kernel
theorem dX0_finishInto_72 : decode cX0_finishInto 72 = .ok (.istore_n 3, 1) := by decide +kernel
theorem dX0_finishInto_73 : decode cX0_finishInto 73 = .ok (.iload_n 3, 1) := by decide +kernel
theorem dX0_finishInto_74 : decode cX0_finishInto 74 = .ok (.bipush 8, 2) := by decide +kernel
theorem dX0_finishInto_76 : decode cX0_finishInto 76 = .ok (.if_icmp .ge 20, 3) := by decide +kernel
theorem dX0_finishInto_79 : decode cX0_finishInto 79 = .ok (.aload_n 1, 1) := by decide +kernel
theorem dX0_finishInto_80 : decode cX0_finishInto 80 = .ok (.iload_n 2, 1) := by decide +kernel
theorem dX0_finishInto_81 : decode cX0_finishInto 81 = .ok (.iload_n 3, 1) := by decide +kernel
theorem dX0_finishInto_82 : decode cX0_finishInto 82 = .ok (.iadd, 1) := by decide +kernel
theorem dX0_finishInto_83 : decode cX0_finishInto 83 = .ok (.aload_n 0, 1) := by decide +kernel
theorem dX0_finishInto_84 : decode cX0_finishInto 84 = .ok (.getfield 19, 3) := by decide +kernel
theorem dX0_finishInto_87 : decode cX0_finishInto 87 = .ok (.iload_n 3, 1) := by decide +kernel
theorem dX0_finishInto_88 : decode cX0_finishInto 88 = .ok (.iaload, 1) := by decide +kernel
theorem dX0_finishInto_89 : decode cX0_finishInto 89 = .ok (.iastore, 1) := by decide +kernel
theorem dX0_finishInto_90 : decode cX0_finishInto 90 = .ok (.iinc 3 1, 3) := by decide +kernel
theorem dX0_finishInto_93 : decode cX0_finishInto 93 = .ok (.goto (-20), 3) := by decide +kernel
theorem dX0_finishInto_96 : decode cX0_finishInto 96 = .ok (.return_, 1) := by decide +kernel
theorem dX0_pad_0 : decode cX0_pad 0 = .ok (.ldc2_w 45, 3) := by decide +kernel
theorem dX0_pad_3 : decode cX0_pad 3 = .ok (.aload_n 0, 1) := by decide +kernel
theorem dX0_pad_4 : decode cX0_pad 4 = .ok (.getfield 22, 3) := by decide +kernel
theorem dX0_pad_7 : decode cX0_pad 7 = .ok (.i2l, 1) := by decide +kernel
theorem dX0_pad_8 : decode cX0_pad 8 = .ok (.lmul, 1) := by decide +kernel
theorem dX0_pad_9 : decode cX0_pad 9 = .ok (.lstore_n 1, 1) := by decide +kernel
theorem dX0_pad_10 : decode cX0_pad 10 = .ok (.aload_n 0, 1) := by decide +kernel
theorem dX0_pad_11 : decode cX0_pad 11 = .ok (.sipush 128, 3) := by decide +kernel
theorem dX0_pad_14 : decode cX0_pad 14 = .ok (.invokevirtual 26, 3) := by decide +kernel
theorem dX0_pad_17 : decode cX0_pad 17 = .ok (.iconst 0, 1) := by decide +kernel
theorem dX0_pad_18 : decode cX0_pad 18 = .ok (.istore_n 3, 1) := by decide +kernel
theorem dX0_pad_19 : decode cX0_pad 19 = .ok (.iload_n 3, 1) := by decide +kernel
theorem dX0_pad_20 : decode cX0_pad 20 = .ok (.bipush 64, 2) := by decide +kernel
theorem dX0_pad_22 : decode cX0_pad 22 = .ok (.if_icmp .ge 26, 3) := by decide +kernel
theorem dX0_pad_25 : decode cX0_pad 25 = .ok (.aload_n 0, 1) := by decide +kernel
theorem dX0_pad_26 : decode cX0_pad 26 = .ok (.getfield 22, 3) := by decide +kernel
theorem dX0_pad_29 : decode cX0_pad 29 = .ok (.bipush 64, 2) := by decide +kernel
theorem dX0_pad_31 : decode cX0_pad 31 = .ok (.irem, 1) := by decide +kernel
theorem dX0_pad_32 : decode cX0_pad 32 = .ok (.bipush 56, 2) := by decide +kernel
theorem dX0_pad_34 : decode cX0_pad 34 = .ok (.if_icmp .eq 14, 3) := by decide +kernel
theorem dX0_pad_37 : decode cX0_pad 37 = .ok (.aload_n 0, 1) := by decide +kernel
theorem dX0_pad_38 : decode cX0_pad 38 = .ok (.iconst 0, 1) := by decide +kernel
theorem dX0_pad_39 : decode cX0_pad 39 = .ok (.invokevirtual 26, 3) := by decide +kernel
theorem dX0_pad_42 : decode cX0_pad 42 = .ok (.iinc 3 1, 3) := by decide +kernel
theorem dX0_pad_45 : decode cX0_pad 45 = .ok (.goto (-26), 3) := by decide +kernel
theorem dX0_pad_48 : decode cX0_pad 48 = .ok (.bipush 56, 2) := by decide +kernel
theorem dX0_pad_50 : decode cX0_pad 50 = .ok (.istore_n 3, 1) := by decide +kernel
theorem dX0_pad_51 : decode cX0_pad 51 = .ok (.iload_n 3, 1) := by decide +kernel
theorem dX0_pad_52 : decode cX0_pad 52 = .ok (.ifCond .lt 17, 3) := by decide +kernel
theorem dX0_pad_55 : decode cX0_pad 55 = .ok (.aload_n 0, 1) := by decide +kernel
theorem dX0_pad_56 : decode cX0_pad 56 = .ok (.lload_n 1, 1) := by decide +kernel
theorem dX0_pad_57 : decode cX0_pad 57 = .ok (.iload_n 3, 1) := by decide +kernel
theorem dX0_pad_58 : decode cX0_pad 58 = .ok (.lushr, 1) := by decide +kernel
theorem dX0_pad_59 : decode cX0_pad 59 = .ok (.l2i, 1) := by decide +kernel
theorem dX0_pad_60 : decode cX0_pad 60 = .ok (.invokevirtual 26, 3) := by decide +kernel
theorem dX0_pad_63 : decode cX0_pad 63 = .ok (.iinc 3 (-8), 3) := by decide +kernel
theorem dX0_pad_66 : decode cX0_pad 66 = .ok (.goto (-15), 3) := by decide +kernel
theorem dX0_pad_69 : decode cX0_pad 69 = .ok (.return_, 1) := by decide +kernel
theorem dX0_fillSchedule_0 : decode cX0_fillSchedule 0 = .ok (.iconst 0, 1) := by decide +kernel
theorem dX0_fillSchedule_1 : decode cX0_fillSchedule 1 = .ok (.istore_n 2, 1) := by decide +kernel
theorem dX0_fillSchedule_2 : decode cX0_fillSchedule 2 = .ok (.iload_n 2, 1) := by decide +kernel
theorem dX0_fillSchedule_3 : decode cX0_fillSchedule 3 = .ok (.bipush 16, 2) := by decide +kernel
theorem dX0_fillSchedule_5 : decode cX0_fillSchedule 5 = .ok (.if_icmp .ge 79, 3) := by decide +kernel
theorem dX0_fillSchedule_8 : decode cX0_fillSchedule 8 = .ok (.iload_n 1, 1) := by decide +kernel
theorem dX0_fillSchedule_9 : decode cX0_fillSchedule 9 = .ok (.iconst 4, 1) := by decide +kernel
theorem dX0_fillSchedule_10 : decode cX0_fillSchedule 10 = .ok (.iload_n 2, 1) := by decide +kernel
theorem dX0_fillSchedule_11 : decode cX0_fillSchedule 11 = .ok (.imul, 1) := by decide +kernel
theorem dX0_fillSchedule_12 : decode cX0_fillSchedule 12 = .ok (.iadd, 1) := by decide +kernel
theorem dX0_fillSchedule_13 : decode cX0_fillSchedule 13 = .ok (.istore_n 3, 1) := by decide +kernel
theorem dX0_fillSchedule_14 : decode cX0_fillSchedule 14 = .ok (.aload_n 0, 1) := by decide +kernel
theorem dX0_fillSchedule_15 : decode cX0_fillSchedule 15 = .ok (.getfield 15, 3) := by decide +kernel
theorem dX0_fillSchedule_18 : decode cX0_fillSchedule 18 = .ok (.iload_n 2, 1) := by decide +kernel
theorem dX0_fillSchedule_19 : decode cX0_fillSchedule 19 = .ok (.aload_n 0, 1) := by decide +kernel
theorem dX0_fillSchedule_20 : decode cX0_fillSchedule 20 = .ok (.getfield 11, 3) := by decide +kernel
theorem dX0_fillSchedule_23 : decode cX0_fillSchedule 23 = .ok (.iload_n 3, 1) := by decide +kernel
theorem dX0_fillSchedule_24 : decode cX0_fillSchedule 24 = .ok (.baload, 1) := by decide +kernel
theorem dX0_fillSchedule_25 : decode cX0_fillSchedule 25 = .ok (.sipush 255, 3) := by decide +kernel
theorem dX0_fillSchedule_28 : decode cX0_fillSchedule 28 = .ok (.iand, 1) := by decide +kernel
theorem dX0_fillSchedule_29 : decode cX0_fillSchedule 29 = .ok (.bipush 24, 2) := by decide +kernel
theorem dX0_fillSchedule_31 : decode cX0_fillSchedule 31 = .ok (.ishl, 1) := by decide +kernel
theorem dX0_fillSchedule_32 : decode cX0_fillSchedule 32 = .ok (.aload_n 0, 1) := by decide +kernel
theorem dX0_fillSchedule_33 : decode cX0_fillSchedule 33 = .ok (.getfield 11, 3) := by decide +kernel
theorem dX0_fillSchedule_36 : decode cX0_fillSchedule 36 = .ok (.iload_n 3, 1) := by decide +kernel
theorem dX0_fillSchedule_37 : decode cX0_fillSchedule 37 = .ok (.iconst 1, 1) := by decide +kernel
theorem dX0_fillSchedule_38 : decode cX0_fillSchedule 38 = .ok (.iadd, 1) := by decide +kernel
theorem dX0_fillSchedule_39 : decode cX0_fillSchedule 39 = .ok (.baload, 1) := by decide +kernel
theorem dX0_fillSchedule_40 : decode cX0_fillSchedule 40 = .ok (.sipush 255, 3) := by decide +kernel
theorem dX0_fillSchedule_43 : decode cX0_fillSchedule 43 = .ok (.iand, 1) := by decide +kernel
theorem dX0_fillSchedule_44 : decode cX0_fillSchedule 44 = .ok (.bipush 16, 2) := by decide +kernel
theorem dX0_fillSchedule_46 : decode cX0_fillSchedule 46 = .ok (.ishl, 1) := by decide +kernel
theorem dX0_fillSchedule_47 : decode cX0_fillSchedule 47 = .ok (.ior, 1) := by decide +kernel
theorem dX0_fillSchedule_48 : decode cX0_fillSchedule 48 = .ok (.aload_n 0, 1) := by decide +kernel
theorem dX0_fillSchedule_49 : decode cX0_fillSchedule 49 = .ok (.getfield 11, 3) := by decide +kernel
theorem dX0_fillSchedule_52 : decode cX0_fillSchedule 52 = .ok (.iload_n 3, 1) := by decide +kernel
theorem dX0_fillSchedule_53 : decode cX0_fillSchedule 53 = .ok (.iconst 2, 1) := by decide +kernel
theorem dX0_fillSchedule_54 : decode cX0_fillSchedule 54 = .ok (.iadd, 1) := by decide +kernel
theorem dX0_fillSchedule_55 : decode cX0_fillSchedule 55 = .ok (.baload, 1) := by decide +kernel
theorem dX0_fillSchedule_56 : decode cX0_fillSchedule 56 = .ok (.sipush 255, 3) := by decide +kernel
theorem dX0_fillSchedule_59 : decode cX0_fillSchedule 59 = .ok (.iand, 1) := by decide +kernel
theorem dX0_fillSchedule_60 : decode cX0_fillSchedule 60 = .ok (.bipush 8, 2) := by decide +kernel
theorem dX0_fillSchedule_62 : decode cX0_fillSchedule 62 = .ok (.ishl, 1) := by decide +kernel
theorem dX0_fillSchedule_63 : decode cX0_fillSchedule 63 = .ok (.ior, 1) := by decide +kernel
theorem dX0_fillSchedule_64 : decode cX0_fillSchedule 64 = .ok (.aload_n 0, 1) := by decide +kernel
theorem dX0_fillSchedule_65 : decode cX0_fillSchedule 65 = .ok (.getfield 11, 3) := by decide +kernel
theorem dX0_fillSchedule_68 : decode cX0_fillSchedule 68 = .ok (.iload_n 3, 1) := by decide +kernel
theorem dX0_fillSchedule_69 : decode cX0_fillSchedule 69 = .ok (.iconst 3, 1) := by decide +kernel
theorem dX0_fillSchedule_70 : decode cX0_fillSchedule 70 = .ok (.iadd, 1) := by decide +kernel
theorem dX0_fillSchedule_71 : decode cX0_fillSchedule 71 = .ok (.baload, 1) := by decide +kernel
theorem dX0_fillSchedule_72 : decode cX0_fillSchedule 72 = .ok (.sipush 255, 3) := by decide +kernel
theorem dX0_fillSchedule_75 : decode cX0_fillSchedule 75 = .ok (.iand, 1) := by decide +kernel
theorem dX0_fillSchedule_76 : decode cX0_fillSchedule 76 = .ok (.ior, 1) := by decide +kernel
theorem dX0_fillSchedule_77 : decode cX0_fillSchedule 77 = .ok (.iastore, 1) := by decide +kernel
theorem dX0_fillSchedule_78 : decode cX0_fillSchedule 78 = .ok (.iinc 2 1, 3) := by decide +kernel
theorem dX0_fillSchedule_81 : decode cX0_fillSchedule 81 = .ok (.goto (-79), 3) := by decide +kernel
theorem dX0_fillSchedule_84 : decode cX0_fillSchedule 84 = .ok (.bipush 16, 2) := by decide +kernel
theorem dX0_fillSchedule_86 : decode cX0_fillSchedule 86 = .ok (.istore_n 2, 1) := by decide +kernel
theorem dX0_fillSchedule_87 : decode cX0_fillSchedule 87 = .ok (.iload_n 2, 1) := by decide +kernel
theorem dX0_fillSchedule_88 : decode cX0_fillSchedule 88 = .ok (.bipush 64, 2) := by decide +kernel
theorem dX0_fillSchedule_90 : decode cX0_fillSchedule 90 = .ok (.if_icmp .ge 102, 3) := by decide +kernel
theorem dX0_fillSchedule_93 : decode cX0_fillSchedule 93 = .ok (.aload_n 0, 1) := by decide +kernel
theorem dX0_fillSchedule_94 : decode cX0_fillSchedule 94 = .ok (.getfield 15, 3) := by decide +kernel
theorem dX0_fillSchedule_97 : decode cX0_fillSchedule 97 = .ok (.iload_n 2, 1) := by decide +kernel
theorem dX0_fillSchedule_98 : decode cX0_fillSchedule 98 = .ok (.bipush 15, 2) := by decide +kernel
theorem dX0_fillSchedule_100 : decode cX0_fillSchedule 100 = .ok (.isub, 1) := by decide +kernel
theorem dX0_fillSchedule_101 : decode cX0_fillSchedule 101 = .ok (.iaload, 1) := by decide +kernel
theorem dX0_fillSchedule_102 : decode cX0_fillSchedule 102 = .ok (.istore_n 3, 1) := by decide +kernel
theorem dX0_fillSchedule_103 : decode cX0_fillSchedule 103 = .ok (.aload_n 0, 1) := by decide +kernel
theorem dX0_fillSchedule_104 : decode cX0_fillSchedule 104 = .ok (.getfield 15, 3) := by decide +kernel
theorem dX0_fillSchedule_107 : decode cX0_fillSchedule 107 = .ok (.iload_n 2, 1) := by decide +kernel
theorem dX0_fillSchedule_108 : decode cX0_fillSchedule 108 = .ok (.iconst 2, 1) := by decide +kernel
theorem dX0_fillSchedule_109 : decode cX0_fillSchedule 109 = .ok (.isub, 1) := by decide +kernel
theorem dX0_fillSchedule_110 : decode cX0_fillSchedule 110 = .ok (.iaload, 1) := by decide +kernel
theorem dX0_fillSchedule_111 : decode cX0_fillSchedule 111 = .ok (.istore 4, 2) := by decide +kernel
theorem dX0_fillSchedule_113 : decode cX0_fillSchedule 113 = .ok (.iload_n 3, 1) := by decide +kernel
theorem dX0_fillSchedule_114 : decode cX0_fillSchedule 114 = .ok (.bipush 7, 2) := by decide +kernel
theorem dX0_fillSchedule_116 : decode cX0_fillSchedule 116 = .ok (.invokestatic 47, 3) := by decide +kernel
theorem dX0_fillSchedule_119 : decode cX0_fillSchedule 119 = .ok (.iload_n 3, 1) := by decide +kernel
theorem dX0_fillSchedule_120 : decode cX0_fillSchedule 120 = .ok (.bipush 18, 2) := by decide +kernel
theorem dX0_fillSchedule_122 : decode cX0_fillSchedule 122 = .ok (.invokestatic 47, 3) := by decide +kernel
theorem dX0_fillSchedule_125 : decode cX0_fillSchedule 125 = .ok (.ixor, 1) := by decide +kernel
theorem dX0_fillSchedule_126 : decode cX0_fillSchedule 126 = .ok (.iload_n 3, 1) := by decide +kernel
theorem dX0_fillSchedule_127 : decode cX0_fillSchedule 127 = .ok (.iconst 3, 1) := by decide +kernel
theorem dX0_fillSchedule_128 : decode cX0_fillSchedule 128 = .ok (.iushr, 1) := by decide +kernel
theorem dX0_fillSchedule_129 : decode cX0_fillSchedule 129 = .ok (.ixor, 1) := by decide +kernel
theorem dX0_fillSchedule_130 : decode cX0_fillSchedule 130 = .ok (.istore 5, 2) := by decide +kernel
theorem dX0_fillSchedule_132 : decode cX0_fillSchedule 132 = .ok (.iload 4, 2) := by decide +kernel
theorem dX0_fillSchedule_134 : decode cX0_fillSchedule 134 = .ok (.bipush 17, 2) := by decide +kernel
theorem dX0_fillSchedule_136 : decode cX0_fillSchedule 136 = .ok (.invokestatic 47, 3) := by decide +kernel
theorem dX0_fillSchedule_139 : decode cX0_fillSchedule 139 = .ok (.iload 4, 2) := by decide +kernel
theorem dX0_fillSchedule_141 : decode cX0_fillSchedule 141 = .ok (.bipush 19, 2) := by decide +kernel
theorem dX0_fillSchedule_143 : decode cX0_fillSchedule 143 = .ok (.invokestatic 47, 3) := by decide +kernel
theorem dX0_fillSchedule_146 : decode cX0_fillSchedule 146 = .ok (.ixor, 1) := by decide +kernel
theorem dX0_fillSchedule_147 : decode cX0_fillSchedule 147 = .ok (.iload 4, 2) := by decide +kernel
theorem dX0_fillSchedule_149 : decode cX0_fillSchedule 149 = .ok (.bipush 10, 2) := by decide +kernel
theorem dX0_fillSchedule_151 : decode cX0_fillSchedule 151 = .ok (.iushr, 1) := by decide +kernel
theorem dX0_fillSchedule_152 : decode cX0_fillSchedule 152 = .ok (.ixor, 1) := by decide +kernel
theorem dX0_fillSchedule_153 : decode cX0_fillSchedule 153 = .ok (.istore 6, 2) := by decide +kernel
theorem dX0_fillSchedule_155 : decode cX0_fillSchedule 155 = .ok (.aload_n 0, 1) := by decide +kernel
theorem dX0_fillSchedule_156 : decode cX0_fillSchedule 156 = .ok (.getfield 15, 3) := by decide +kernel
theorem dX0_fillSchedule_159 : decode cX0_fillSchedule 159 = .ok (.iload_n 2, 1) := by decide +kernel
theorem dX0_fillSchedule_160 : decode cX0_fillSchedule 160 = .ok (.aload_n 0, 1) := by decide +kernel
theorem dX0_fillSchedule_161 : decode cX0_fillSchedule 161 = .ok (.getfield 15, 3) := by decide +kernel
theorem dX0_fillSchedule_164 : decode cX0_fillSchedule 164 = .ok (.iload_n 2, 1) := by decide +kernel
theorem dX0_fillSchedule_165 : decode cX0_fillSchedule 165 = .ok (.bipush 16, 2) := by decide +kernel
theorem dX0_fillSchedule_167 : decode cX0_fillSchedule 167 = .ok (.isub, 1) := by decide +kernel
theorem dX0_fillSchedule_168 : decode cX0_fillSchedule 168 = .ok (.iaload, 1) := by decide +kernel
theorem dX0_fillSchedule_169 : decode cX0_fillSchedule 169 = .ok (.iload 5, 2) := by decide +kernel
theorem dX0_fillSchedule_171 : decode cX0_fillSchedule 171 = .ok (.iadd, 1) := by decide +kernel
theorem dX0_fillSchedule_172 : decode cX0_fillSchedule 172 = .ok (.aload_n 0, 1) := by decide +kernel
theorem dX0_fillSchedule_173 : decode cX0_fillSchedule 173 = .ok (.getfield 15, 3) := by decide +kernel
theorem dX0_fillSchedule_176 : decode cX0_fillSchedule 176 = .ok (.iload_n 2, 1) := by decide +kernel
theorem dX0_fillSchedule_177 : decode cX0_fillSchedule 177 = .ok (.bipush 7, 2) := by decide +kernel
theorem dX0_fillSchedule_179 : decode cX0_fillSchedule 179 = .ok (.isub, 1) := by decide +kernel
theorem dX0_fillSchedule_180 : decode cX0_fillSchedule 180 = .ok (.iaload, 1) := by decide +kernel
theorem dX0_fillSchedule_181 : decode cX0_fillSchedule 181 = .ok (.iadd, 1) := by decide +kernel
theorem dX0_fillSchedule_182 : decode cX0_fillSchedule 182 = .ok (.iload 6, 2) := by decide +kernel
theorem dX0_fillSchedule_184 : decode cX0_fillSchedule 184 = .ok (.iadd, 1) := by decide +kernel
theorem dX0_fillSchedule_185 : decode cX0_fillSchedule 185 = .ok (.iastore, 1) := by decide +kernel
theorem dX0_fillSchedule_186 : decode cX0_fillSchedule 186 = .ok (.iinc 2 1, 3) := by decide +kernel
theorem dX0_fillSchedule_189 : decode cX0_fillSchedule 189 = .ok (.goto (-102), 3) := by decide +kernel
theorem dX0_fillSchedule_192 : decode cX0_fillSchedule 192 = .ok (.return_, 1) := by decide +kernel
theorem dX0_mixBlock_0 : decode cX0_mixBlock 0 = .ok (.aload_n 0, 1) := by decide +kernel
theorem dX0_mixBlock_1 : decode cX0_mixBlock 1 = .ok (.getfield 19, 3) := by decide +kernel
theorem dX0_mixBlock_4 : decode cX0_mixBlock 4 = .ok (.iconst 0, 1) := by decide +kernel
theorem dX0_mixBlock_5 : decode cX0_mixBlock 5 = .ok (.iaload, 1) := by decide +kernel
theorem dX0_mixBlock_6 : decode cX0_mixBlock 6 = .ok (.istore_n 1, 1) := by decide +kernel
theorem dX0_mixBlock_7 : decode cX0_mixBlock 7 = .ok (.aload_n 0, 1) := by decide +kernel
theorem dX0_mixBlock_8 : decode cX0_mixBlock 8 = .ok (.getfield 19, 3) := by decide +kernel
theorem dX0_mixBlock_11 : decode cX0_mixBlock 11 = .ok (.iconst 1, 1) := by decide +kernel
theorem dX0_mixBlock_12 : decode cX0_mixBlock 12 = .ok (.iaload, 1) := by decide +kernel
theorem dX0_mixBlock_13 : decode cX0_mixBlock 13 = .ok (.istore_n 2, 1) := by decide +kernel
theorem dX0_mixBlock_14 : decode cX0_mixBlock 14 = .ok (.aload_n 0, 1) := by decide +kernel
theorem dX0_mixBlock_15 : decode cX0_mixBlock 15 = .ok (.getfield 19, 3) := by decide +kernel
theorem dX0_mixBlock_18 : decode cX0_mixBlock 18 = .ok (.iconst 2, 1) := by decide +kernel
theorem dX0_mixBlock_19 : decode cX0_mixBlock 19 = .ok (.iaload, 1) := by decide +kernel
theorem dX0_mixBlock_20 : decode cX0_mixBlock 20 = .ok (.istore_n 3, 1) := by decide +kernel
theorem dX0_mixBlock_21 : decode cX0_mixBlock 21 = .ok (.aload_n 0, 1) := by decide +kernel
theorem dX0_mixBlock_22 : decode cX0_mixBlock 22 = .ok (.getfield 19, 3) := by decide +kernel
theorem dX0_mixBlock_25 : decode cX0_mixBlock 25 = .ok (.iconst 3, 1) := by decide +kernel
theorem dX0_mixBlock_26 : decode cX0_mixBlock 26 = .ok (.iaload, 1) := by decide +kernel
theorem dX0_mixBlock_27 : decode cX0_mixBlock 27 = .ok (.istore 4, 2) := by decide +kernel
theorem dX0_mixBlock_29 : decode cX0_mixBlock 29 = .ok (.aload_n 0, 1) := by decide +kernel
theorem dX0_mixBlock_30 : decode cX0_mixBlock 30 = .ok (.getfield 19, 3) := by decide +kernel
theorem dX0_mixBlock_33 : decode cX0_mixBlock 33 = .ok (.iconst 4, 1) := by decide +kernel
theorem dX0_mixBlock_34 : decode cX0_mixBlock 34 = .ok (.iaload, 1) := by decide +kernel
theorem dX0_mixBlock_35 : decode cX0_mixBlock 35 = .ok (.istore 5, 2) := by decide +kernel
theorem dX0_mixBlock_37 : decode cX0_mixBlock 37 = .ok (.aload_n 0, 1) := by decide +kernel
theorem dX0_mixBlock_38 : decode cX0_mixBlock 38 = .ok (.getfield 19, 3) := by decide +kernel
theorem dX0_mixBlock_41 : decode cX0_mixBlock 41 = .ok (.iconst 5, 1) := by decide +kernel
theorem dX0_mixBlock_42 : decode cX0_mixBlock 42 = .ok (.iaload, 1) := by decide +kernel
theorem dX0_mixBlock_43 : decode cX0_mixBlock 43 = .ok (.istore 6, 2) := by decide +kernel
theorem dX0_mixBlock_45 : decode cX0_mixBlock 45 = .ok (.aload_n 0, 1) := by decide +kernel
theorem dX0_mixBlock_46 : decode cX0_mixBlock 46 = .ok (.getfield 19, 3) := by decide +kernel
theorem dX0_mixBlock_49 : decode cX0_mixBlock 49 = .ok (.bipush 6, 2) := by decide +kernel
theorem dX0_mixBlock_51 : decode cX0_mixBlock 51 = .ok (.iaload, 1) := by decide +kernel
theorem dX0_mixBlock_52 : decode cX0_mixBlock 52 = .ok (.istore 7, 2) := by decide +kernel
theorem dX0_mixBlock_54 : decode cX0_mixBlock 54 = .ok (.aload_n 0, 1) := by decide +kernel
theorem dX0_mixBlock_55 : decode cX0_mixBlock 55 = .ok (.getfield 19, 3) := by decide +kernel
theorem dX0_mixBlock_58 : decode cX0_mixBlock 58 = .ok (.bipush 7, 2) := by decide +kernel
theorem dX0_mixBlock_60 : decode cX0_mixBlock 60 = .ok (.iaload, 1) := by decide +kernel
theorem dX0_mixBlock_61 : decode cX0_mixBlock 61 = .ok (.istore 8, 2) := by decide +kernel
theorem dX0_mixBlock_63 : decode cX0_mixBlock 63 = .ok (.iconst 0, 1) := by decide +kernel
theorem dX0_mixBlock_64 : decode cX0_mixBlock 64 = .ok (.istore 9, 2) := by decide +kernel
theorem dX0_mixBlock_66 : decode cX0_mixBlock 66 = .ok (.iload 9, 2) := by decide +kernel
theorem dX0_mixBlock_68 : decode cX0_mixBlock 68 = .ok (.bipush 64, 2) := by decide +kernel
theorem dX0_mixBlock_70 : decode cX0_mixBlock 70 = .ok (.if_icmp .ge 143, 3) := by decide +kernel
theorem dX0_mixBlock_73 : decode cX0_mixBlock 73 = .ok (.iload 5, 2) := by decide +kernel
theorem dX0_mixBlock_75 : decode cX0_mixBlock 75 = .ok (.iload 6, 2) := by decide +kernel
theorem dX0_mixBlock_77 : decode cX0_mixBlock 77 = .ok (.iand, 1) := by decide +kernel
theorem dX0_mixBlock_78 : decode cX0_mixBlock 78 = .ok (.iload 5, 2) := by decide +kernel
theorem dX0_mixBlock_80 : decode cX0_mixBlock 80 = .ok (.iconst (-1), 1) := by decide +kernel
theorem dX0_mixBlock_81 : decode cX0_mixBlock 81 = .ok (.ixor, 1) := by decide +kernel
theorem dX0_mixBlock_82 : decode cX0_mixBlock 82 = .ok (.iload 7, 2) := by decide +kernel
theorem dX0_mixBlock_84 : decode cX0_mixBlock 84 = .ok (.iand, 1) := by decide +kernel
theorem dX0_mixBlock_85 : decode cX0_mixBlock 85 = .ok (.ixor, 1) := by decide +kernel
theorem dX0_mixBlock_86 : decode cX0_mixBlock 86 = .ok (.istore 10, 2) := by decide +kernel
theorem dX0_mixBlock_88 : decode cX0_mixBlock 88 = .ok (.iload_n 1, 1) := by decide +kernel
theorem dX0_mixBlock_89 : decode cX0_mixBlock 89 = .ok (.iload_n 2, 1) := by decide +kernel
theorem dX0_mixBlock_90 : decode cX0_mixBlock 90 = .ok (.iand, 1) := by decide +kernel
theorem dX0_mixBlock_91 : decode cX0_mixBlock 91 = .ok (.iload_n 1, 1) := by decide +kernel
theorem dX0_mixBlock_92 : decode cX0_mixBlock 92 = .ok (.iload_n 3, 1) := by decide +kernel
theorem dX0_mixBlock_93 : decode cX0_mixBlock 93 = .ok (.iand, 1) := by decide +kernel
theorem dX0_mixBlock_94 : decode cX0_mixBlock 94 = .ok (.ixor, 1) := by decide +kernel
theorem dX0_mixBlock_95 : decode cX0_mixBlock 95 = .ok (.iload_n 2, 1) := by decide +kernel
theorem dX0_mixBlock_96 : decode cX0_mixBlock 96 = .ok (.iload_n 3, 1) := by decide +kernel
theorem dX0_mixBlock_97 : decode cX0_mixBlock 97 = .ok (.iand, 1) := by decide +kernel
theorem dX0_mixBlock_98 : decode cX0_mixBlock 98 = .ok (.ixor, 1) := by decide +kernel
theorem dX0_mixBlock_99 : decode cX0_mixBlock 99 = .ok (.istore 11, 2) := by decide +kernel
theorem dX0_mixBlock_101 : decode cX0_mixBlock 101 = .ok (.iload 5, 2) := by decide +kernel
theorem dX0_mixBlock_103 : decode cX0_mixBlock 103 = .ok (.bipush 6, 2) := by decide +kernel
theorem dX0_mixBlock_105 : decode cX0_mixBlock 105 = .ok (.invokestatic 47, 3) := by decide +kernel
theorem dX0_mixBlock_108 : decode cX0_mixBlock 108 = .ok (.iload 5, 2) := by decide +kernel
theorem dX0_mixBlock_110 : decode cX0_mixBlock 110 = .ok (.bipush 11, 2) := by decide +kernel
theorem dX0_mixBlock_112 : decode cX0_mixBlock 112 = .ok (.invokestatic 47, 3) := by decide +kernel
theorem dX0_mixBlock_115 : decode cX0_mixBlock 115 = .ok (.ixor, 1) := by decide +kernel
theorem dX0_mixBlock_116 : decode cX0_mixBlock 116 = .ok (.iload 5, 2) := by decide +kernel
theorem dX0_mixBlock_118 : decode cX0_mixBlock 118 = .ok (.bipush 25, 2) := by decide +kernel
theorem dX0_mixBlock_120 : decode cX0_mixBlock 120 = .ok (.invokestatic 47, 3) := by decide +kernel
theorem dX0_mixBlock_123 : decode cX0_mixBlock 123 = .ok (.ixor, 1) := by decide +kernel
theorem dX0_mixBlock_124 : decode cX0_mixBlock 124 = .ok (.istore 12, 2) := by decide +kernel
theorem dX0_mixBlock_126 : decode cX0_mixBlock 126 = .ok (.iload_n 1, 1) := by decide +kernel
theorem dX0_mixBlock_127 : decode cX0_mixBlock 127 = .ok (.iconst 2, 1) := by decide +kernel
theorem dX0_mixBlock_128 : decode cX0_mixBlock 128 = .ok (.invokestatic 47, 3) := by decide +kernel
theorem dX0_mixBlock_131 : decode cX0_mixBlock 131 = .ok (.iload_n 1, 1) := by decide +kernel
theorem dX0_mixBlock_132 : decode cX0_mixBlock 132 = .ok (.bipush 13, 2) := by decide +kernel
theorem dX0_mixBlock_134 : decode cX0_mixBlock 134 = .ok (.invokestatic 47, 3) := by decide +kernel
theorem dX0_mixBlock_137 : decode cX0_mixBlock 137 = .ok (.ixor, 1) := by decide +kernel
theorem dX0_mixBlock_138 : decode cX0_mixBlock 138 = .ok (.iload_n 1, 1) := by decide +kernel
theorem dX0_mixBlock_139 : decode cX0_mixBlock 139 = .ok (.bipush 22, 2) := by decide +kernel
theorem dX0_mixBlock_141 : decode cX0_mixBlock 141 = .ok (.invokestatic 47, 3) := by decide +kernel
theorem dX0_mixBlock_144 : decode cX0_mixBlock 144 = .ok (.ixor, 1) := by decide +kernel
theorem dX0_mixBlock_145 : decode cX0_mixBlock 145 = .ok (.istore 13, 2) := by decide +kernel
theorem dX0_mixBlock_147 : decode cX0_mixBlock 147 = .ok (.iload 8, 2) := by decide +kernel
theorem dX0_mixBlock_149 : decode cX0_mixBlock 149 = .ok (.iload 12, 2) := by decide +kernel
theorem dX0_mixBlock_151 : decode cX0_mixBlock 151 = .ok (.iadd, 1) := by decide +kernel
theorem dX0_mixBlock_152 : decode cX0_mixBlock 152 = .ok (.iload 10, 2) := by decide +kernel
theorem dX0_mixBlock_154 : decode cX0_mixBlock 154 = .ok (.iadd, 1) := by decide +kernel
theorem dX0_mixBlock_155 : decode cX0_mixBlock 155 = .ok (.getstatic 51, 3) := by decide +kernel
theorem dX0_mixBlock_158 : decode cX0_mixBlock 158 = .ok (.iload 9, 2) := by decide +kernel
theorem dX0_mixBlock_160 : decode cX0_mixBlock 160 = .ok (.iaload, 1) := by decide +kernel
theorem dX0_mixBlock_161 : decode cX0_mixBlock 161 = .ok (.iadd, 1) := by decide +kernel
theorem dX0_mixBlock_162 : decode cX0_mixBlock 162 = .ok (.aload_n 0, 1) := by decide +kernel
theorem dX0_mixBlock_163 : decode cX0_mixBlock 163 = .ok (.getfield 15, 3) := by decide +kernel
theorem dX0_mixBlock_166 : decode cX0_mixBlock 166 = .ok (.iload 9, 2) := by decide +kernel
theorem dX0_mixBlock_168 : decode cX0_mixBlock 168 = .ok (.iaload, 1) := by decide +kernel
theorem dX0_mixBlock_169 : decode cX0_mixBlock 169 = .ok (.iadd, 1) := by decide +kernel
theorem dX0_mixBlock_170 : decode cX0_mixBlock 170 = .ok (.istore 14, 2) := by decide +kernel
theorem dX0_mixBlock_172 : decode cX0_mixBlock 172 = .ok (.iload 7, 2) := by decide +kernel
theorem dX0_mixBlock_174 : decode cX0_mixBlock 174 = .ok (.istore 8, 2) := by decide +kernel
theorem dX0_mixBlock_176 : decode cX0_mixBlock 176 = .ok (.iload 6, 2) := by decide +kernel
theorem dX0_mixBlock_178 : decode cX0_mixBlock 178 = .ok (.istore 7, 2) := by decide +kernel
theorem dX0_mixBlock_180 : decode cX0_mixBlock 180 = .ok (.iload 5, 2) := by decide +kernel
theorem dX0_mixBlock_182 : decode cX0_mixBlock 182 = .ok (.istore 6, 2) := by decide +kernel
theorem dX0_mixBlock_184 : decode cX0_mixBlock 184 = .ok (.iload 4, 2) := by decide +kernel
theorem dX0_mixBlock_186 : decode cX0_mixBlock 186 = .ok (.iload 14, 2) := by decide +kernel
theorem dX0_mixBlock_188 : decode cX0_mixBlock 188 = .ok (.iadd, 1) := by decide +kernel
theorem dX0_mixBlock_189 : decode cX0_mixBlock 189 = .ok (.istore 5, 2) := by decide +kernel
theorem dX0_mixBlock_191 : decode cX0_mixBlock 191 = .ok (.iload_n 3, 1) := by decide +kernel
theorem dX0_mixBlock_192 : decode cX0_mixBlock 192 = .ok (.istore 4, 2) := by decide +kernel
theorem dX0_mixBlock_194 : decode cX0_mixBlock 194 = .ok (.iload_n 2, 1) := by decide +kernel
theorem dX0_mixBlock_195 : decode cX0_mixBlock 195 = .ok (.istore_n 3, 1) := by decide +kernel
theorem dX0_mixBlock_196 : decode cX0_mixBlock 196 = .ok (.iload_n 1, 1) := by decide +kernel
theorem dX0_mixBlock_197 : decode cX0_mixBlock 197 = .ok (.istore_n 2, 1) := by decide +kernel
theorem dX0_mixBlock_198 : decode cX0_mixBlock 198 = .ok (.iload 14, 2) := by decide +kernel
theorem dX0_mixBlock_200 : decode cX0_mixBlock 200 = .ok (.iload 13, 2) := by decide +kernel
theorem dX0_mixBlock_202 : decode cX0_mixBlock 202 = .ok (.iadd, 1) := by decide +kernel
theorem dX0_mixBlock_203 : decode cX0_mixBlock 203 = .ok (.iload 11, 2) := by decide +kernel
theorem dX0_mixBlock_205 : decode cX0_mixBlock 205 = .ok (.iadd, 1) := by decide +kernel
theorem dX0_mixBlock_206 : decode cX0_mixBlock 206 = .ok (.istore_n 1, 1) := by decide +kernel
theorem dX0_mixBlock_207 : decode cX0_mixBlock 207 = .ok (.iinc 9 1, 3) := by decide +kernel
theorem dX0_mixBlock_210 : decode cX0_mixBlock 210 = .ok (.goto (-144), 3) := by decide +kernel
theorem dX0_mixBlock_213 : decode cX0_mixBlock 213 = .ok (.aload_n 0, 1) := by decide +kernel
theorem dX0_mixBlock_214 : decode cX0_mixBlock 214 = .ok (.getfield 19, 3) := by decide +kernel
theorem dX0_mixBlock_217 : decode cX0_mixBlock 217 = .ok (.iconst 0, 1) := by decide +kernel
theorem dX0_mixBlock_218 : decode cX0_mixBlock 218 = .ok (.dup2, 1) := by decide +kernel
theorem dX0_mixBlock_219 : decode cX0_mixBlock 219 = .ok (.iaload, 1) := by decide +kernel
theorem dX0_mixBlock_220 : decode cX0_mixBlock 220 = .ok (.iload_n 1, 1) := by decide +kernel
theorem dX0_mixBlock_221 : decode cX0_mixBlock 221 = .ok (.iadd, 1) := by decide +kernel
theorem dX0_mixBlock_222 : decode cX0_mixBlock 222 = .ok (.iastore, 1) := by decide +kernel
theorem dX0_mixBlock_223 : decode cX0_mixBlock 223 = .ok (.aload_n 0, 1) := by decide +kernel
theorem dX0_mixBlock_224 : decode cX0_mixBlock 224 = .ok (.getfield 19, 3) := by decide +kernel
theorem dX0_mixBlock_227 : decode cX0_mixBlock 227 = .ok (.iconst 1, 1) := by decide +kernel
theorem dX0_mixBlock_228 : decode cX0_mixBlock 228 = .ok (.dup2, 1) := by decide +kernel
theorem dX0_mixBlock_229 : decode cX0_mixBlock 229 = .ok (.iaload, 1) := by decide +kernel
theorem dX0_mixBlock_230 : decode cX0_mixBlock 230 = .ok (.iload_n 2, 1) := by decide +kernel
theorem dX0_mixBlock_231 : decode cX0_mixBlock 231 = .ok (.iadd, 1) := by decide +kernel
theorem dX0_mixBlock_232 : decode cX0_mixBlock 232 = .ok (.iastore, 1) := by decide +kernel
theorem dX0_mixBlock_233 : decode cX0_mixBlock 233 = .ok (.aload_n 0, 1) := by decide +kernel
theorem dX0_mixBlock_234 : decode cX0_mixBlock 234 = .ok (.getfield 19, 3) := by decide +kernel
theorem dX0_mixBlock_237 : decode cX0_mixBlock 237 = .ok (.iconst 2, 1) := by decide +kernel
theorem dX0_mixBlock_238 : decode cX0_mixBlock 238 = .ok (.dup2, 1) := by decide +kernel
theorem dX0_mixBlock_239 : decode cX0_mixBlock 239 = .ok (.iaload, 1) := by decide +kernel
theorem dX0_mixBlock_240 : decode cX0_mixBlock 240 = .ok (.iload_n 3, 1) := by decide +kernel
theorem dX0_mixBlock_241 : decode cX0_mixBlock 241 = .ok (.iadd, 1) := by decide +kernel
theorem dX0_mixBlock_242 : decode cX0_mixBlock 242 = .ok (.iastore, 1) := by decide +kernel
theorem dX0_mixBlock_243 : decode cX0_mixBlock 243 = .ok (.aload_n 0, 1) := by decide +kernel
theorem dX0_mixBlock_244 : decode cX0_mixBlock 244 = .ok (.getfield 19, 3) := by decide +kernel
theorem dX0_mixBlock_247 : decode cX0_mixBlock 247 = .ok (.iconst 3, 1) := by decide +kernel
theorem dX0_mixBlock_248 : decode cX0_mixBlock 248 = .ok (.dup2, 1) := by decide +kernel
theorem dX0_mixBlock_249 : decode cX0_mixBlock 249 = .ok (.iaload, 1) := by decide +kernel
theorem dX0_mixBlock_250 : decode cX0_mixBlock 250 = .ok (.iload 4, 2) := by decide +kernel
theorem dX0_mixBlock_252 : decode cX0_mixBlock 252 = .ok (.iadd, 1) := by decide +kernel
theorem dX0_mixBlock_253 : decode cX0_mixBlock 253 = .ok (.iastore, 1) := by decide +kernel
theorem dX0_mixBlock_254 : decode cX0_mixBlock 254 = .ok (.aload_n 0, 1) := by decide +kernel
theorem dX0_mixBlock_255 : decode cX0_mixBlock 255 = .ok (.getfield 19, 3) := by decide +kernel
theorem dX0_mixBlock_258 : decode cX0_mixBlock 258 = .ok (.iconst 4, 1) := by decide +kernel
theorem dX0_mixBlock_259 : decode cX0_mixBlock 259 = .ok (.dup2, 1) := by decide +kernel
theorem dX0_mixBlock_260 : decode cX0_mixBlock 260 = .ok (.iaload, 1) := by decide +kernel
theorem dX0_mixBlock_261 : decode cX0_mixBlock 261 = .ok (.iload 5, 2) := by decide +kernel
theorem dX0_mixBlock_263 : decode cX0_mixBlock 263 = .ok (.iadd, 1) := by decide +kernel
theorem dX0_mixBlock_264 : decode cX0_mixBlock 264 = .ok (.iastore, 1) := by decide +kernel
theorem dX0_mixBlock_265 : decode cX0_mixBlock 265 = .ok (.aload_n 0, 1) := by decide +kernel
theorem dX0_mixBlock_266 : decode cX0_mixBlock 266 = .ok (.getfield 19, 3) := by decide +kernel
theorem dX0_mixBlock_269 : decode cX0_mixBlock 269 = .ok (.iconst 5, 1) := by decide +kernel
theorem dX0_mixBlock_270 : decode cX0_mixBlock 270 = .ok (.dup2, 1) := by decide +kernel
theorem dX0_mixBlock_271 : decode cX0_mixBlock 271 = .ok (.iaload, 1) := by decide +kernel
theorem dX0_mixBlock_272 : decode cX0_mixBlock 272 = .ok (.iload 6, 2) := by decide +kernel
theorem dX0_mixBlock_274 : decode cX0_mixBlock 274 = .ok (.iadd, 1) := by decide +kernel
theorem dX0_mixBlock_275 : decode cX0_mixBlock 275 = .ok (.iastore, 1) := by decide +kernel
theorem dX0_mixBlock_276 : decode cX0_mixBlock 276 = .ok (.aload_n 0, 1) := by decide +kernel
theorem dX0_mixBlock_277 : decode cX0_mixBlock 277 = .ok (.getfield 19, 3) := by decide +kernel
theorem dX0_mixBlock_280 : decode cX0_mixBlock 280 = .ok (.bipush 6, 2) := by decide +kernel
theorem dX0_mixBlock_282 : decode cX0_mixBlock 282 = .ok (.dup2, 1) := by decide +kernel
theorem dX0_mixBlock_283 : decode cX0_mixBlock 283 = .ok (.iaload, 1) := by decide +kernel
theorem dX0_mixBlock_284 : decode cX0_mixBlock 284 = .ok (.iload 7, 2) := by decide +kernel
theorem dX0_mixBlock_286 : decode cX0_mixBlock 286 = .ok (.iadd, 1) := by decide +kernel
theorem dX0_mixBlock_287 : decode cX0_mixBlock 287 = .ok (.iastore, 1) := by decide +kernel
theorem dX0_mixBlock_288 : decode cX0_mixBlock 288 = .ok (.aload_n 0, 1) := by decide +kernel
theorem dX0_mixBlock_289 : decode cX0_mixBlock 289 = .ok (.getfield 19, 3) := by decide +kernel
theorem dX0_mixBlock_292 : decode cX0_mixBlock 292 = .ok (.bipush 7, 2) := by decide +kernel
theorem dX0_mixBlock_294 : decode cX0_mixBlock 294 = .ok (.dup2, 1) := by decide +kernel
theorem dX0_mixBlock_295 : decode cX0_mixBlock 295 = .ok (.iaload, 1) := by decide +kernel
theorem dX0_mixBlock_296 : decode cX0_mixBlock 296 = .ok (.iload 8, 2) := by decide +kernel
theorem dX0_mixBlock_298 : decode cX0_mixBlock 298 = .ok (.iadd, 1) := by decide +kernel
theorem dX0_mixBlock_299 : decode cX0_mixBlock 299 = .ok (.iastore, 1) := by decide +kernel
theorem dX0_mixBlock_300 : decode cX0_mixBlock 300 = .ok (.return_, 1) := by decide +kernel
theorem dX0_turn_0 : decode cX0_turn 0 = .ok (.iload_n 0, 1) := by decide +kernel
theorem dX0_turn_1 : decode cX0_turn 1 = .ok (.iload_n 1, 1) := by decide +kernel
theorem dX0_turn_2 : decode cX0_turn 2 = .ok (.iushr, 1) := by decide +kernel
theorem dX0_turn_3 : decode cX0_turn 3 = .ok (.iload_n 0, 1) := by decide +kernel
theorem dX0_turn_4 : decode cX0_turn 4 = .ok (.bipush 32, 2) := by decide +kernel
theorem dX0_turn_6 : decode cX0_turn 6 = .ok (.iload_n 1, 1) := by decide +kernel
theorem dX0_turn_7 : decode cX0_turn 7 = .ok (.isub, 1) := by decide +kernel
theorem dX0_turn_8 : decode cX0_turn 8 = .ok (.ishl, 1) := by decide +kernel
theorem dX0_turn_9 : decode cX0_turn 9 = .ok (.ior, 1) := by decide +kernel
theorem dX0_turn_10 : decode cX0_turn 10 = .ok (.ireturn, 1) := by decide +kernel
theorem dX1_init_0 : decode cX1_init 0 = .ok (.aload_n 0, 1) := by decide +kernel
theorem dX1_init_1 : decode cX1_init 1 = .ok (.invokespecial 1, 3) := by decide +kernel
theorem dX1_init_4 : decode cX1_init 4 = .ok (.aload_n 0, 1) := by decide +kernel
theorem dX1_init_5 : decode cX1_init 5 = .ok (.sipush 150, 3) := by decide +kernel
theorem dX1_init_8 : decode cX1_init 8 = .ok (.newarray .byte, 2) := by decide +kernel
theorem dX1_init_10 : decode cX1_init 10 = .ok (.putfield 9, 3) := by decide +kernel
theorem dX1_init_13 : decode cX1_init 13 = .ok (.aload_n 0, 1) := by decide +kernel
theorem dX1_init_14 : decode cX1_init 14 = .ok (.bipush 100, 2) := by decide +kernel
theorem dX1_init_16 : decode cX1_init 16 = .ok (.newarray .int, 2) := by decide +kernel
theorem dX1_init_18 : decode cX1_init 18 = .ok (.putfield 13, 3) := by decide +kernel
theorem dX1_init_21 : decode cX1_init 21 = .ok (.aload_n 0, 1) := by decide +kernel
theorem dX1_init_22 : decode cX1_init 22 = .ok (.sipush 1624, 3) := by decide +kernel
theorem dX1_init_25 : decode cX1_init 25 = .ok (.newarray .int, 2) := by decide +kernel
theorem dX1_init_27 : decode cX1_init 27 = .ok (.putfield 17, 3) := by decide +kernel
theorem dX1_init_30 : decode cX1_init 30 = .ok (.aload_n 0, 1) := by decide +kernel
theorem dX1_init_31 : decode cX1_init 31 = .ok (.new 20, 3) := by decide +kernel
theorem dX1_init_34 : decode cX1_init 34 = .ok (.dup, 1) := by decide +kernel
theorem dX1_init_35 : decode cX1_init 35 = .ok (.invokespecial 22, 3) := by decide +kernel
theorem dX1_init_38 : decode cX1_init 38 = .ok (.putfield 23, 3) := by decide +kernel
theorem dX1_init_41 : decode cX1_init 41 = .ok (.aload_n 0, 1) := by decide +kernel
theorem dX1_init_42 : decode cX1_init 42 = .ok (.iconst 0, 1) := by decide +kernel
theorem dX1_init_43 : decode cX1_init 43 = .ok (.putfield 27, 3) := by decide +kernel
theorem dX1_init_46 : decode cX1_init 46 = .ok (.aload_n 0, 1) := by decide +kernel
theorem dX1_init_47 : decode cX1_init 47 = .ok (.iconst 0, 1) := by decide +kernel
theorem dX1_init_48 : decode cX1_init 48 = .ok (.putfield 31, 3) := by decide +kernel
theorem dX1_init_51 : decode cX1_init 51 = .ok (.aload_n 0, 1) := by decide +kernel
theorem dX1_init_52 : decode cX1_init 52 = .ok (.iconst 0, 1) := by decide +kernel
theorem dX1_init_53 : decode cX1_init 53 = .ok (.putfield 34, 3) := by decide +kernel
theorem dX1_init_56 : decode cX1_init 56 = .ok (.return_, 1) := by decide +kernel
theorem dX1_put_0 : decode cX1_put 0 = .ok (.iload_n 3, 1) := by decide +kernel
theorem dX1_put_1 : decode cX1_put 1 = .ok (.iconst 1, 1) := by decide +kernel
theorem dX1_put_2 : decode cX1_put 2 = .ok (.if_icmp .lt 21, 3) := by decide +kernel
theorem dX1_put_5 : decode cX1_put 5 = .ok (.iload_n 3, 1) := by decide +kernel
theorem dX1_put_6 : decode cX1_put 6 = .ok (.bipush 8, 2) := by decide +kernel
theorem dX1_put_8 : decode cX1_put 8 = .ok (.if_icmp .gt 15, 3) := by decide +kernel
theorem dX1_put_11 : decode cX1_put 11 = .ok (.aload_n 0, 1) := by decide +kernel
theorem dX1_put_12 : decode cX1_put 12 = .ok (.getfield 27, 3) := by decide +kernel
theorem dX1_put_15 : decode cX1_put 15 = .ok (.iload_n 3, 1) := by decide +kernel
theorem dX1_put_16 : decode cX1_put 16 = .ok (.iadd, 1) := by decide +kernel
theorem dX1_put_17 : decode cX1_put 17 = .ok (.sipush 150, 3) := by decide +kernel
theorem dX1_put_20 : decode cX1_put 20 = .ok (.if_icmp .le 5, 3) := by decide +kernel
theorem dX1_put_23 : decode cX1_put 23 = .ok (.iconst 0, 1) := by decide +kernel
theorem dX1_put_24 : decode cX1_put 24 = .ok (.ireturn, 1) := by decide +kernel
theorem dX1_put_25 : decode cX1_put 25 = .ok (.iconst 0, 1) := by decide +kernel
theorem dX1_put_26 : decode cX1_put 26 = .ok (.istore 4, 2) := by decide +kernel
theorem dX1_put_28 : decode cX1_put 28 = .ok (.iload 4, 2) := by decide +kernel
theorem dX1_put_30 : decode cX1_put 30 = .ok (.iload_n 3, 1) := by decide +kernel
theorem dX1_put_31 : decode cX1_put 31 = .ok (.if_icmp .ge 34, 3) := by decide +kernel
theorem dX1_put_34 : decode cX1_put 34 = .ok (.aload_n 0, 1) := by decide +kernel
theorem dX1_put_35 : decode cX1_put 35 = .ok (.getfield 9, 3) := by decide +kernel
theorem dX1_put_38 : decode cX1_put 38 = .ok (.aload_n 0, 1) := by decide +kernel
theorem dX1_put_39 : decode cX1_put 39 = .ok (.getfield 27, 3) := by decide +kernel
theorem dX1_put_42 : decode cX1_put 42 = .ok (.iload 4, 2) := by decide +kernel
theorem dX1_put_44 : decode cX1_put 44 = .ok (.iadd, 1) := by decide +kernel
theorem dX1_put_45 : decode cX1_put 45 = .ok (.lload_n 1, 1) := by decide +kernel
theorem dX1_put_46 : decode cX1_put 46 = .ok (.bipush 8, 2) := by decide +kernel
theorem dX1_put_48 : decode cX1_put 48 = .ok (.iload_n 3, 1) := by decide +kernel
theorem dX1_put_49 : decode cX1_put 49 = .ok (.iconst 1, 1) := by decide +kernel
theorem dX1_put_50 : decode cX1_put 50 = .ok (.isub, 1) := by decide +kernel
theorem dX1_put_51 : decode cX1_put 51 = .ok (.iload 4, 2) := by decide +kernel
theorem dX1_put_53 : decode cX1_put 53 = .ok (.isub, 1) := by decide +kernel
theorem dX1_put_54 : decode cX1_put 54 = .ok (.imul, 1) := by decide +kernel
theorem dX1_put_55 : decode cX1_put 55 = .ok (.lushr, 1) := by decide +kernel
theorem dX1_put_56 : decode cX1_put 56 = .ok (.l2i, 1) := by decide +kernel
theorem dX1_put_57 : decode cX1_put 57 = .ok (.i2b, 1) := by decide +kernel
theorem dX1_put_58 : decode cX1_put 58 = .ok (.bastore, 1) := by decide +kernel
theorem dX1_put_59 : decode cX1_put 59 = .ok (.iinc 4 1, 3) := by decide +kernel
theorem dX1_put_62 : decode cX1_put 62 = .ok (.goto (-34), 3) := by decide +kernel
theorem dX1_put_65 : decode cX1_put 65 = .ok (.aload_n 0, 1) := by decide +kernel
theorem dX1_put_66 : decode cX1_put 66 = .ok (.dup, 1) := by decide +kernel
theorem dX1_put_67 : decode cX1_put 67 = .ok (.getfield 27, 3) := by decide +kernel
theorem dX1_put_70 : decode cX1_put 70 = .ok (.iload_n 3, 1) := by decide +kernel
theorem dX1_put_71 : decode cX1_put 71 = .ok (.iadd, 1) := by decide +kernel
theorem dX1_put_72 : decode cX1_put 72 = .ok (.putfield 27, 3) := by decide +kernel
theorem dX1_put_75 : decode cX1_put 75 = .ok (.iconst 1, 1) := by decide +kernel
theorem dX1_put_76 : decode cX1_put 76 = .ok (.ireturn, 1) := by decide +kernel
theorem dX1_hash_0 : decode cX1_hash 0 = .ok (.aload_n 0, 1) := by decide +kernel
theorem dX1_hash_1 : decode cX1_hash 1 = .ok (.getfield 23, 3) := by decide +kernel
theorem dX1_hash_4 : decode cX1_hash 4 = .ok (.invokevirtual 37, 3) := by decide +kernel
theorem dX1_hash_7 : decode cX1_hash 7 = .ok (.aload_n 0, 1) := by decide +kernel
theorem dX1_hash_8 : decode cX1_hash 8 = .ok (.getfield 23, 3) := by decide +kernel
theorem dX1_hash_11 : decode cX1_hash 11 = .ok (.aload_n 0, 1) := by decide +kernel
theorem dX1_hash_12 : decode cX1_hash 12 = .ok (.getfield 9, 3) := by decide +kernel
theorem dX1_hash_15 : decode cX1_hash 15 = .ok (.aload_n 0, 1) := by decide +kernel
theorem dX1_hash_16 : decode cX1_hash 16 = .ok (.getfield 27, 3) := by decide +kernel
theorem dX1_hash_19 : decode cX1_hash 19 = .ok (.invokevirtual 40, 3) := by decide +kernel
theorem dX1_hash_22 : decode cX1_hash 22 = .ok (.aload_n 0, 1) := by decide +kernel
theorem dX1_hash_23 : decode cX1_hash 23 = .ok (.getfield 23, 3) := by decide +kernel
theorem dX1_hash_26 : decode cX1_hash 26 = .ok (.aload_n 0, 1) := by decide +kernel
theorem dX1_hash_27 : decode cX1_hash 27 = .ok (.getfield 17, 3) := by decide +kernel
theorem dX1_hash_30 : decode cX1_hash 30 = .ok (.sipush 1616, 3) := by decide +kernel
theorem dX1_hash_33 : decode cX1_hash 33 = .ok (.invokevirtual 44, 3) := by decide +kernel
theorem dX1_hash_36 : decode cX1_hash 36 = .ok (.aload_n 0, 1) := by decide +kernel
theorem dX1_hash_37 : decode cX1_hash 37 = .ok (.sipush 202, 3) := by decide +kernel
theorem dX1_hash_40 : decode cX1_hash 40 = .ok (.iload_n 1, 1) := by decide +kernel
theorem dX1_hash_41 : decode cX1_hash 41 = .ok (.invokevirtual 48, 3) := by decide +kernel
theorem dX1_hash_44 : decode cX1_hash 44 = .ok (.lreturn, 1) := by decide +kernel
theorem dX1_add_0 : decode cX1_add 0 = .ok (.aload_n 0, 1) := by decide +kernel
theorem dX1_add_1 : decode cX1_add 1 = .ok (.getfield 31, 3) := by decide +kernel
theorem dX1_add_4 : decode cX1_add 4 = .ok (.bipush 100, 2) := by decide +kernel
theorem dX1_add_6 : decode cX1_add 6 = .ok (.if_icmp .lt 5, 3) := by decide +kernel
theorem dX1_add_9 : decode cX1_add 9 = .ok (.iconst (-1), 1) := by decide +kernel
theorem dX1_add_10 : decode cX1_add 10 = .ok (.ireturn, 1) := by decide +kernel
theorem dX1_add_11 : decode cX1_add 11 = .ok (.aload_n 0, 1) := by decide +kernel
theorem dX1_add_12 : decode cX1_add 12 = .ok (.getfield 31, 3) := by decide +kernel
theorem dX1_add_15 : decode cX1_add 15 = .ok (.istore_n 1, 1) := by decide +kernel
theorem dX1_add_16 : decode cX1_add 16 = .ok (.aload_n 0, 1) := by decide +kernel
theorem dX1_add_17 : decode cX1_add 17 = .ok (.getfield 13, 3) := by decide +kernel
theorem dX1_add_20 : decode cX1_add 20 = .ok (.iload_n 1, 1) := by decide +kernel
theorem dX1_add_21 : decode cX1_add 21 = .ok (.iconst 0, 1) := by decide +kernel
theorem dX1_add_22 : decode cX1_add 22 = .ok (.iastore, 1) := by decide +kernel
theorem dX1_add_23 : decode cX1_add 23 = .ok (.aload_n 0, 1) := by decide +kernel
theorem dX1_add_24 : decode cX1_add 24 = .ok (.dup, 1) := by decide +kernel
theorem dX1_add_25 : decode cX1_add 25 = .ok (.getfield 31, 3) := by decide +kernel
theorem dX1_add_28 : decode cX1_add 28 = .ok (.iconst 1, 1) := by decide +kernel
theorem dX1_add_29 : decode cX1_add 29 = .ok (.iadd, 1) := by decide +kernel
theorem dX1_add_30 : decode cX1_add 30 = .ok (.putfield 31, 3) := by decide +kernel
theorem dX1_add_33 : decode cX1_add 33 = .ok (.aload_n 0, 1) := by decide +kernel
theorem dX1_add_34 : decode cX1_add 34 = .ok (.iload_n 1, 1) := by decide +kernel
theorem dX1_add_35 : decode cX1_add 35 = .ok (.invokevirtual 52, 3) := by decide +kernel
theorem dX1_add_38 : decode cX1_add 38 = .ok (.iload_n 1, 1) := by decide +kernel
theorem dX1_add_39 : decode cX1_add 39 = .ok (.ireturn, 1) := by decide +kernel
theorem dX1_change_0 : decode cX1_change 0 = .ok (.aload_n 0, 1) := by decide +kernel
theorem dX1_change_1 : decode cX1_change 1 = .ok (.iload_n 1, 1) := by decide +kernel
theorem dX1_change_2 : decode cX1_change 2 = .ok (.invokevirtual 56, 3) := by decide +kernel
theorem dX1_change_5 : decode cX1_change 5 = .ok (.ifCond .ne 5, 3) := by decide +kernel
theorem dX1_change_8 : decode cX1_change 8 = .ok (.iconst 0, 1) := by decide +kernel
theorem dX1_change_9 : decode cX1_change 9 = .ok (.ireturn, 1) := by decide +kernel
theorem dX1_change_10 : decode cX1_change 10 = .ok (.aload_n 0, 1) := by decide +kernel
theorem dX1_change_11 : decode cX1_change 11 = .ok (.iload_n 1, 1) := by decide +kernel
theorem dX1_change_12 : decode cX1_change 12 = .ok (.invokevirtual 52, 3) := by decide +kernel
theorem dX1_change_15 : decode cX1_change 15 = .ok (.iconst 1, 1) := by decide +kernel
theorem dX1_change_16 : decode cX1_change 16 = .ok (.ireturn, 1) := by decide +kernel
theorem dX1_drop_0 : decode cX1_drop 0 = .ok (.aload_n 0, 1) := by decide +kernel
theorem dX1_drop_1 : decode cX1_drop 1 = .ok (.getfield 31, 3) := by decide +kernel
theorem dX1_drop_4 : decode cX1_drop 4 = .ok (.iconst 1, 1) := by decide +kernel
theorem dX1_drop_5 : decode cX1_drop 5 = .ok (.if_icmp .ge 5, 3) := by decide +kernel
theorem dX1_drop_8 : decode cX1_drop 8 = .ok (.iconst (-1), 1) := by decide +kernel
theorem dX1_drop_9 : decode cX1_drop 9 = .ok (.ireturn, 1) := by decide +kernel
theorem dX1_drop_10 : decode cX1_drop 10 = .ok (.aload_n 0, 1) := by decide +kernel
theorem dX1_drop_11 : decode cX1_drop 11 = .ok (.dup, 1) := by decide +kernel
theorem dX1_drop_12 : decode cX1_drop 12 = .ok (.getfield 31, 3) := by decide +kernel
theorem dX1_drop_15 : decode cX1_drop 15 = .ok (.iconst 1, 1) := by decide +kernel
theorem dX1_drop_16 : decode cX1_drop 16 = .ok (.isub, 1) := by decide +kernel
theorem dX1_drop_17 : decode cX1_drop 17 = .ok (.putfield 31, 3) := by decide +kernel
theorem dX1_drop_20 : decode cX1_drop 20 = .ok (.aload_n 0, 1) := by decide +kernel
theorem dX1_drop_21 : decode cX1_drop 21 = .ok (.dup, 1) := by decide +kernel
theorem dX1_drop_22 : decode cX1_drop 22 = .ok (.getfield 34, 3) := by decide +kernel
theorem dX1_drop_25 : decode cX1_drop 25 = .ok (.aload_n 0, 1) := by decide +kernel
theorem dX1_drop_26 : decode cX1_drop 26 = .ok (.getfield 13, 3) := by decide +kernel
theorem dX1_drop_29 : decode cX1_drop 29 = .ok (.aload_n 0, 1) := by decide +kernel
theorem dX1_drop_30 : decode cX1_drop 30 = .ok (.getfield 31, 3) := by decide +kernel
theorem dX1_drop_33 : decode cX1_drop 33 = .ok (.iaload, 1) := by decide +kernel
theorem dX1_drop_34 : decode cX1_drop 34 = .ok (.isub, 1) := by decide +kernel
theorem dX1_drop_35 : decode cX1_drop 35 = .ok (.putfield 34, 3) := by decide +kernel
theorem dX1_drop_38 : decode cX1_drop 38 = .ok (.aload_n 0, 1) := by decide +kernel
theorem dX1_drop_39 : decode cX1_drop 39 = .ok (.getfield 31, 3) := by decide +kernel
theorem dX1_drop_42 : decode cX1_drop 42 = .ok (.ifCond .le 13, 3) := by decide +kernel
theorem dX1_drop_45 : decode cX1_drop 45 = .ok (.aload_n 0, 1) := by decide +kernel
theorem dX1_drop_46 : decode cX1_drop 46 = .ok (.aload_n 0, 1) := by decide +kernel
theorem dX1_drop_47 : decode cX1_drop 47 = .ok (.getfield 31, 3) := by decide +kernel
theorem dX1_drop_50 : decode cX1_drop 50 = .ok (.iconst 1, 1) := by decide +kernel
theorem dX1_drop_51 : decode cX1_drop 51 = .ok (.isub, 1) := by decide +kernel
theorem dX1_drop_52 : decode cX1_drop 52 = .ok (.invokevirtual 60, 3) := by decide +kernel
theorem dX1_drop_55 : decode cX1_drop 55 = .ok (.aload_n 0, 1) := by decide +kernel
theorem dX1_drop_56 : decode cX1_drop 56 = .ok (.getfield 31, 3) := by decide +kernel
theorem dX1_drop_59 : decode cX1_drop 59 = .ok (.ireturn, 1) := by decide +kernel
theorem dX1_root_0 : decode cX1_root 0 = .ok (.aload_n 0, 1) := by decide +kernel
theorem dX1_root_1 : decode cX1_root 1 = .ok (.getfield 31, 3) := by decide +kernel
theorem dX1_root_4 : decode cX1_root 4 = .ok (.iconst 1, 1) := by decide +kernel
theorem dX1_root_5 : decode cX1_root 5 = .ok (.if_icmp .ge 5, 3) := by decide +kernel
theorem dX1_root_8 : decode cX1_root 8 = .ok (.lconst 0, 1) := by decide +kernel
theorem dX1_root_9 : decode cX1_root 9 = .ok (.lreturn, 1) := by decide +kernel
theorem dX1_root_10 : decode cX1_root 10 = .ok (.aload_n 0, 1) := by decide +kernel
theorem dX1_root_11 : decode cX1_root 11 = .ok (.getstatic 63, 3) := by decide +kernel
theorem dX1_root_14 : decode cX1_root 14 = .ok (.aload_n 0, 1) := by decide +kernel
theorem dX1_root_15 : decode cX1_root 15 = .ok (.invokevirtual 66, 3) := by decide +kernel
theorem dX1_root_18 : decode cX1_root 18 = .ok (.iaload, 1) := by decide +kernel
theorem dX1_root_19 : decode cX1_root 19 = .ok (.iload_n 1, 1) := by decide +kernel
theorem dX1_root_20 : decode cX1_root 20 = .ok (.invokevirtual 48, 3) := by decide +kernel
theorem dX1_root_23 : decode cX1_root 23 = .ok (.lreturn, 1) := by decide +kernel
theorem dX1_way_0 : decode cX1_way 0 = .ok (.aload_n 0, 1) := by decide +kernel
theorem dX1_way_1 : decode cX1_way 1 = .ok (.iload_n 1, 1) := by decide +kernel
theorem dX1_way_2 : decode cX1_way 2 = .ok (.invokevirtual 56, 3) := by decide +kernel
theorem dX1_way_5 : decode cX1_way 5 = .ok (.ifCond .ne 5, 3) := by decide +kernel
theorem dX1_way_8 : decode cX1_way 8 = .ok (.iconst (-1), 1) := by decide +kernel
theorem dX1_way_9 : decode cX1_way 9 = .ok (.ireturn, 1) := by decide +kernel
theorem dX1_way_10 : decode cX1_way 10 = .ok (.iconst 0, 1) := by decide +kernel
theorem dX1_way_11 : decode cX1_way 11 = .ok (.istore_n 2, 1) := by decide +kernel
theorem dX1_way_12 : decode cX1_way 12 = .ok (.iload_n 2, 1) := by decide +kernel
theorem dX1_way_13 : decode cX1_way 13 = .ok (.bipush 8, 2) := by decide +kernel
theorem dX1_way_15 : decode cX1_way 15 = .ok (.if_icmp .ge 18, 3) := by decide +kernel
theorem dX1_way_18 : decode cX1_way 18 = .ok (.aload_n 0, 1) := by decide +kernel
theorem dX1_way_19 : decode cX1_way 19 = .ok (.iload_n 1, 1) := by decide +kernel
theorem dX1_way_20 : decode cX1_way 20 = .ok (.iload_n 2, 1) := by decide +kernel
theorem dX1_way_21 : decode cX1_way 21 = .ok (.invokevirtual 70, 3) := by decide +kernel
theorem dX1_way_24 : decode cX1_way 24 = .ok (.ifCond .lt 9, 3) := by decide +kernel
theorem dX1_way_27 : decode cX1_way 27 = .ok (.iinc 2 1, 3) := by decide +kernel
theorem dX1_way_30 : decode cX1_way 30 = .ok (.goto (-18), 3) := by decide +kernel
theorem dX1_way_33 : decode cX1_way 33 = .ok (.iload_n 2, 1) := by decide +kernel
theorem dX1_way_34 : decode cX1_way 34 = .ok (.ireturn, 1) := by decide +kernel
theorem dX1_beside_0 : decode cX1_beside 0 = .ok (.aload_n 0, 1) := by decide +kernel
theorem dX1_beside_1 : decode cX1_beside 1 = .ok (.iload_n 1, 1) := by decide +kernel
theorem dX1_beside_2 : decode cX1_beside 2 = .ok (.iload_n 2, 1) := by decide +kernel
theorem dX1_beside_3 : decode cX1_beside 3 = .ok (.invokevirtual 70, 3) := by decide +kernel
theorem dX1_beside_6 : decode cX1_beside 6 = .ok (.istore 4, 2) := by decide +kernel
theorem dX1_beside_8 : decode cX1_beside 8 = .ok (.iload 4, 2) := by decide +kernel
theorem dX1_beside_10 : decode cX1_beside 10 = .ok (.ifCond .ge 5, 3) := by decide +kernel
theorem dX1_beside_13 : decode cX1_beside 13 = .ok (.lconst 0, 1) := by decide +kernel
theorem dX1_beside_14 : decode cX1_beside 14 = .ok (.lreturn, 1) := by decide +kernel
theorem dX1_beside_15 : decode cX1_beside 15 = .ok (.aload_n 0, 1) := by decide +kernel
theorem dX1_beside_16 : decode cX1_beside 16 = .ok (.iload 4, 2) := by decide +kernel
theorem dX1_beside_18 : decode cX1_beside 18 = .ok (.iload_n 1, 1) := by decide +kernel
theorem dX1_beside_19 : decode cX1_beside 19 = .ok (.iload 4, 2) := by decide +kernel
theorem dX1_beside_21 : decode cX1_beside 21 = .ok (.ishr, 1) := by decide +kernel
theorem dX1_beside_22 : decode cX1_beside 22 = .ok (.invokestatic 74, 3) := by decide +kernel
theorem dX1_beside_25 : decode cX1_beside 25 = .ok (.iload_n 3, 1) := by decide +kernel
theorem dX1_beside_26 : decode cX1_beside 26 = .ok (.invokevirtual 48, 3) := by decide +kernel
theorem dX1_beside_29 : decode cX1_beside 29 = .ok (.lreturn, 1) := by decide +kernel
theorem dX1_isLeft_0 : decode cX1_isLeft 0 = .ok (.aload_n 0, 1) := by decide +kernel
theorem dX1_isLeft_1 : decode cX1_isLeft 1 = .ok (.iload_n 1, 1) := by decide +kernel
theorem dX1_isLeft_2 : decode cX1_isLeft 2 = .ok (.iload_n 2, 1) := by decide +kernel
theorem dX1_isLeft_3 : decode cX1_isLeft 3 = .ok (.invokevirtual 70, 3) := by decide +kernel
theorem dX1_isLeft_6 : decode cX1_isLeft 6 = .ok (.istore_n 3, 1) := by decide +kernel
theorem dX1_isLeft_7 : decode cX1_isLeft 7 = .ok (.iload_n 3, 1) := by decide +kernel
theorem dX1_isLeft_8 : decode cX1_isLeft 8 = .ok (.ifCond .ge 5, 3) := by decide +kernel
theorem dX1_isLeft_11 : decode cX1_isLeft 11 = .ok (.iconst (-1), 1) := by decide +kernel
theorem dX1_isLeft_12 : decode cX1_isLeft 12 = .ok (.ireturn, 1) := by decide +kernel
theorem dX1_isLeft_13 : decode cX1_isLeft 13 = .ok (.iload_n 1, 1) := by decide +kernel
theorem dX1_isLeft_14 : decode cX1_isLeft 14 = .ok (.iload_n 3, 1) := by decide +kernel
theorem dX1_isLeft_15 : decode cX1_isLeft 15 = .ok (.ishr, 1) := by decide +kernel
theorem dX1_isLeft_16 : decode cX1_isLeft 16 = .ok (.iconst 1, 1) := by decide +kernel
theorem dX1_isLeft_17 : decode cX1_isLeft 17 = .ok (.iand, 1) := by decide +kernel
theorem dX1_isLeft_18 : decode cX1_isLeft 18 = .ok (.ireturn, 1) := by decide +kernel
theorem dX1_proves_0 : decode cX1_proves 0 = .ok (.aload_n 0, 1) := by decide +kernel
theorem dX1_proves_1 : decode cX1_proves 1 = .ok (.iload_n 1, 1) := by decide +kernel
theorem dX1_proves_2 : decode cX1_proves 2 = .ok (.invokevirtual 56, 3) := by decide +kernel
theorem dX1_proves_5 : decode cX1_proves 5 = .ok (.ifCond .ne 5, 3) := by decide +kernel
theorem dX1_proves_8 : decode cX1_proves 8 = .ok (.iconst (-1), 1) := by decide +kernel
theorem dX1_proves_9 : decode cX1_proves 9 = .ok (.ireturn, 1) := by decide +kernel
theorem dX1_proves_10 : decode cX1_proves 10 = .ok (.aload_n 0, 1) := by decide +kernel
theorem dX1_proves_11 : decode cX1_proves 11 = .ok (.sipush 202, 3) := by decide +kernel
theorem dX1_proves_14 : decode cX1_proves 14 = .ok (.invokevirtual 77, 3) := by decide +kernel
theorem dX1_proves_17 : decode cX1_proves 17 = .ok (.aload_n 0, 1) := by decide +kernel
theorem dX1_proves_18 : decode cX1_proves 18 = .ok (.getfield 31, 3) := by decide +kernel
theorem dX1_proves_21 : decode cX1_proves 21 = .ok (.istore_n 2, 1) := by decide +kernel
theorem dX1_proves_22 : decode cX1_proves 22 = .ok (.iconst 0, 1) := by decide +kernel
theorem dX1_proves_23 : decode cX1_proves 23 = .ok (.istore_n 3, 1) := by decide +kernel
theorem dX1_proves_24 : decode cX1_proves 24 = .ok (.iload_n 3, 1) := by decide +kernel
theorem dX1_proves_25 : decode cX1_proves 25 = .ok (.bipush 8, 2) := by decide +kernel
theorem dX1_proves_27 : decode cX1_proves 27 = .ok (.if_icmp .ge 84, 3) := by decide +kernel
theorem dX1_proves_30 : decode cX1_proves 30 = .ok (.iload_n 1, 1) := by decide +kernel
theorem dX1_proves_31 : decode cX1_proves 31 = .ok (.iload_n 3, 1) := by decide +kernel
theorem dX1_proves_32 : decode cX1_proves 32 = .ok (.ishr, 1) := by decide +kernel
theorem dX1_proves_33 : decode cX1_proves 33 = .ok (.istore 4, 2) := by decide +kernel
theorem dX1_proves_35 : decode cX1_proves 35 = .ok (.iload 4, 2) := by decide +kernel
theorem dX1_proves_37 : decode cX1_proves 37 = .ok (.iload_n 2, 1) := by decide +kernel
theorem dX1_proves_38 : decode cX1_proves 38 = .ok (.invokestatic 80, 3) := by decide +kernel
theorem dX1_proves_41 : decode cX1_proves 41 = .ok (.ifCond .eq 59, 3) := by decide +kernel
theorem dX1_proves_44 : decode cX1_proves 44 = .ok (.iload_n 3, 1) := by decide +kernel
theorem dX1_proves_45 : decode cX1_proves 45 = .ok (.iload 4, 2) := by decide +kernel
theorem dX1_proves_47 : decode cX1_proves 47 = .ok (.invokestatic 74, 3) := by decide +kernel
theorem dX1_proves_50 : decode cX1_proves 50 = .ok (.istore 5, 2) := by decide +kernel
theorem dX1_proves_52 : decode cX1_proves 52 = .ok (.iload 4, 2) := by decide +kernel
theorem dX1_proves_54 : decode cX1_proves 54 = .ok (.iconst 1, 1) := by decide +kernel
theorem dX1_proves_55 : decode cX1_proves 55 = .ok (.iand, 1) := by decide +kernel
theorem dX1_proves_56 : decode cX1_proves 56 = .ok (.iconst 1, 1) := by decide +kernel
theorem dX1_proves_57 : decode cX1_proves 57 = .ok (.if_icmp .ne 7, 3) := by decide +kernel
theorem dX1_proves_60 : decode cX1_proves 60 = .ok (.iconst 1, 1) := by decide +kernel
theorem dX1_proves_61 : decode cX1_proves 61 = .ok (.goto 4, 3) := by decide +kernel
theorem dX1_proves_64 : decode cX1_proves 64 = .ok (.iconst 0, 1) := by decide +kernel
theorem dX1_proves_65 : decode cX1_proves 65 = .ok (.istore 6, 2) := by decide +kernel
theorem dX1_proves_67 : decode cX1_proves 67 = .ok (.aload_n 0, 1) := by decide +kernel
theorem dX1_proves_68 : decode cX1_proves 68 = .ok (.iload 6, 2) := by decide +kernel
theorem dX1_proves_70 : decode cX1_proves 70 = .ok (.ifCond .eq 8, 3) := by decide +kernel
theorem dX1_proves_73 : decode cX1_proves 73 = .ok (.iload 5, 2) := by decide +kernel
theorem dX1_proves_75 : decode cX1_proves 75 = .ok (.goto 6, 3) := by decide +kernel
theorem dX1_proves_78 : decode cX1_proves 78 = .ok (.sipush 202, 3) := by decide +kernel
theorem dX1_proves_81 : decode cX1_proves 81 = .ok (.iload 6, 2) := by decide +kernel
theorem dX1_proves_83 : decode cX1_proves 83 = .ok (.ifCond .eq 9, 3) := by decide +kernel
theorem dX1_proves_86 : decode cX1_proves 86 = .ok (.sipush 202, 3) := by decide +kernel
theorem dX1_proves_89 : decode cX1_proves 89 = .ok (.goto 5, 3) := by decide +kernel
theorem dX1_proves_92 : decode cX1_proves 92 = .ok (.iload 5, 2) := by decide +kernel
theorem dX1_proves_94 : decode cX1_proves 94 = .ok (.sipush 202, 3) := by decide +kernel
theorem dX1_proves_97 : decode cX1_proves 97 = .ok (.invokevirtual 84, 3) := by decide +kernel
theorem dX1_proves_100 : decode cX1_proves 100 = .ok (.iload_n 2, 1) := by decide +kernel
theorem dX1_proves_101 : decode cX1_proves 101 = .ok (.invokestatic 88, 3) := by decide +kernel
theorem dX1_proves_104 : decode cX1_proves 104 = .ok (.istore_n 2, 1) := by decide +kernel
theorem dX1_proves_105 : decode cX1_proves 105 = .ok (.iinc 3 1, 3) := by decide +kernel
theorem dX1_proves_108 : decode cX1_proves 108 = .ok (.goto (-84), 3) := by decide +kernel
theorem dX1_proves_111 : decode cX1_proves 111 = .ok (.aload_n 0, 1) := by decide +kernel
theorem dX1_proves_112 : decode cX1_proves 112 = .ok (.sipush 202, 3) := by decide +kernel
theorem dX1_proves_115 : decode cX1_proves 115 = .ok (.getstatic 63, 3) := by decide +kernel
theorem dX1_proves_118 : decode cX1_proves 118 = .ok (.aload_n 0, 1) := by decide +kernel
theorem dX1_proves_119 : decode cX1_proves 119 = .ok (.invokevirtual 66, 3) := by decide +kernel
theorem dX1_proves_122 : decode cX1_proves 122 = .ok (.iaload, 1) := by decide +kernel
theorem dX1_proves_123 : decode cX1_proves 123 = .ok (.invokevirtual 92, 3) := by decide +kernel
theorem dX1_proves_126 : decode cX1_proves 126 = .ok (.ifCond .eq 7, 3) := by decide +kernel
theorem dX1_proves_129 : decode cX1_proves 129 = .ok (.iconst 1, 1) := by decide +kernel
theorem dX1_proves_130 : decode cX1_proves 130 = .ok (.goto 4, 3) := by decide +kernel
theorem dX1_proves_133 : decode cX1_proves 133 = .ok (.iconst 0, 1) := by decide +kernel
theorem dX1_proves_134 : decode cX1_proves 134 = .ok (.ireturn, 1) := by decide +kernel
theorem dX1_count_0 : decode cX1_count 0 = .ok (.iload_n 1, 1) := by decide +kernel
theorem dX1_count_1 : decode cX1_count 1 = .ok (.tableswitch 65 0 3 #[31, 36, 41, 60], 31) := by decide +kernel
theorem dX1_count_32 : decode cX1_count 32 = .ok (.aload_n 0, 1) := by decide +kernel
theorem dX1_count_33 : decode cX1_count 33 = .ok (.getfield 27, 3) := by decide +kernel
theorem dX1_count_36 : decode cX1_count 36 = .ok (.ireturn, 1) := by decide +kernel
theorem dX1_count_37 : decode cX1_count 37 = .ok (.aload_n 0, 1) := by decide +kernel
theorem dX1_count_38 : decode cX1_count 38 = .ok (.getfield 31, 3) := by decide +kernel
theorem dX1_count_41 : decode cX1_count 41 = .ok (.ireturn, 1) := by decide +kernel
theorem dX1_count_42 : decode cX1_count 42 = .ok (.aload_n 0, 1) := by decide +kernel
theorem dX1_count_43 : decode cX1_count 43 = .ok (.getfield 31, 3) := by decide +kernel
theorem dX1_count_46 : decode cX1_count 46 = .ok (.iconst 1, 1) := by decide +kernel
theorem dX1_count_47 : decode cX1_count 47 = .ok (.if_icmp .ge 7, 3) := by decide +kernel
theorem dX1_count_50 : decode cX1_count 50 = .ok (.iconst 0, 1) := by decide +kernel
theorem dX1_count_51 : decode cX1_count 51 = .ok (.goto 9, 3) := by decide +kernel
theorem dX1_count_54 : decode cX1_count 54 = .ok (.aload_n 0, 1) := by decide +kernel
theorem dX1_count_55 : decode cX1_count 55 = .ok (.invokevirtual 66, 3) := by decide +kernel
theorem dX1_count_58 : decode cX1_count 58 = .ok (.iconst 1, 1) := by decide +kernel
theorem dX1_count_59 : decode cX1_count 59 = .ok (.iadd, 1) := by decide +kernel
theorem dX1_count_60 : decode cX1_count 60 = .ok (.ireturn, 1) := by decide +kernel
theorem dX1_count_61 : decode cX1_count 61 = .ok (.aload_n 0, 1) := by decide +kernel
theorem dX1_count_62 : decode cX1_count 62 = .ok (.getfield 34, 3) := by decide +kernel
theorem dX1_count_65 : decode cX1_count 65 = .ok (.ireturn, 1) := by decide +kernel
theorem dX1_count_66 : decode cX1_count 66 = .ok (.iconst (-1), 1) := by decide +kernel
theorem dX1_count_67 : decode cX1_count 67 = .ok (.ireturn, 1) := by decide +kernel
theorem dX1_isLeaf_0 : decode cX1_isLeaf 0 = .ok (.iload_n 1, 1) := by decide +kernel
theorem dX1_isLeaf_1 : decode cX1_isLeaf 1 = .ok (.ifCond .lt 15, 3) := by decide +kernel
theorem dX1_isLeaf_4 : decode cX1_isLeaf 4 = .ok (.iload_n 1, 1) := by decide +kernel
theorem dX1_isLeaf_5 : decode cX1_isLeaf 5 = .ok (.aload_n 0, 1) := by decide +kernel
theorem dX1_isLeaf_6 : decode cX1_isLeaf 6 = .ok (.getfield 31, 3) := by decide +kernel
theorem dX1_isLeaf_9 : decode cX1_isLeaf 9 = .ok (.if_icmp .ge 7, 3) := by decide +kernel
theorem dX1_isLeaf_12 : decode cX1_isLeaf 12 = .ok (.iconst 1, 1) := by decide +kernel
theorem dX1_isLeaf_13 : decode cX1_isLeaf 13 = .ok (.goto 4, 3) := by decide +kernel
theorem dX1_isLeaf_16 : decode cX1_isLeaf 16 = .ok (.iconst 0, 1) := by decide +kernel
theorem dX1_isLeaf_17 : decode cX1_isLeaf 17 = .ok (.ireturn, 1) := by decide +kernel
theorem dX1_moveTapeTo_0 : decode cX1_moveTapeTo 0 = .ok (.aload_n 0, 1) := by decide +kernel
theorem dX1_moveTapeTo_1 : decode cX1_moveTapeTo 1 = .ok (.iload_n 1, 1) := by decide +kernel
theorem dX1_moveTapeTo_2 : decode cX1_moveTapeTo 2 = .ok (.invokevirtual 77, 3) := by decide +kernel
theorem dX1_moveTapeTo_5 : decode cX1_moveTapeTo 5 = .ok (.aload_n 0, 1) := by decide +kernel
theorem dX1_moveTapeTo_6 : decode cX1_moveTapeTo 6 = .ok (.dup, 1) := by decide +kernel
theorem dX1_moveTapeTo_7 : decode cX1_moveTapeTo 7 = .ok (.getfield 34, 3) := by decide +kernel
theorem dX1_moveTapeTo_10 : decode cX1_moveTapeTo 10 = .ok (.aload_n 0, 1) := by decide +kernel
theorem dX1_moveTapeTo_11 : decode cX1_moveTapeTo 11 = .ok (.getfield 27, 3) := by decide +kernel
theorem dX1_moveTapeTo_14 : decode cX1_moveTapeTo 14 = .ok (.aload_n 0, 1) := by decide +kernel
theorem dX1_moveTapeTo_15 : decode cX1_moveTapeTo 15 = .ok (.getfield 13, 3) := by decide +kernel
theorem dX1_moveTapeTo_18 : decode cX1_moveTapeTo 18 = .ok (.iload_n 1, 1) := by decide +kernel
theorem dX1_moveTapeTo_19 : decode cX1_moveTapeTo 19 = .ok (.iaload, 1) := by decide +kernel
theorem dX1_moveTapeTo_20 : decode cX1_moveTapeTo 20 = .ok (.isub, 1) := by decide +kernel
theorem dX1_moveTapeTo_21 : decode cX1_moveTapeTo 21 = .ok (.iadd, 1) := by decide +kernel
theorem dX1_moveTapeTo_22 : decode cX1_moveTapeTo 22 = .ok (.putfield 34, 3) := by decide +kernel
theorem dX1_moveTapeTo_25 : decode cX1_moveTapeTo 25 = .ok (.aload_n 0, 1) := by decide +kernel
theorem dX1_moveTapeTo_26 : decode cX1_moveTapeTo 26 = .ok (.getfield 13, 3) := by decide +kernel
theorem dX1_moveTapeTo_29 : decode cX1_moveTapeTo 29 = .ok (.iload_n 1, 1) := by decide +kernel
theorem dX1_moveTapeTo_30 : decode cX1_moveTapeTo 30 = .ok (.aload_n 0, 1) := by decide +kernel
theorem dX1_moveTapeTo_31 : decode cX1_moveTapeTo 31 = .ok (.getfield 27, 3) := by decide +kernel
theorem dX1_moveTapeTo_34 : decode cX1_moveTapeTo 34 = .ok (.iastore, 1) := by decide +kernel
theorem dX1_moveTapeTo_35 : decode cX1_moveTapeTo 35 = .ok (.aload_n 0, 1) := by decide +kernel
theorem dX1_moveTapeTo_36 : decode cX1_moveTapeTo 36 = .ok (.iconst 0, 1) := by decide +kernel
theorem dX1_moveTapeTo_37 : decode cX1_moveTapeTo 37 = .ok (.putfield 27, 3) := by decide +kernel
theorem dX1_moveTapeTo_40 : decode cX1_moveTapeTo 40 = .ok (.aload_n 0, 1) := by decide +kernel
theorem dX1_moveTapeTo_41 : decode cX1_moveTapeTo 41 = .ok (.iload_n 1, 1) := by decide +kernel
theorem dX1_moveTapeTo_42 : decode cX1_moveTapeTo 42 = .ok (.invokevirtual 60, 3) := by decide +kernel
theorem dX1_moveTapeTo_45 : decode cX1_moveTapeTo 45 = .ok (.return_, 1) := by decide +kernel
theorem dX1_makeLeafId_0 : decode cX1_makeLeafId 0 = .ok (.aload_n 0, 1) := by decide +kernel
theorem dX1_makeLeafId_1 : decode cX1_makeLeafId 1 = .ok (.getfield 23, 3) := by decide +kernel
theorem dX1_makeLeafId_4 : decode cX1_makeLeafId 4 = .ok (.invokevirtual 37, 3) := by decide +kernel
theorem dX1_makeLeafId_7 : decode cX1_makeLeafId 7 = .ok (.aload_n 0, 1) := by decide +kernel
theorem dX1_makeLeafId_8 : decode cX1_makeLeafId 8 = .ok (.getfield 23, 3) := by decide +kernel
theorem dX1_makeLeafId_11 : decode cX1_makeLeafId 11 = .ok (.iconst 0, 1) := by decide +kernel
theorem dX1_makeLeafId_12 : decode cX1_makeLeafId 12 = .ok (.invokevirtual 95, 3) := by decide +kernel
theorem dX1_makeLeafId_15 : decode cX1_makeLeafId 15 = .ok (.aload_n 0, 1) := by decide +kernel
theorem dX1_makeLeafId_16 : decode cX1_makeLeafId 16 = .ok (.getfield 23, 3) := by decide +kernel
theorem dX1_makeLeafId_19 : decode cX1_makeLeafId 19 = .ok (.aload_n 0, 1) := by decide +kernel
theorem dX1_makeLeafId_20 : decode cX1_makeLeafId 20 = .ok (.getfield 9, 3) := by decide +kernel
theorem dX1_makeLeafId_23 : decode cX1_makeLeafId 23 = .ok (.aload_n 0, 1) := by decide +kernel
theorem dX1_makeLeafId_24 : decode cX1_makeLeafId 24 = .ok (.getfield 27, 3) := by decide +kernel
theorem dX1_makeLeafId_27 : decode cX1_makeLeafId 27 = .ok (.invokevirtual 40, 3) := by decide +kernel
theorem dX1_makeLeafId_30 : decode cX1_makeLeafId 30 = .ok (.aload_n 0, 1) := by decide +kernel
theorem dX1_makeLeafId_31 : decode cX1_makeLeafId 31 = .ok (.getfield 23, 3) := by decide +kernel
theorem dX1_makeLeafId_34 : decode cX1_makeLeafId 34 = .ok (.aload_n 0, 1) := by decide +kernel
theorem dX1_makeLeafId_35 : decode cX1_makeLeafId 35 = .ok (.getfield 17, 3) := by decide +kernel
theorem dX1_makeLeafId_38 : decode cX1_makeLeafId 38 = .ok (.iload_n 1, 1) := by decide +kernel
theorem dX1_makeLeafId_39 : decode cX1_makeLeafId 39 = .ok (.bipush 8, 2) := by decide +kernel
theorem dX1_makeLeafId_41 : decode cX1_makeLeafId 41 = .ok (.imul, 1) := by decide +kernel
theorem dX1_makeLeafId_42 : decode cX1_makeLeafId 42 = .ok (.invokevirtual 44, 3) := by decide +kernel
theorem dX1_makeLeafId_45 : decode cX1_makeLeafId 45 = .ok (.return_, 1) := by decide +kernel
theorem dX1_join_0 : decode cX1_join 0 = .ok (.aload_n 0, 1) := by decide +kernel
theorem dX1_join_1 : decode cX1_join 1 = .ok (.getfield 23, 3) := by decide +kernel
theorem dX1_join_4 : decode cX1_join 4 = .ok (.invokevirtual 37, 3) := by decide +kernel
theorem dX1_join_7 : decode cX1_join 7 = .ok (.aload_n 0, 1) := by decide +kernel
theorem dX1_join_8 : decode cX1_join 8 = .ok (.getfield 23, 3) := by decide +kernel
theorem dX1_join_11 : decode cX1_join 11 = .ok (.iconst 1, 1) := by decide +kernel
theorem dX1_join_12 : decode cX1_join 12 = .ok (.invokevirtual 95, 3) := by decide +kernel
theorem dX1_join_15 : decode cX1_join 15 = .ok (.aload_n 0, 1) := by decide +kernel
theorem dX1_join_16 : decode cX1_join 16 = .ok (.getfield 23, 3) := by decide +kernel
theorem dX1_join_19 : decode cX1_join 19 = .ok (.aload_n 0, 1) := by decide +kernel
theorem dX1_join_20 : decode cX1_join 20 = .ok (.getfield 17, 3) := by decide +kernel
theorem dX1_join_23 : decode cX1_join 23 = .ok (.iload_n 1, 1) := by decide +kernel
theorem dX1_join_24 : decode cX1_join 24 = .ok (.bipush 8, 2) := by decide +kernel
theorem dX1_join_26 : decode cX1_join 26 = .ok (.imul, 1) := by decide +kernel
theorem dX1_join_27 : decode cX1_join 27 = .ok (.invokevirtual 98, 3) := by decide +kernel
theorem dX1_join_30 : decode cX1_join 30 = .ok (.aload_n 0, 1) := by decide +kernel
theorem dX1_join_31 : decode cX1_join 31 = .ok (.getfield 23, 3) := by decide +kernel
theorem dX1_join_34 : decode cX1_join 34 = .ok (.aload_n 0, 1) := by decide +kernel
theorem dX1_join_35 : decode cX1_join 35 = .ok (.getfield 17, 3) := by decide +kernel
theorem dX1_join_38 : decode cX1_join 38 = .ok (.iload_n 2, 1) := by decide +kernel
theorem dX1_join_39 : decode cX1_join 39 = .ok (.bipush 8, 2) := by decide +kernel
theorem dX1_join_41 : decode cX1_join 41 = .ok (.imul, 1) := by decide +kernel
theorem dX1_join_42 : decode cX1_join 42 = .ok (.invokevirtual 98, 3) := by decide +kernel
theorem dX1_join_45 : decode cX1_join 45 = .ok (.aload_n 0, 1) := by decide +kernel
theorem dX1_join_46 : decode cX1_join 46 = .ok (.getfield 23, 3) := by decide +kernel
theorem dX1_join_49 : decode cX1_join 49 = .ok (.aload_n 0, 1) := by decide +kernel
theorem dX1_join_50 : decode cX1_join 50 = .ok (.getfield 17, 3) := by decide +kernel
theorem dX1_join_53 : decode cX1_join 53 = .ok (.iload_n 3, 1) := by decide +kernel
theorem dX1_join_54 : decode cX1_join 54 = .ok (.bipush 8, 2) := by decide +kernel
theorem dX1_join_56 : decode cX1_join 56 = .ok (.imul, 1) := by decide +kernel
theorem dX1_join_57 : decode cX1_join 57 = .ok (.invokevirtual 44, 3) := by decide +kernel
theorem dX1_join_60 : decode cX1_join 60 = .ok (.return_, 1) := by decide +kernel
theorem dX1_refreshAbove_0 : decode cX1_refreshAbove 0 = .ok (.aload_n 0, 1) := by decide +kernel
theorem dX1_refreshAbove_1 : decode cX1_refreshAbove 1 = .ok (.getfield 31, 3) := by decide +kernel
theorem dX1_refreshAbove_4 : decode cX1_refreshAbove 4 = .ok (.istore_n 2, 1) := by decide +kernel
theorem dX1_refreshAbove_5 : decode cX1_refreshAbove 5 = .ok (.iconst 0, 1) := by decide +kernel
theorem dX1_refreshAbove_6 : decode cX1_refreshAbove 6 = .ok (.istore_n 3, 1) := by decide +kernel
theorem dX1_refreshAbove_7 : decode cX1_refreshAbove 7 = .ok (.iload_n 3, 1) := by decide +kernel
theorem dX1_refreshAbove_8 : decode cX1_refreshAbove 8 = .ok (.iconst 1, 1) := by decide +kernel
theorem dX1_refreshAbove_9 : decode cX1_refreshAbove 9 = .ok (.iadd, 1) := by decide +kernel
theorem dX1_refreshAbove_10 : decode cX1_refreshAbove 10 = .ok (.bipush 8, 2) := by decide +kernel
theorem dX1_refreshAbove_12 : decode cX1_refreshAbove 12 = .ok (.if_icmp .ge 83, 3) := by decide +kernel
theorem dX1_refreshAbove_15 : decode cX1_refreshAbove 15 = .ok (.iload_n 2, 1) := by decide +kernel
theorem dX1_refreshAbove_16 : decode cX1_refreshAbove 16 = .ok (.iconst 1, 1) := by decide +kernel
theorem dX1_refreshAbove_17 : decode cX1_refreshAbove 17 = .ok (.if_icmp .le 78, 3) := by decide +kernel
theorem dX1_refreshAbove_20 : decode cX1_refreshAbove 20 = .ok (.iload_n 1, 1) := by decide +kernel
theorem dX1_refreshAbove_21 : decode cX1_refreshAbove 21 = .ok (.iload_n 3, 1) := by decide +kernel
theorem dX1_refreshAbove_22 : decode cX1_refreshAbove 22 = .ok (.ishr, 1) := by decide +kernel
theorem dX1_refreshAbove_23 : decode cX1_refreshAbove 23 = .ok (.istore 4, 2) := by decide +kernel
theorem dX1_refreshAbove_25 : decode cX1_refreshAbove 25 = .ok (.getstatic 63, 3) := by decide +kernel
theorem dX1_refreshAbove_28 : decode cX1_refreshAbove 28 = .ok (.iload_n 3, 1) := by decide +kernel
theorem dX1_refreshAbove_29 : decode cX1_refreshAbove 29 = .ok (.iaload, 1) := by decide +kernel
theorem dX1_refreshAbove_30 : decode cX1_refreshAbove 30 = .ok (.iload 4, 2) := by decide +kernel
theorem dX1_refreshAbove_32 : decode cX1_refreshAbove 32 = .ok (.bipush (-2), 2) := by decide +kernel
theorem dX1_refreshAbove_34 : decode cX1_refreshAbove 34 = .ok (.iand, 1) := by decide +kernel
theorem dX1_refreshAbove_35 : decode cX1_refreshAbove 35 = .ok (.iadd, 1) := by decide +kernel
theorem dX1_refreshAbove_36 : decode cX1_refreshAbove 36 = .ok (.istore 5, 2) := by decide +kernel
theorem dX1_refreshAbove_38 : decode cX1_refreshAbove 38 = .ok (.getstatic 63, 3) := by decide +kernel
theorem dX1_refreshAbove_41 : decode cX1_refreshAbove 41 = .ok (.iload_n 3, 1) := by decide +kernel
theorem dX1_refreshAbove_42 : decode cX1_refreshAbove 42 = .ok (.iconst 1, 1) := by decide +kernel
theorem dX1_refreshAbove_43 : decode cX1_refreshAbove 43 = .ok (.iadd, 1) := by decide +kernel
theorem dX1_refreshAbove_44 : decode cX1_refreshAbove 44 = .ok (.iaload, 1) := by decide +kernel
theorem dX1_refreshAbove_45 : decode cX1_refreshAbove 45 = .ok (.iload 4, 2) := by decide +kernel
theorem dX1_refreshAbove_47 : decode cX1_refreshAbove 47 = .ok (.iconst 1, 1) := by decide +kernel
theorem dX1_refreshAbove_48 : decode cX1_refreshAbove 48 = .ok (.ishr, 1) := by decide +kernel
theorem dX1_refreshAbove_49 : decode cX1_refreshAbove 49 = .ok (.iadd, 1) := by decide +kernel
theorem dX1_refreshAbove_50 : decode cX1_refreshAbove 50 = .ok (.istore 6, 2) := by decide +kernel
theorem dX1_refreshAbove_52 : decode cX1_refreshAbove 52 = .ok (.iload 4, 2) := by decide +kernel
theorem dX1_refreshAbove_54 : decode cX1_refreshAbove 54 = .ok (.iload_n 2, 1) := by decide +kernel
theorem dX1_refreshAbove_55 : decode cX1_refreshAbove 55 = .ok (.invokestatic 80, 3) := by decide +kernel
theorem dX1_refreshAbove_58 : decode cX1_refreshAbove 58 = .ok (.ifCond .eq 18, 3) := by decide +kernel
theorem dX1_refreshAbove_61 : decode cX1_refreshAbove 61 = .ok (.aload_n 0, 1) := by decide +kernel
theorem dX1_refreshAbove_62 : decode cX1_refreshAbove 62 = .ok (.iload 5, 2) := by decide +kernel
theorem dX1_refreshAbove_64 : decode cX1_refreshAbove 64 = .ok (.iload 5, 2) := by decide +kernel
theorem dX1_refreshAbove_66 : decode cX1_refreshAbove 66 = .ok (.iconst 1, 1) := by decide +kernel
theorem dX1_refreshAbove_67 : decode cX1_refreshAbove 67 = .ok (.iadd, 1) := by decide +kernel
theorem dX1_refreshAbove_68 : decode cX1_refreshAbove 68 = .ok (.iload 6, 2) := by decide +kernel
theorem dX1_refreshAbove_70 : decode cX1_refreshAbove 70 = .ok (.invokevirtual 84, 3) := by decide +kernel
theorem dX1_refreshAbove_73 : decode cX1_refreshAbove 73 = .ok (.goto 11, 3) := by decide +kernel
theorem dX1_refreshAbove_76 : decode cX1_refreshAbove 76 = .ok (.aload_n 0, 1) := by decide +kernel
theorem dX1_refreshAbove_77 : decode cX1_refreshAbove 77 = .ok (.iload 5, 2) := by decide +kernel
theorem dX1_refreshAbove_79 : decode cX1_refreshAbove 79 = .ok (.iload 6, 2) := by decide +kernel
theorem dX1_refreshAbove_81 : decode cX1_refreshAbove 81 = .ok (.invokevirtual 101, 3) := by decide +kernel
theorem dX1_refreshAbove_84 : decode cX1_refreshAbove 84 = .ok (.iload_n 2, 1) := by decide +kernel
theorem dX1_refreshAbove_85 : decode cX1_refreshAbove 85 = .ok (.invokestatic 88, 3) := by decide +kernel
theorem dX1_refreshAbove_88 : decode cX1_refreshAbove 88 = .ok (.istore_n 2, 1) := by decide +kernel
theorem dX1_refreshAbove_89 : decode cX1_refreshAbove 89 = .ok (.iinc 3 1, 3) := by decide +kernel
theorem dX1_refreshAbove_92 : decode cX1_refreshAbove 92 = .ok (.goto (-85), 3) := by decide +kernel
theorem dX1_refreshAbove_95 : decode cX1_refreshAbove 95 = .ok (.return_, 1) := by decide +kernel
theorem dX1_copyId_0 : decode cX1_copyId 0 = .ok (.iconst 0, 1) := by decide +kernel
theorem dX1_copyId_1 : decode cX1_copyId 1 = .ok (.istore_n 3, 1) := by decide +kernel
theorem dX1_copyId_2 : decode cX1_copyId 2 = .ok (.iload_n 3, 1) := by decide +kernel
theorem dX1_copyId_3 : decode cX1_copyId 3 = .ok (.bipush 8, 2) := by decide +kernel
theorem dX1_copyId_5 : decode cX1_copyId 5 = .ok (.if_icmp .ge 31, 3) := by decide +kernel
theorem dX1_copyId_8 : decode cX1_copyId 8 = .ok (.aload_n 0, 1) := by decide +kernel
theorem dX1_copyId_9 : decode cX1_copyId 9 = .ok (.getfield 17, 3) := by decide +kernel
theorem dX1_copyId_12 : decode cX1_copyId 12 = .ok (.iload_n 2, 1) := by decide +kernel
theorem dX1_copyId_13 : decode cX1_copyId 13 = .ok (.bipush 8, 2) := by decide +kernel
theorem dX1_copyId_15 : decode cX1_copyId 15 = .ok (.imul, 1) := by decide +kernel
theorem dX1_copyId_16 : decode cX1_copyId 16 = .ok (.iload_n 3, 1) := by decide +kernel
theorem dX1_copyId_17 : decode cX1_copyId 17 = .ok (.iadd, 1) := by decide +kernel
theorem dX1_copyId_18 : decode cX1_copyId 18 = .ok (.aload_n 0, 1) := by decide +kernel
theorem dX1_copyId_19 : decode cX1_copyId 19 = .ok (.getfield 17, 3) := by decide +kernel
theorem dX1_copyId_22 : decode cX1_copyId 22 = .ok (.iload_n 1, 1) := by decide +kernel
theorem dX1_copyId_23 : decode cX1_copyId 23 = .ok (.bipush 8, 2) := by decide +kernel
theorem dX1_copyId_25 : decode cX1_copyId 25 = .ok (.imul, 1) := by decide +kernel
theorem dX1_copyId_26 : decode cX1_copyId 26 = .ok (.iload_n 3, 1) := by decide +kernel
theorem dX1_copyId_27 : decode cX1_copyId 27 = .ok (.iadd, 1) := by decide +kernel
theorem dX1_copyId_28 : decode cX1_copyId 28 = .ok (.iaload, 1) := by decide +kernel
theorem dX1_copyId_29 : decode cX1_copyId 29 = .ok (.iastore, 1) := by decide +kernel
theorem dX1_copyId_30 : decode cX1_copyId 30 = .ok (.iinc 3 1, 3) := by decide +kernel
theorem dX1_copyId_33 : decode cX1_copyId 33 = .ok (.goto (-31), 3) := by decide +kernel
theorem dX1_copyId_36 : decode cX1_copyId 36 = .ok (.return_, 1) := by decide +kernel
theorem dX1_sameIds_0 : decode cX1_sameIds 0 = .ok (.iconst 0, 1) := by decide +kernel
theorem dX1_sameIds_1 : decode cX1_sameIds 1 = .ok (.istore_n 3, 1) := by decide +kernel
theorem dX1_sameIds_2 : decode cX1_sameIds 2 = .ok (.iload_n 3, 1) := by decide +kernel
theorem dX1_sameIds_3 : decode cX1_sameIds 3 = .ok (.bipush 8, 2) := by decide +kernel
theorem dX1_sameIds_5 : decode cX1_sameIds 5 = .ok (.if_icmp .ge 36, 3) := by decide +kernel
theorem dX1_sameIds_8 : decode cX1_sameIds 8 = .ok (.aload_n 0, 1) := by decide +kernel
theorem dX1_sameIds_9 : decode cX1_sameIds 9 = .ok (.getfield 17, 3) := by decide +kernel
theorem dX1_sameIds_12 : decode cX1_sameIds 12 = .ok (.iload_n 1, 1) := by decide +kernel
theorem dX1_sameIds_13 : decode cX1_sameIds 13 = .ok (.bipush 8, 2) := by decide +kernel
theorem dX1_sameIds_15 : decode cX1_sameIds 15 = .ok (.imul, 1) := by decide +kernel
theorem dX1_sameIds_16 : decode cX1_sameIds 16 = .ok (.iload_n 3, 1) := by decide +kernel
theorem dX1_sameIds_17 : decode cX1_sameIds 17 = .ok (.iadd, 1) := by decide +kernel
theorem dX1_sameIds_18 : decode cX1_sameIds 18 = .ok (.iaload, 1) := by decide +kernel
theorem dX1_sameIds_19 : decode cX1_sameIds 19 = .ok (.aload_n 0, 1) := by decide +kernel
theorem dX1_sameIds_20 : decode cX1_sameIds 20 = .ok (.getfield 17, 3) := by decide +kernel
theorem dX1_sameIds_23 : decode cX1_sameIds 23 = .ok (.iload_n 2, 1) := by decide +kernel
theorem dX1_sameIds_24 : decode cX1_sameIds 24 = .ok (.bipush 8, 2) := by decide +kernel
theorem dX1_sameIds_26 : decode cX1_sameIds 26 = .ok (.imul, 1) := by decide +kernel
theorem dX1_sameIds_27 : decode cX1_sameIds 27 = .ok (.iload_n 3, 1) := by decide +kernel
theorem dX1_sameIds_28 : decode cX1_sameIds 28 = .ok (.iadd, 1) := by decide +kernel
theorem dX1_sameIds_29 : decode cX1_sameIds 29 = .ok (.iaload, 1) := by decide +kernel
theorem dX1_sameIds_30 : decode cX1_sameIds 30 = .ok (.if_icmp .eq 5, 3) := by decide +kernel
theorem dX1_sameIds_33 : decode cX1_sameIds 33 = .ok (.iconst 0, 1) := by decide +kernel
theorem dX1_sameIds_34 : decode cX1_sameIds 34 = .ok (.ireturn, 1) := by decide +kernel
theorem dX1_sameIds_35 : decode cX1_sameIds 35 = .ok (.iinc 3 1, 3) := by decide +kernel
theorem dX1_sameIds_38 : decode cX1_sameIds 38 = .ok (.goto (-36), 3) := by decide +kernel
theorem dX1_sameIds_41 : decode cX1_sameIds 41 = .ok (.iconst 1, 1) := by decide +kernel
theorem dX1_sameIds_42 : decode cX1_sameIds 42 = .ok (.ireturn, 1) := by decide +kernel
theorem dX1_eightBytes_0 : decode cX1_eightBytes 0 = .ok (.iload_n 2, 1) := by decide +kernel
theorem dX1_eightBytes_1 : decode cX1_eightBytes 1 = .ok (.ifCond .lt 8, 3) := by decide +kernel
theorem dX1_eightBytes_4 : decode cX1_eightBytes 4 = .ok (.iload_n 2, 1) := by decide +kernel
theorem dX1_eightBytes_5 : decode cX1_eightBytes 5 = .ok (.iconst 3, 1) := by decide +kernel
theorem dX1_eightBytes_6 : decode cX1_eightBytes 6 = .ok (.if_icmp .le 5, 3) := by decide +kernel
theorem dX1_eightBytes_9 : decode cX1_eightBytes 9 = .ok (.lconst 0, 1) := by decide +kernel
theorem dX1_eightBytes_10 : decode cX1_eightBytes 10 = .ok (.lreturn, 1) := by decide +kernel
theorem dX1_eightBytes_11 : decode cX1_eightBytes 11 = .ok (.iload_n 1, 1) := by decide +kernel
theorem dX1_eightBytes_12 : decode cX1_eightBytes 12 = .ok (.bipush 8, 2) := by decide +kernel
theorem dX1_eightBytes_14 : decode cX1_eightBytes 14 = .ok (.imul, 1) := by decide +kernel
theorem dX1_eightBytes_15 : decode cX1_eightBytes 15 = .ok (.iconst 2, 1) := by decide +kernel
theorem dX1_eightBytes_16 : decode cX1_eightBytes 16 = .ok (.iload_n 2, 1) := by decide +kernel
theorem dX1_eightBytes_17 : decode cX1_eightBytes 17 = .ok (.imul, 1) := by decide +kernel
theorem dX1_eightBytes_18 : decode cX1_eightBytes 18 = .ok (.iadd, 1) := by decide +kernel
theorem dX1_eightBytes_19 : decode cX1_eightBytes 19 = .ok (.istore_n 3, 1) := by decide +kernel
theorem dX1_eightBytes_20 : decode cX1_eightBytes 20 = .ok (.aload_n 0, 1) := by decide +kernel
theorem dX1_eightBytes_21 : decode cX1_eightBytes 21 = .ok (.getfield 17, 3) := by decide +kernel
theorem dX1_eightBytes_24 : decode cX1_eightBytes 24 = .ok (.iload_n 3, 1) := by decide +kernel
theorem dX1_eightBytes_25 : decode cX1_eightBytes 25 = .ok (.iaload, 1) := by decide +kernel
theorem dX1_eightBytes_26 : decode cX1_eightBytes 26 = .ok (.i2l, 1) := by decide +kernel
theorem dX1_eightBytes_27 : decode cX1_eightBytes 27 = .ok (.bipush 32, 2) := by decide +kernel
theorem dX1_eightBytes_29 : decode cX1_eightBytes 29 = .ok (.lshl, 1) := by decide +kernel
theorem dX1_eightBytes_30 : decode cX1_eightBytes 30 = .ok (.aload_n 0, 1) := by decide +kernel
theorem dX1_eightBytes_31 : decode cX1_eightBytes 31 = .ok (.getfield 17, 3) := by decide +kernel
theorem dX1_eightBytes_34 : decode cX1_eightBytes 34 = .ok (.iload_n 3, 1) := by decide +kernel
theorem dX1_eightBytes_35 : decode cX1_eightBytes 35 = .ok (.iconst 1, 1) := by decide +kernel
theorem dX1_eightBytes_36 : decode cX1_eightBytes 36 = .ok (.iadd, 1) := by decide +kernel
theorem dX1_eightBytes_37 : decode cX1_eightBytes 37 = .ok (.iaload, 1) := by decide +kernel
theorem dX1_eightBytes_38 : decode cX1_eightBytes 38 = .ok (.i2l, 1) := by decide +kernel
theorem dX1_eightBytes_39 : decode cX1_eightBytes 39 = .ok (.ldc2_w 105, 3) := by decide +kernel
theorem dX1_eightBytes_42 : decode cX1_eightBytes 42 = .ok (.land, 1) := by decide +kernel
theorem dX1_eightBytes_43 : decode cX1_eightBytes 43 = .ok (.lor, 1) := by decide +kernel
theorem dX1_eightBytes_44 : decode cX1_eightBytes 44 = .ok (.lreturn, 1) := by decide +kernel
theorem dX1_levelOfStep_0 : decode cX1_levelOfStep 0 = .ok (.aload_n 0, 1) := by decide +kernel
theorem dX1_levelOfStep_1 : decode cX1_levelOfStep 1 = .ok (.iload_n 1, 1) := by decide +kernel
theorem dX1_levelOfStep_2 : decode cX1_levelOfStep 2 = .ok (.invokevirtual 56, 3) := by decide +kernel
theorem dX1_levelOfStep_5 : decode cX1_levelOfStep 5 = .ok (.ifCond .eq 7, 3) := by decide +kernel
theorem dX1_levelOfStep_8 : decode cX1_levelOfStep 8 = .ok (.iload_n 2, 1) := by decide +kernel
theorem dX1_levelOfStep_9 : decode cX1_levelOfStep 9 = .ok (.ifCond .ge 5, 3) := by decide +kernel
theorem dX1_levelOfStep_12 : decode cX1_levelOfStep 12 = .ok (.iconst (-1), 1) := by decide +kernel
theorem dX1_levelOfStep_13 : decode cX1_levelOfStep 13 = .ok (.ireturn, 1) := by decide +kernel
theorem dX1_levelOfStep_14 : decode cX1_levelOfStep 14 = .ok (.iconst 0, 1) := by decide +kernel
theorem dX1_levelOfStep_15 : decode cX1_levelOfStep 15 = .ok (.istore_n 3, 1) := by decide +kernel
theorem dX1_levelOfStep_16 : decode cX1_levelOfStep 16 = .ok (.aload_n 0, 1) := by decide +kernel
theorem dX1_levelOfStep_17 : decode cX1_levelOfStep 17 = .ok (.getfield 31, 3) := by decide +kernel
theorem dX1_levelOfStep_20 : decode cX1_levelOfStep 20 = .ok (.istore 4, 2) := by decide +kernel
theorem dX1_levelOfStep_22 : decode cX1_levelOfStep 22 = .ok (.iconst 0, 1) := by decide +kernel
theorem dX1_levelOfStep_23 : decode cX1_levelOfStep 23 = .ok (.istore 5, 2) := by decide +kernel
theorem dX1_levelOfStep_25 : decode cX1_levelOfStep 25 = .ok (.iload 5, 2) := by decide +kernel
theorem dX1_levelOfStep_27 : decode cX1_levelOfStep 27 = .ok (.bipush 8, 2) := by decide +kernel
theorem dX1_levelOfStep_29 : decode cX1_levelOfStep 29 = .ok (.if_icmp .ge 39, 3) := by decide +kernel
theorem dX1_levelOfStep_32 : decode cX1_levelOfStep 32 = .ok (.iload_n 1, 1) := by decide +kernel
theorem dX1_levelOfStep_33 : decode cX1_levelOfStep 33 = .ok (.iload 5, 2) := by decide +kernel
theorem dX1_levelOfStep_35 : decode cX1_levelOfStep 35 = .ok (.ishr, 1) := by decide +kernel
theorem dX1_levelOfStep_36 : decode cX1_levelOfStep 36 = .ok (.iload 4, 2) := by decide +kernel
theorem dX1_levelOfStep_38 : decode cX1_levelOfStep 38 = .ok (.invokestatic 80, 3) := by decide +kernel
theorem dX1_levelOfStep_41 : decode cX1_levelOfStep 41 = .ok (.ifCond .eq 14, 3) := by decide +kernel
theorem dX1_levelOfStep_44 : decode cX1_levelOfStep 44 = .ok (.iload_n 3, 1) := by decide +kernel
theorem dX1_levelOfStep_45 : decode cX1_levelOfStep 45 = .ok (.iload_n 2, 1) := by decide +kernel
theorem dX1_levelOfStep_46 : decode cX1_levelOfStep 46 = .ok (.if_icmp .ne 6, 3) := by decide +kernel
theorem dX1_levelOfStep_49 : decode cX1_levelOfStep 49 = .ok (.iload 5, 2) := by decide +kernel
theorem dX1_levelOfStep_51 : decode cX1_levelOfStep 51 = .ok (.ireturn, 1) := by decide +kernel
theorem dX1_levelOfStep_52 : decode cX1_levelOfStep 52 = .ok (.iinc 3 1, 3) := by decide +kernel
theorem dX1_levelOfStep_55 : decode cX1_levelOfStep 55 = .ok (.iload 4, 2) := by decide +kernel
theorem dX1_levelOfStep_57 : decode cX1_levelOfStep 57 = .ok (.invokestatic 88, 3) := by decide +kernel
theorem dX1_levelOfStep_60 : decode cX1_levelOfStep 60 = .ok (.istore 4, 2) := by decide +kernel
theorem dX1_levelOfStep_62 : decode cX1_levelOfStep 62 = .ok (.iinc 5 1, 3) := by decide +kernel
theorem dX1_levelOfStep_65 : decode cX1_levelOfStep 65 = .ok (.goto (-40), 3) := by decide +kernel
theorem dX1_levelOfStep_68 : decode cX1_levelOfStep 68 = .ok (.iconst (-1), 1) := by decide +kernel
theorem dX1_levelOfStep_69 : decode cX1_levelOfStep 69 = .ok (.ireturn, 1) := by decide +kernel
theorem dX1_rootLevel_0 : decode cX1_rootLevel 0 = .ok (.iconst 0, 1) := by decide +kernel
theorem dX1_rootLevel_1 : decode cX1_rootLevel 1 = .ok (.istore_n 1, 1) := by decide +kernel
theorem dX1_rootLevel_2 : decode cX1_rootLevel 2 = .ok (.aload_n 0, 1) := by decide +kernel
theorem dX1_rootLevel_3 : decode cX1_rootLevel 3 = .ok (.getfield 31, 3) := by decide +kernel
theorem dX1_rootLevel_6 : decode cX1_rootLevel 6 = .ok (.istore_n 2, 1) := by decide +kernel
theorem dX1_rootLevel_7 : decode cX1_rootLevel 7 = .ok (.iload_n 2, 1) := by decide +kernel
theorem dX1_rootLevel_8 : decode cX1_rootLevel 8 = .ok (.iconst 1, 1) := by decide +kernel
theorem dX1_rootLevel_9 : decode cX1_rootLevel 9 = .ok (.if_icmp .le 22, 3) := by decide +kernel
theorem dX1_rootLevel_12 : decode cX1_rootLevel 12 = .ok (.iload_n 1, 1) := by decide +kernel
theorem dX1_rootLevel_13 : decode cX1_rootLevel 13 = .ok (.iconst 1, 1) := by decide +kernel
theorem dX1_rootLevel_14 : decode cX1_rootLevel 14 = .ok (.iadd, 1) := by decide +kernel
theorem dX1_rootLevel_15 : decode cX1_rootLevel 15 = .ok (.bipush 8, 2) := by decide +kernel
theorem dX1_rootLevel_17 : decode cX1_rootLevel 17 = .ok (.if_icmp .ge 14, 3) := by decide +kernel
theorem dX1_rootLevel_20 : decode cX1_rootLevel 20 = .ok (.iload_n 2, 1) := by decide +kernel
theorem dX1_rootLevel_21 : decode cX1_rootLevel 21 = .ok (.invokestatic 88, 3) := by decide +kernel
theorem dX1_rootLevel_24 : decode cX1_rootLevel 24 = .ok (.istore_n 2, 1) := by decide +kernel
theorem dX1_rootLevel_25 : decode cX1_rootLevel 25 = .ok (.iinc 1 1, 3) := by decide +kernel
theorem dX1_rootLevel_28 : decode cX1_rootLevel 28 = .ok (.goto (-21), 3) := by decide +kernel
theorem dX1_rootLevel_31 : decode cX1_rootLevel 31 = .ok (.iload_n 1, 1) := by decide +kernel
theorem dX1_rootLevel_32 : decode cX1_rootLevel 32 = .ok (.ireturn, 1) := by decide +kernel
theorem dX1_nodeBeside_0 : decode cX1_nodeBeside 0 = .ok (.getstatic 63, 3) := by decide +kernel
theorem dX1_nodeBeside_3 : decode cX1_nodeBeside 3 = .ok (.iload_n 0, 1) := by decide +kernel
theorem dX1_nodeBeside_4 : decode cX1_nodeBeside 4 = .ok (.iaload, 1) := by decide +kernel
theorem dX1_nodeBeside_5 : decode cX1_nodeBeside 5 = .ok (.iload_n 1, 1) := by decide +kernel
theorem dX1_nodeBeside_6 : decode cX1_nodeBeside 6 = .ok (.iconst 1, 1) := by decide +kernel
theorem dX1_nodeBeside_7 : decode cX1_nodeBeside 7 = .ok (.ixor, 1) := by decide +kernel
theorem dX1_nodeBeside_8 : decode cX1_nodeBeside 8 = .ok (.iadd, 1) := by decide +kernel
theorem dX1_nodeBeside_9 : decode cX1_nodeBeside 9 = .ok (.ireturn, 1) := by decide +kernel
theorem dX1_hasOneBeside_0 : decode cX1_hasOneBeside 0 = .ok (.iload_n 0, 1) := by decide +kernel
theorem dX1_hasOneBeside_1 : decode cX1_hasOneBeside 1 = .ok (.iconst 1, 1) := by decide +kernel
theorem dX1_hasOneBeside_2 : decode cX1_hasOneBeside 2 = .ok (.ixor, 1) := by decide +kernel
theorem dX1_hasOneBeside_3 : decode cX1_hasOneBeside 3 = .ok (.iload_n 1, 1) := by decide +kernel
theorem dX1_hasOneBeside_4 : decode cX1_hasOneBeside 4 = .ok (.if_icmp .ge 7, 3) := by decide +kernel
theorem dX1_hasOneBeside_7 : decode cX1_hasOneBeside 7 = .ok (.iconst 1, 1) := by decide +kernel
theorem dX1_hasOneBeside_8 : decode cX1_hasOneBeside 8 = .ok (.goto 4, 3) := by decide +kernel
theorem dX1_hasOneBeside_11 : decode cX1_hasOneBeside 11 = .ok (.iconst 0, 1) := by decide +kernel
theorem dX1_hasOneBeside_12 : decode cX1_hasOneBeside 12 = .ok (.ireturn, 1) := by decide +kernel
theorem dX1_widthAbove_0 : decode cX1_widthAbove 0 = .ok (.iload_n 0, 1) := by decide +kernel
theorem dX1_widthAbove_1 : decode cX1_widthAbove 1 = .ok (.iconst 1, 1) := by decide +kernel
theorem dX1_widthAbove_2 : decode cX1_widthAbove 2 = .ok (.iadd, 1) := by decide +kernel
theorem dX1_widthAbove_3 : decode cX1_widthAbove 3 = .ok (.iconst 1, 1) := by decide +kernel
theorem dX1_widthAbove_4 : decode cX1_widthAbove 4 = .ok (.ishr, 1) := by decide +kernel
theorem dX1_widthAbove_5 : decode cX1_widthAbove 5 = .ok (.ireturn, 1) := by decide +kernel
end
section
/-! the rows that every method's walk uses: one world, calls inside it, loops, tables, returns -/
/-- static int tables: class, field, address, length, contents -/
abbrev zT : Type := String × String × Nat × Nat × (Nat → Int32)
def sx (zs : List zT) (A : Nat → Prop) (U : State) (H : Heap) : Prop := ∀ (k : Nat) (z : zT), zs[k]? = some z → va_Z z.1 z.2.1 "[I" (.ref z.2.2.1) A U H ∧ va_T .int z.2.2.1 z.2.2.2.1 (fun j => .int (z.2.2.2.2 j)) A U H
theorem sx.moved {zs : List zT} {A : Nat → Prop} {u U : State} {H : Heap} (hvm : u.vm.Alike U.vm) (h : sx zs A u H) : sx zs A U H := fun k z hz => ⟨(h k z hz).1.moved hvm, (h k z hz).2.moved hvm⟩
theorem sx.kept {zs : List zT} {A : Nat → Prop} {U : State} {H H1 : Heap} (h : sx zs A U H) (hq : ∀ a : Nat, a < H.size → ¬ A a → H1[a]? = H[a]?) : sx zs A U H1 := fun k z hz => ⟨(h k z hz).1.kept hq, (h k z hz).2.kept hq⟩
theorem sx.narrow {zs : List zT} {A B : Nat → Prop} {U : State} {H : Heap} (h : sx zs A U H) (hAB : ∀ q, B q → A q) : sx zs B U H := fun k z hz => ⟨(h k z hz).1.narrow hAB, (h k z hz).2.narrow hAB⟩
/-- the world at a method's start -/
def Wq (D : va_G) (cl : List vw_C) (tys : List (ClassId × FieldType)) (A : Nat → Prop) (zs : List zT) (ws : va_W) (U : State) : Prop := va_P D cl ws U.heap ∧ va_K D cl tys U ∧ va_D A ws ∧ sx zs A U U.heap
/-- the world at its end -/
def Qw {S : Type} (D : va_G) (cl : List vw_C) (tys : List (ClassId × FieldType)) (A : Nat → Prop) (w1 : S → va_W) (u : S) (t : State) : Prop := va_P D cl (w1 u) t.heap ∧ va_K D cl tys t ∧ va_D A (w1 u)
theorem Wq_blind {av : List Value} {D : va_G} {cl : List vw_C} {tys : List (ClassId × FieldType)} {A : Nat → Prop} {zs : List zT} {ws : va_W} : FrameBlind (va_Pc av (Wq D cl tys A zs ws)) := by
  intro a U g mk h
  obtain ⟨h0, hP, hK, hD, hZ⟩ := h
  exact ⟨h0, hP, va_K.moved (u := U) (U := U.calling g mk a) (Vm.Alike.refl U.vm) hK, hD, sx.moved (u := U) (U := U.calling g mk a) (Vm.Alike.refl U.vm) hZ⟩
/-- the contracts: void, int (and boolean), long -/
def Kv {S : Type} (l : Launch) (y : MethodName) (w : List Cond) (rm : Room) (D : va_G) (cl : List vw_C) (tys : List (ClassId × FieldType)) (A : Nat → Prop) (zs : List zT) (av : List Value) (ws : va_W) (post : S → Prop) (w1 : S → va_W) : Prop := Met l y w rm (va_Pc av (Wq D cl tys A zs ws)) (va_Qv post (Qw D cl tys A w1) A) 0 0 A
def Ki {S : Type} (l : Launch) (y : MethodName) (w : List Cond) (rm : Room) (D : va_G) (cl : List vw_C) (tys : List (ClassId × FieldType)) (A : Nat → Prop) (zs : List zT) (av : List Value) (ws : va_W) (post : Int32 → S → Prop) (w1 : S → va_W) : Prop := Met l y w rm (va_Pc av (Wq D cl tys A zs ws)) (va_Qi post (Qw D cl tys A w1) A) 0 0 A
def Kl {S : Type} (l : Launch) (y : MethodName) (w : List Cond) (rm : Room) (D : va_G) (cl : List vw_C) (tys : List (ClassId × FieldType)) (A : Nat → Prop) (zs : List zT) (av : List Value) (ws : va_W) (post : Int64 → S → Prop) (w1 : S → va_W) : Prop := Met l y w rm (va_Pc av (Wq D cl tys A zs ws)) (va_Ql post (Qw D cl tys A w1) A) 0 0 A
section BSA
variable {p : Program} {l : Launch} {e : Env} {R : Room} {s : State} {m : MethodId} {args : Array Value} {below : List Frame} {meth : Method} {c : Code} {H : Heap} {locs : List Loc} {cells slots : Nat} {Q : State → Prop}
variable {cc : ByteArray} {pc : Nat} {ls : Array Slot} {rest : List Value} {A : Nat → Prop} {H0 : Heap}
variable {D : va_G} {cl : List vw_C} {tys : List (ClassId × FieldType)} {zs : List zT} {ws : va_W} {a : Nat}
theorem kp_i {x y : Int32} (h : x = y) (k : W p l e R s m args below meth c H locs cells slots Q (F0 m pc ls (.int y :: rest))) : W p l e R s m args below meth c H locs cells slots Q (F0 m pc ls (.int x :: rest)) := by
  subst h
  exact k
theorem kp_l {x y : Int64} (h : x = y) (k : W p l e R s m args below meth c H locs cells slots Q (F0 m pc ls (.long y :: rest))) : W p l e R s m args below meth c H locs cells slots Q (F0 m pc ls (.long x :: rest)) := by
  subst h
  exact k
/-- a counting loop: at its head for every i up to nn -/
theorem kp_lp {hd nn : Nat} (I : Nat → Heap → List Loc → Array Slot → Prop)
    (step : ∀ i : Nat, i ≤ nn → ∀ (H : Heap) (locs : List Loc) (ls : Array Slot), I i H locs ls → (i < nn → ∀ (H : Heap) (locs : List Loc) (ls : Array Slot), I (i + 1) H locs ls → W p l e R s m args below meth c H locs cells slots Q (F0 m hd ls [])) → W p l e R s m args below meth c H locs cells slots Q (F0 m hd ls [])) :
    ∀ (i : Nat), i ≤ nn → ∀ (H : Heap) (locs : List Loc) (ls : Array Slot), I i H locs ls → W p l e R s m args below meth c H locs cells slots Q (F0 m hd ls []) := by
  have key : ∀ (d i : Nat), i ≤ nn → nn - i ≤ d → ∀ (H : Heap) (locs : List Loc) (ls : Array Slot), I i H locs ls → W p l e R s m args below meth c H locs cells slots Q (F0 m hd ls []) := by
    intro d
    induction d with
    | zero =>
      intro i hi hd H locs ls hI
      exact step i hi H locs ls hI (fun hlt => absurd hlt (by omega))
    | succ d ih =>
      intro i hi hd H locs ls hI
      exact step i hi H locs ls hI (fun hlt H locs ls hI => ih (i + 1) hlt (by omega) H locs ls hI)
  exact fun i hi => key (nn - i) i hi (Nat.le_refl _)
theorem kb_iald (hexec : p.tables.exec = Jvm.exec) (hb : c.code = cc) (hK : va_K D cl tys s) (hP : va_P D cl ws H) (q0 t0 : Nat) {cA : ClassId} {n : Nat} {f : Nat → Int32} (ha : ws[q0]? = some (a, .inl (cA, n, .inl f))) (ht : tys[t0]? = some (cA, .int)) {i : Int32} (k : Nat) (hi : i = nI k) (hk : k < n) (hn : n < 2 ^ 31) (hdg : decode cc pc = .ok (.iaload, 1))
    (kk : W p l e R s m args below meth c H locs cells slots Q (F0 m (pc + 1) ls (.int (f k) :: rest))) : W p l e R s m args below meth c H locs cells slots Q (F0 m pc ls (.int i :: .ref a :: rest)) := by
  subst hi
  refine va_iald hexec hb hK hP q0 t0 ha ht (vp_in_nI hk hn) hdg ?_
  rw [nI_clamp (Nat.lt_trans hk hn)]
  exact kk
theorem kb_bald (hexec : p.tables.exec = Jvm.exec) (hb : c.code = cc) (hK : va_K D cl tys s) (hP : va_P D cl ws H) (q0 t0 : Nat) {cA : ClassId} {n : Nat} {f : Nat → Int32} (ha : ws[q0]? = some (a, .inl (cA, n, .inl f))) (ht : tys[t0]? = some (cA, .byte)) {i : Int32} (k : Nat) (hi : i = nI k) (hk : k < n) (hn : n < 2 ^ 31) (hdg : decode cc pc = .ok (.baload, 1))
    (kk : W p l e R s m args below meth c H locs cells slots Q (F0 m (pc + 1) ls (.int (f k) :: rest))) : W p l e R s m args below meth c H locs cells slots Q (F0 m pc ls (.int i :: .ref a :: rest)) := by
  subst hi
  refine va_bald hexec hb hK hP q0 t0 ha ht (vp_in_nI hk hn) hdg ?_
  rw [nI_clamp (Nat.lt_trans hk hn)]
  exact kk
theorem kb_iast (hexec : p.tables.exec = Jvm.exec) (hb : c.code = cc) (hK : va_K D cl tys s) (hP : va_P D cl ws H) (hD : va_D A ws) (hS : va_S A H0 H locs) (q0 t0 : Nat) {cA : ClassId} {n : Nat} {f : Nat → Int32} (ha : ws[q0]? = some (a, .inl (cA, n, .inl f))) (ht : tys[t0]? = some (cA, .int)) {i x : Int32} (k : Nat) (hi : i = nI k) (hk : k < n) (hn : n < 2 ^ 31) (hdg : decode cc pc = .ok (.iastore, 1))
    (kk : ∀ (H1 : Heap) (locs1 : List Loc), va_P D cl (ws.set q0 (a, .inl (cA, n, .inl (upd f k x)))) H1 → va_D A (ws.set q0 (a, .inl (cA, n, .inl (upd f k x)))) → va_S A H0 H1 locs1 → W p l e R s m args below meth c H1 locs1 cells slots Q (F0 m (pc + 1) ls rest)) : W p l e R s m args below meth c H locs cells slots Q (F0 m pc ls (.int x :: .int i :: .ref a :: rest)) := by
  subst hi
  refine va_iast hexec hb hK hP hD hS q0 t0 ha ht (vp_in_nI hk hn) hdg ?_
  rw [nI_clamp (Nat.lt_trans hk hn)]
  exact kk
theorem kb_bast (hexec : p.tables.exec = Jvm.exec) (hb : c.code = cc) (hK : va_K D cl tys s) (hP : va_P D cl ws H) (hD : va_D A ws) (hS : va_S A H0 H locs) (q0 t0 : Nat) {cA : ClassId} {n : Nat} {f : Nat → Int32} (ha : ws[q0]? = some (a, .inl (cA, n, .inl f))) (ht : tys[t0]? = some (cA, .byte)) {i x y : Int32} (k : Nat) (hi : i = nI k) (hk : k < n) (hn : n < 2 ^ 31) (hy : vp_nar .byte x = y) (hdg : decode cc pc = .ok (.bastore, 1))
    (kk : ∀ (H1 : Heap) (locs1 : List Loc), va_P D cl (ws.set q0 (a, .inl (cA, n, .inl (upd f k y)))) H1 → va_D A (ws.set q0 (a, .inl (cA, n, .inl (upd f k y)))) → va_S A H0 H1 locs1 → W p l e R s m args below meth c H1 locs1 cells slots Q (F0 m (pc + 1) ls rest)) : W p l e R s m args below meth c H locs cells slots Q (F0 m pc ls (.int x :: .int i :: .ref a :: rest)) := by
  subst hi
  subst hy
  refine va_bast hexec hb hK hP hD hS q0 t0 ha ht (vp_in_nI hk hn) hdg ?_
  rw [nI_clamp (Nat.lt_trans hk hn)]
  exact kk
/-- a static table: the field, and an element -/
theorem kz_get (hexec : p.tables.exec = Jvm.exec) (hb : c.code = cc) {C n own : String} {t N index : Nat} {f : Nat → Int32} (hZ : sx zs A s s.heap) (hS : va_S A s.heap H locs) (k0 : Nat) (hz : zs[k0]? = some (C, n, t, N, f)) (hown : s.vm.findClass own = some m.cls) (hlink : (Cond.fieldLink own index C n "[I").before args s = true) (hdg : decode cc pc = .ok (.getstatic index, 3))
    (kk : W p l e R s m args below meth c H locs cells slots Q (F0 m (pc + 3) ls (.ref t :: rest))) : W p l e R s m args below meth c H locs cells slots Q (F0 m pc ls rest) :=
  va_gets hexec hb (hZ k0 _ hz).1 hS hown hlink (fun _ h => h) hdg kk
theorem kz_ld (hexec : p.tables.exec = Jvm.exec) (hb : c.code = cc) {C n : String} {t N : Nat} {f : Nat → Int32} (hZ : sx zs A s s.heap) (hS : va_S A s.heap H locs) (k0 : Nat) (hz : zs[k0]? = some (C, n, t, N, f)) {i : Int32} (k : Nat) (hi : i = nI k) (hk : k < N) (hn : N < 2 ^ 31) (hdg : decode cc pc = .ok (.iaload, 1))
    (kk : W p l e R s m args below meth c H locs cells slots Q (F0 m (pc + 1) ls (.int (f k) :: rest))) : W p l e R s m args below meth c H locs cells slots Q (F0 m pc ls (.int i :: .ref t :: rest)) := by
  subst hi
  exact va_ti hexec hb (hZ k0 _ hz).2 hS (vp_in_nI hk hn) (v := .int (f k)) (by rw [nI_clamp (Nat.lt_trans hk hn)]) hdg kk
/-- returns -/
theorem kr_i {S : Type} {post : Int32 → S → Prop} {w1 : S → va_W} {v : Int32} (u : S) (hexec : p.tables.exec = Jvm.exec) (hb : c.code = cc) (hr : meth.sig.returnType = some .int) (hlocks : meth.locks = false) (hK : va_K D cl tys s) (hP : va_P D cl (w1 u) H) (hD : va_D A (w1 u)) (hS : va_S A s.heap H locs) (hpost : post v u) (hdg : decode cc pc = .ok (.ireturn, 1)) :
    W p l e R s m args below meth c H locs cells slots (MQ below (va_Qi post (Qw D cl tys A w1) A) args s cells slots A) (F0 m pc ls [.int v]) :=
  W.iret (v := v) hexec hb hr (fun t ht hW => ⟨⟨v, u, rfl, hpost, by rw [ht]; exact hP, va_K.moved hW.alike hK, hD⟩, hS.F ht⟩) hS.2.2 hdg hlocks
theorem kr_z {S : Type} {post : Int32 → S → Prop} {w1 : S → va_W} {v : Int32} (u : S) (hexec : p.tables.exec = Jvm.exec) (hb : c.code = cc) (hr : meth.sig.returnType = some .boolean) (hlocks : meth.locks = false) (hK : va_K D cl tys s) (hP : va_P D cl (w1 u) H) (hD : va_D A (w1 u)) (hS : va_S A s.heap H locs) (hn : narrow .boolean (.int v) = .int v) (hpost : post v u) (hdg : decode cc pc = .ok (.ireturn, 1)) :
    W p l e R s m args below meth c H locs cells slots (MQ below (va_Qi post (Qw D cl tys A w1) A) args s cells slots A) (F0 m pc ls [.int v]) :=
  W.zret (v := v) hexec hb hr hn (fun t ht hW => ⟨⟨v, u, rfl, hpost, by rw [ht]; exact hP, va_K.moved hW.alike hK, hD⟩, hS.F ht⟩) hS.2.2 hdg hlocks
theorem kr_v {S : Type} {post : S → Prop} {w1 : S → va_W} (u : S) (hexec : p.tables.exec = Jvm.exec) (hb : c.code = cc) (hr : meth.sig.returnType = none) (hlocks : meth.locks = false) (hK : va_K D cl tys s) (hP : va_P D cl (w1 u) H) (hD : va_D A (w1 u)) (hS : va_S A s.heap H locs) (hpost : post u) (hdg : decode cc pc = .ok (.return_, 1)) :
    W p l e R s m args below meth c H locs cells slots (MQ below (va_Qv post (Qw D cl tys A w1) A) args s cells slots A) (F0 m pc ls []) :=
  W.vret hexec hb hr (fun t ht hW => ⟨⟨u, rfl, hpost, by rw [ht]; exact hP, va_K.moved hW.alike hK, hD⟩, hS.F ht⟩) hS.2.2 hdg hlocks
theorem kr_l {S : Type} {post : Int64 → S → Prop} {w1 : S → va_W} {v : Int64} (u : S) (hexec : p.tables.exec = Jvm.exec) (hb : c.code = cc) (hr : meth.sig.returnType = some .long) (hlocks : meth.locks = false) (hK : va_K D cl tys s) (hP : va_P D cl (w1 u) H) (hD : va_D A (w1 u)) (hS : va_S A s.heap H locs) (hpost : post v u) (hdg : decode cc pc = .ok (.lreturn, 1)) :
    W p l e R s m args below meth c H locs cells slots (MQ below (va_Ql post (Qw D cl tys A w1) A) args s cells slots A) (F0 m pc ls [.long v]) :=
  W.lret (v := v) hexec hb hr (fun t ht hW => ⟨⟨v, u, rfl, hpost, by rw [ht]; exact hP, va_K.moved hW.alike hK, hD⟩, hS.F ht⟩) hS.2.2 hdg hlocks
/-- calls inside one world: nothing of it is cut off, the callee has the caller's A -/
theorem kc_v {S : Type} {post : S → Prop} {w1 : S → va_W} {y : MethodName} {bytes : ByteArray} {maxL nL n index b : Nat} {ret : Option FieldType} {wy Ts : List Cond} {rm : Room} {own C : String} {As st0 : List Value}
    (S0 : CallFix p m c cc nL s args Ts own) (hM : Kv l y wy rm D cl tys A zs (.ref b :: As) ws post w1) (cw : CallW R s args own C index y bytes maxL ret wy rm 0 0 n) (hrec : ∃ cellB : Cell, H[b]? = some cellB ∧ cellB.vm.isStatics = false ∧ s.vm.findClass C = some cellB.cls)
    (hK : va_K D cl tys s) (hP : va_P D cl ws H) (hD : va_D A ws) (hS : va_S A s.heap H locs) (hZ : sx zs A s s.heap) (hn : As.length = n) (hsz : ls.size = nL) (hst : st0 = As.reverse ++ .ref b :: rest) (hW : (rest.map fun v => v.category).sum ≤ 8) (hcs : cells ≤ R.cells ∧ slots ≤ R.slots) (hdg : decode cc pc = .ok (.invokevirtual index, 3))
    (kk : ∀ (u : S) (H1 : Heap) (locs1 : List Loc), post u → va_P D cl (w1 u) H1 → va_D A (w1 u) → va_S A s.heap H1 locs1 → W p l e R s m args below meth c H1 locs1 cells slots Q (F0 m (pc + 3) ls rest)) : W p l e R s m args below meth c H locs cells slots Q (F0 m pc ls st0) := by
  refine va_callv (va_runV (As := As) (rest := rest) S0 hM cw ⟨Wq_blind, hrec, fun U hU hW => ⟨rfl, by rw [hU]; exact hP, va_K.moved hW.alike hK, hD, by rw [hU]; exact (hZ.kept hS.2.1).moved hW.alike⟩⟩ rfl hn hsz hst (lv_room hW) hdg hcs) hS (fun _ _ h => h) (fun _ h => h) (fun u t H1 locs1 ht hvm hw hB hz1 hk1 hS => ?_)
  obtain ⟨hP1, hK1, hD1⟩ := hB
  rw [ht] at hP1
  exact kk u H1 locs1 hw hP1 hD1 hS
theorem kc_i {S : Type} {post : Int32 → S → Prop} {w1 : S → va_W} {y : MethodName} {bytes : ByteArray} {maxL nL n index b : Nat} {ret : Option FieldType} {wy Ts : List Cond} {rm : Room} {own C : String} {As st0 : List Value}
    (S0 : CallFix p m c cc nL s args Ts own) (hM : Ki l y wy rm D cl tys A zs (.ref b :: As) ws post w1) (cw : CallW R s args own C index y bytes maxL ret wy rm 0 0 n) (hrec : ∃ cellB : Cell, H[b]? = some cellB ∧ cellB.vm.isStatics = false ∧ s.vm.findClass C = some cellB.cls)
    (hK : va_K D cl tys s) (hP : va_P D cl ws H) (hD : va_D A ws) (hS : va_S A s.heap H locs) (hZ : sx zs A s s.heap) (hn : As.length = n) (hsz : ls.size = nL) (hst : st0 = As.reverse ++ .ref b :: rest) (hW : (rest.map fun v => v.category).sum ≤ 8) (hcs : cells ≤ R.cells ∧ slots ≤ R.slots) (hdg : decode cc pc = .ok (.invokevirtual index, 3))
    (kk : ∀ (r : Int32) (u : S) (H1 : Heap) (locs1 : List Loc), post r u → va_P D cl (w1 u) H1 → va_D A (w1 u) → va_S A s.heap H1 locs1 → W p l e R s m args below meth c H1 locs1 cells slots Q (F0 m (pc + 3) ls (.int r :: rest))) : W p l e R s m args below meth c H locs cells slots Q (F0 m pc ls st0) := by
  refine va_calli (va_runV (As := As) (rest := rest) S0 hM cw ⟨Wq_blind, hrec, fun U hU hW => ⟨rfl, by rw [hU]; exact hP, va_K.moved hW.alike hK, hD, by rw [hU]; exact (hZ.kept hS.2.1).moved hW.alike⟩⟩ rfl hn hsz hst (lv_room hW) hdg hcs) hS (fun _ _ h => h) (fun _ h => h) (fun r u t H1 locs1 ht hvm hw hB hz1 hk1 hS => ?_)
  obtain ⟨hP1, hK1, hD1⟩ := hB
  rw [ht] at hP1
  exact kk r u H1 locs1 hw hP1 hD1 hS
theorem kc_l {S : Type} {post : Int64 → S → Prop} {w1 : S → va_W} {y : MethodName} {bytes : ByteArray} {maxL nL n index b : Nat} {ret : Option FieldType} {wy Ts : List Cond} {rm : Room} {own C : String} {As st0 : List Value}
    (S0 : CallFix p m c cc nL s args Ts own) (hM : Kl l y wy rm D cl tys A zs (.ref b :: As) ws post w1) (cw : CallW R s args own C index y bytes maxL ret wy rm 0 0 n) (hrec : ∃ cellB : Cell, H[b]? = some cellB ∧ cellB.vm.isStatics = false ∧ s.vm.findClass C = some cellB.cls)
    (hK : va_K D cl tys s) (hP : va_P D cl ws H) (hD : va_D A ws) (hS : va_S A s.heap H locs) (hZ : sx zs A s s.heap) (hn : As.length = n) (hsz : ls.size = nL) (hst : st0 = As.reverse ++ .ref b :: rest) (hW : (rest.map fun v => v.category).sum ≤ 8) (hcs : cells ≤ R.cells ∧ slots ≤ R.slots) (hdg : decode cc pc = .ok (.invokevirtual index, 3))
    (kk : ∀ (r : Int64) (u : S) (H1 : Heap) (locs1 : List Loc), post r u → va_P D cl (w1 u) H1 → va_D A (w1 u) → va_S A s.heap H1 locs1 → W p l e R s m args below meth c H1 locs1 cells slots Q (F0 m (pc + 3) ls (.long r :: rest))) : W p l e R s m args below meth c H locs cells slots Q (F0 m pc ls st0) := by
  refine va_calll (va_runV (As := As) (rest := rest) S0 hM cw ⟨Wq_blind, hrec, fun U hU hW => ⟨rfl, by rw [hU]; exact hP, va_K.moved hW.alike hK, hD, by rw [hU]; exact (hZ.kept hS.2.1).moved hW.alike⟩⟩ rfl hn hsz hst (lv_room hW) hdg hcs) hS (fun _ _ h => h) (fun _ h => h) (fun r u t H1 locs1 ht hvm hw hB hz1 hk1 hS => ?_)
  obtain ⟨hP1, hK1, hD1⟩ := hB
  rw [ht] at hP1
  exact kk r u H1 locs1 hw hP1 hD1 hS
theorem kcs_i {S : Type} {post : Int32 → S → Prop} {w1 : S → va_W} {y : MethodName} {bytes : ByteArray} {maxL nL n index : Nat} {ret : Option FieldType} {wy Ts : List Cond} {rm : Room} {own : String} {As st0 : List Value}
    (S0 : CallFix p m c cc nL s args Ts own) (hM : Ki l y wy rm D cl tys A zs As ws post w1) (cw : CallB R s args own index y bytes maxL ret wy rm 0 0 n ∧ (Cond.static y).before args s = true)
    (hK : va_K D cl tys s) (hP : va_P D cl ws H) (hD : va_D A ws) (hS : va_S A s.heap H locs) (hZ : sx zs A s s.heap) (hn : As.length = n) (hsz : ls.size = nL) (hst : st0 = As.reverse ++ rest) (hW : (rest.map fun v => v.category).sum ≤ 8) (hcs : cells ≤ R.cells ∧ slots ≤ R.slots) (hdg : decode cc pc = .ok (.invokestatic index, 3))
    (kk : ∀ (r : Int32) (u : S) (H1 : Heap) (locs1 : List Loc), post r u → va_P D cl (w1 u) H1 → va_D A (w1 u) → va_S A s.heap H1 locs1 → W p l e R s m args below meth c H1 locs1 cells slots Q (F0 m (pc + 3) ls (.int r :: rest))) : W p l e R s m args below meth c H locs cells slots Q (F0 m pc ls st0) := by
  refine va_calli (va_runS (As := As) (rest := rest) S0 hM cw ⟨Wq_blind, fun U hU hW => ⟨rfl, by rw [hU]; exact hP, va_K.moved hW.alike hK, hD, by rw [hU]; exact (hZ.kept hS.2.1).moved hW.alike⟩⟩ rfl hn hsz hst (lv_room hW) hdg hcs) hS (fun _ _ h => h) (fun _ h => h) (fun r u t H1 locs1 ht hvm hw hB hz1 hk1 hS => ?_)
  obtain ⟨hP1, hK1, hD1⟩ := hB
  rw [ht] at hP1
  exact kk r u H1 locs1 hw hP1 hD1 hS
end BSA
/-! compares in Nat -/
theorem kn_le {a b : Nat} (c : nI a ≤ nI b) (ha : a < 2 ^ 31) (hb : b < 2 ^ 31) : a ≤ b := (nI_leI ha hb).mp c
theorem kn_nle {a b : Nat} (c : ¬ nI a ≤ nI b) (ha : a < 2 ^ 31) (hb : b < 2 ^ 31) : b < a := Nat.lt_of_not_le (fun h => c ((nI_leI ha hb).mpr h))
theorem kn_lt {a b : Nat} (c : nI a < nI b) (ha : a < 2 ^ 31) (hb : b < 2 ^ 31) : a < b := (nI_ltI ha hb).mp c
theorem kn_nlt {a b : Nat} (c : ¬ nI a < nI b) (ha : a < 2 ^ 31) (hb : b < 2 ^ 31) : b ≤ a := Nat.le_of_not_lt (fun h => c ((nI_ltI ha hb).mpr h))
theorem kn_eq {a b : Nat} (c : nI a = nI b) (ha : a < 2 ^ 31) (hb : b < 2 ^ 31) : a = b := (nI_eq ha hb).mp c
theorem kn_ne {a b : Nat} (c : ¬ nI a = nI b) (ha : a < 2 ^ 31) (hb : b < 2 ^ 31) : a ≠ b := fun h => c ((nI_eq ha hb).mpr h)
theorem kn_nul (a : Nat) (ha : a < 2 ^ 31) : 0 ≤ nI a := nI_pos' ha
theorem kn_lt0 {a : Nat} (c : nI a < 0) (ha : a < 2 ^ 31) : False := nI_pos ha c
theorem kn_le0 {a : Nat} (c : nI a ≤ 0) (ha : a < 2 ^ 31) : a = 0 := Nat.le_zero.mp (kn_le (b := 0) c ha (by decide))
theorem kn_nle0 {a : Nat} (c : ¬ nI a ≤ 0) (ha : a < 2 ^ 31) : 0 < a := kn_nle (b := 0) c ha (by decide)
theorem kn_eq0 {a : Nat} (c : nI a = 0) (ha : a < 2 ^ 31) : a = 0 := kn_eq (b := 0) c ha (by decide)
theorem kn_ne0 {a : Nat} (c : ¬ nI a = 0) (ha : a < 2 ^ 31) : a ≠ 0 := kn_ne (b := 0) c ha (by decide)
def bz (b : Bool) : Int32 := if b then 1 else 0
theorem bz_0 {b : Bool} (h : bz b = 0) : b = false := by
  cases b
  · rfl
  · exact absurd h (by decide)
theorem bz_1 {b : Bool} (h : ¬ bz b = 0) : b = true := by
  cases b
  · exact absurd rfl h
  · rfl
theorem bz_nar (b : Bool) : narrow .boolean (.int (bz b)) = .int (bz b) := by cases b <;> rfl
end
section
/-! the pure words of SHA-256 and of rows of bytes -/
theorem kn_inc (a b : Nat) (n : Nat) (h : b = a + n) : nI a + Int32.ofInt (n : Int) = nI b := by
  subst h
  exact nI_add a n
theorem kn_sub {a b d : Nat} (h : a = d + b) : nI a - nI b = nI d := by
  subst h
  rw [pk_sub (Nat.le_add_left _ _), Nat.add_sub_cancel]
/-- f's first k come at n -/
def cat (ms : Nat → Int32) (n : Nat) (f : Nat → Int32) (k : Nat) : Nat → Int32 := fun j => if n ≤ j ∧ j < n + k then f (j - n) else ms j
theorem cat_0 (ms : Nat → Int32) (n : Nat) (f : Nat → Int32) : cat ms n f 0 = ms := by
  funext j
  unfold cat
  rw [if_neg (by omega)]
theorem cat_s (ms : Nat → Int32) (n : Nat) (f : Nat → Int32) (k : Nat) {x : Int32} (hx : x = f k) : upd (cat ms n f k) (n + k) x = cat ms n f (k + 1) := by
  subst hx
  funext j
  unfold upd cat
  by_cases h : j = n + k
  · subst h
    rw [if_pos rfl, if_pos (by omega), Nat.add_sub_cancel_left]
  · rw [if_neg h]
    by_cases h2 : n ≤ j ∧ j < n + k
    · rw [if_pos h2, if_pos (by omega)]
    · rw [if_neg h2, if_neg (by omega)]
theorem cat_lo {ms : Nat → Int32} {n : Nat} {f : Nat → Int32} {k j : Nat} (h : j < n) : cat ms n f k j = ms j := by
  unfold cat
  rw [if_neg (by omega)]
theorem cat_in {ms : Nat → Int32} {n : Nat} {f : Nat → Int32} {k j : Nat} (h : j < k) : cat ms n f k (n + j) = f j := by
  unfold cat
  rw [if_pos (by omega), Nat.add_sub_cancel_left]
theorem cat_cat {ms : Nat → Int32} {n : Nat} {f g h : Nat → Int32} {a b : Nat} (h1 : ∀ j, j < a → h j = f j) (h2 : ∀ j, j < b → h (a + j) = g j) : cat (cat ms n f a) (n + a) g b = cat ms n h (a + b) := by
  funext j
  unfold cat
  by_cases q : n + a ≤ j ∧ j < n + a + b
  · rw [if_pos q, if_pos (by omega), ← h2 (j - (n + a)) (by omega)]
    congr 1
    omega
  · rw [if_neg q]
    by_cases q2 : n ≤ j ∧ j < n + a
    · rw [if_pos q2, if_pos (by omega), h1 _ (by omega)]
    · rw [if_neg q2, if_neg (by omega)]
/-- the four bytes of a word -/
def wb (w : Int32) (j : Nat) : Int32 := match j with
  | 0 => ((w.toUInt32 >>> ((24 : Int32).toUInt32 &&& Int32.toUInt32 31)).toInt32).toInt8.toInt32
  | 1 => ((w.toUInt32 >>> ((16 : Int32).toUInt32 &&& Int32.toUInt32 31)).toInt32).toInt8.toInt32
  | 2 => ((w.toUInt32 >>> ((8 : Int32).toUInt32 &&& Int32.toUInt32 31)).toInt32).toInt8.toInt32
  | _ => w.toInt8.toInt32
/-- a turn to the right -/
def tn (w n : Int32) : Int32 := (w.toUInt32 >>> (n.toUInt32 &&& Int32.toUInt32 31)).toInt32 ||| (w <<< ((32 - n) &&& 31))
def us (w n : Int32) : Int32 := (w.toUInt32 >>> (n.toUInt32 &&& Int32.toUInt32 31)).toInt32
/-- word t of the block at f -/
def wd (ms : Nat → Int32) (f t : Nat) : Int32 := (((ms (f + 4 * t) &&& 255) <<< ((24 : Int32) &&& 31) ||| (ms (f + 4 * t + 1) &&& 255) <<< ((16 : Int32) &&& 31)) ||| (ms (f + 4 * t + 2) &&& 255) <<< ((8 : Int32) &&& 31)) ||| (ms (f + 4 * t + 3) &&& 255)
def s0 (x : Int32) : Int32 := (tn x 7 ^^^ tn x 18) ^^^ us x 3
def s1 (x : Int32) : Int32 := (tn x 17 ^^^ tn x 19) ^^^ us x 10
/-- the schedule, k words behind the first sixteen -/
def swl (w : Nat → Int32) : Nat → Nat → Int32
  | 0 => w
  | k + 1 => upd (swl w k) (16 + k) (((swl w k k + s0 (swl w k (k + 1))) + swl w k (k + 9)) + s1 (swl w k (k + 14)))
theorem swl_hi (w : Nat → Int32) (k : Nat) : ∀ j, 16 + k ≤ j → swl w k j = w j := by
  induction k with
  | zero => intro j _; rfl
  | succ k ih =>
    intro j hj
    show upd _ _ _ j = _
    rw [pk_un (by omega)]
    exact ih j (by omega)
theorem swl_s (w : Nat → Int32) (k j : Nat) (h : j < 16 + k) : swl w (k + 1) j = swl w k j := pk_un (by omega)
theorem swl_congr {w v : Nat → Int32} (h : ∀ j, j < 16 → w j = v j) (k : Nat) : ∀ j, j < 16 + k → swl w k j = swl v k j := by
  induction k with
  | zero => exact h
  | succ k ih =>
    intro j hj
    show upd _ _ _ j = upd _ _ _ j
    by_cases q : j = 16 + k
    · subst q
      rw [pk_us, pk_us, ih k (by omega), ih (k + 1) (by omega), ih (k + 9) (by omega), ih (k + 14) (by omega)]
    · rw [pk_un q, pk_un q]
      exact ih j (by omega)
def fsv (j : Nat) : Int32 := ([1779033703, -1150833019, 1013904242, -1521486534, 1359893119, -1694144372, 528734635, 1541459225] : List Int32).getD j 0
def rwv (j : Nat) : Int32 := ([1116352408, 1899447441, -1245643825, -373957723, 961987163, 1508970993, -1841331548, -1424204075, -670586216, 310598401, 607225278, 1426881987, 1925078388, -2132889090, -1680079193, -1046744716, -459576895, -272742522, 264347078, 604807628, 770255983, 1249150122, 1555081692, 1996064986, -1740746414, -1473132947, -1341970488, -1084653625, -958395405, -710438585, 113926993, 338241895, 666307205, 773529912, 1294757372, 1396182291, 1695183700, 1986661051, -2117940946, -1838011259, -1564481375, -1474664885, -1035236496, -949202525, -778901479, -694614492, -200395387, 275423344, 430227734, 506948616, 659060556, 883997877, 958139571, 1322822218, 1537002063, 1747873779, 1955562222, 2024104815, -2067236844, -1933114872, -1866530822, -1538233109, -1090935817, -965641998] : List Int32).getD j 0
/-- the eight working words, and a round -/
abbrev R8 : Type := Int32 × Int32 × Int32 × Int32 × Int32 × Int32 × Int32 × Int32
def rnd (k w : Int32) : R8 → R8
  | (a, b, c, d, e, f, g, h) => (((((h + ((tn e 6 ^^^ tn e 11) ^^^ tn e 25)) + ((e &&& f) ^^^ ((e ^^^ (-1)) &&& g))) + k) + w) + ((tn a 2 ^^^ tn a 13) ^^^ tn a 22) + (((a &&& b) ^^^ (a &&& c)) ^^^ (b &&& c)), a, b, c, d + ((((h + ((tn e 6 ^^^ tn e 11) ^^^ tn e 25)) + ((e &&& f) ^^^ ((e ^^^ (-1)) &&& g))) + k) + w), e, f, g)
def rds (sc : Nat → Int32) (x : R8) : Nat → R8
  | 0 => x
  | t + 1 => rnd (rwv t) (sc t) (rds sc x t)
def c8 (x : R8) (j : Nat) : Int32 := match j with
  | 0 => x.1
  | 1 => x.2.1
  | 2 => x.2.2.1
  | 3 => x.2.2.2.1
  | 4 => x.2.2.2.2.1
  | 5 => x.2.2.2.2.2.1
  | 6 => x.2.2.2.2.2.2.1
  | 7 => x.2.2.2.2.2.2.2
  | _ => 0
def mx (st sc : Nat → Int32) (j : Nat) : Int32 := st j + c8 (rds sc (st 0, st 1, st 2, st 3, st 4, st 5, st 6, st 7) 64) j
theorem rds_congr {sc sd : Nat → Int32} (x : R8) (n : Nat) (h : ∀ t, t < n → sc t = sd t) : rds sc x n = rds sd x n := by
  induction n with
  | zero => rfl
  | succ n ih =>
    show rnd _ _ _ = rnd _ _ _
    rw [ih (fun t ht => h t (by omega)), h n (by omega)]
theorem mx_congr {st su sc sd : Nat → Int32} (h : ∀ j, j < 8 → st j = su j) (h2 : ∀ t, t < 64 → sc t = sd t) : ∀ j, j < 8 → mx st sc j = mx su sd j := by
  intro j hj
  unfold mx
  rw [h j hj, h 0 (by omega), h 1 (by omega), h 2 (by omega), h 3 (by omega), h 4 (by omega), h 5 (by omega), h 6 (by omega), h 7 (by omega), rds_congr _ 64 h2]
/-- the state behind b blocks -/
def shs (ms : Nat → Int32) : Nat → Nat → Int32
  | 0 => fsv
  | b + 1 => mx (shs ms b) (swl (wd ms (64 * b)) 48)
theorem wd_congr {ms mt : Nat → Int32} {f t : Nat} (h : ∀ j, f + 4 * t ≤ j → j < f + 4 * t + 4 → ms j = mt j) : wd ms f t = wd mt f t := by
  unfold wd
  rw [h (f + 4 * t) (by omega) (by omega), h (f + 4 * t + 1) (by omega) (by omega), h (f + 4 * t + 2) (by omega) (by omega), h (f + 4 * t + 3) (by omega) (by omega)]
theorem shs_congr {ms mt : Nat → Int32} (b : Nat) (h : ∀ j, j < 64 * b → ms j = mt j) : ∀ j, j < 8 → shs ms b j = shs mt b j := by
  induction b with
  | zero => intro j _; rfl
  | succ b ih =>
    intro j hj
    show mx _ _ j = mx _ _ j
    refine mx_congr (ih (fun j hj => h j (by omega))) (fun t ht => ?_) j hj
    exact swl_congr (fun j hj => wd_congr (fun k h1 h2 => h k (by omega))) 48 t (by omega)
/-- how many zero bytes, the padding's length, the padding -/
def pz (n : Nat) : Nat := (119 - n % 64) % 64
def pl (n : Nat) : Nat := pz n + 9
def pd (n : Nat) (j : Nat) : Int32 := if j = 0 then (128 : Int32).toInt8.toInt32 else if j ≤ pz n then (0 : Int32).toInt8.toInt32 else (((8 * (nI n).toInt64 : Int64).toUInt64 >>> ((nI (56 - 8 * (j - (pz n + 1)))).toInt64.toUInt64 &&& Int64.toUInt64 63)).toInt64.toInt32).toInt8.toInt32
/-- SHA-256 of the first n of ms: its eight words -/
def hm (ms : Nat → Int32) (n : Nat) : Nat → Int32 := shs (cat ms n (pd n) (pl n)) ((n + pl n) / 64)
theorem hm_congr {ms mt : Nat → Int32} {n : Nat} (h : ∀ j, j < n → ms j = mt j) : ∀ j, j < 8 → hm ms n j = hm mt n j := by
  refine shs_congr _ (fun j hj => ?_)
  unfold cat
  by_cases q : n ≤ j ∧ j < n + pl n
  · rw [if_pos q, if_pos q]
  · rw [if_neg q, if_neg q]
    have h2 := Nat.div_mul_le_self (n + pl n) 64
    exact h j (by omega)
theorem pl_mod (n : Nat) : (n + pl n) % 64 = 0 := by
  unfold pl pz
  omega
/-- the id of a leaf with these bytes, the id of two side by side -/
def lfm (tp : Nat → Int32) (j : Nat) : Int32 := if j = 0 then (0 : Int32).toInt8.toInt32 else (tp (j - 1)).toInt8.toInt32
def lfh (tp : Nat → Int32) (n : Nat) : Nat → Int32 := hm (lfm tp) (n + 1)
def ndm (x y : Nat → Int32) (j : Nat) : Int32 := if j = 0 then (1 : Int32).toInt8.toInt32 else if j < 33 then wb (x ((j - 1) / 4)) ((j - 1) % 4) else wb (y ((j - 33) / 4)) ((j - 33) % 4)
def ndh (x y : Nat → Int32) : Nat → Int32 := hm (ndm x y) 65
/-- the first level's place, and its width's half -/
def lsv (j : Nat) : Nat := ([0, 100, 150, 175, 188, 195, 199, 201] : List Nat).getD j 0
end
section
/-! small rows that the walks use -/
theorem cat_1 {ms : Nat → Int32} {n : Nat} {f : Nat → Int32} {x : Int32} (hx : x = f 0) : upd ms n x = cat ms n f 1 := by
  have h := cat_s ms n f 0 hx
  rw [cat_0, Nat.add_zero] at h
  exact h
theorem cat_s2 {ms : Nat → Int32} {n m : Nat} {f : Nat → Int32} {k : Nat} {x : Int32} (hm : m = n + k) (hx : x = f k) : upd (cat ms n f k) m x = cat ms n f (k + 1) := by
  subst hm
  exact cat_s ms n f k hx
theorem cat_w (ms : Nat → Int32) (n i : Nat) {f : Nat → Int32} {w : Int32} (h0 : wb w 0 = f (4 * i)) (h1 : wb w 1 = f (4 * i + 1)) (h2 : wb w 2 = f (4 * i + 2)) (h3 : wb w 3 = f (4 * i + 3)) : upd (upd (upd (upd (cat ms n f (4 * i)) (n + 4 * i) (wb w 0)) (n + 4 * i + 1) (wb w 1)) (n + 4 * i + 2) (wb w 2)) (n + 4 * i + 3) (wb w 3) = cat ms n f (4 * (i + 1)) := by
  rw [cat_s _ _ _ _ h0, show n + 4 * i + 1 = n + (4 * i + 1) from rfl, cat_s _ _ _ _ h1, show n + 4 * i + 2 = n + (4 * i + 1 + 1) from rfl, cat_s _ _ _ _ h2, show n + 4 * i + 3 = n + (4 * i + 1 + 1 + 1) from rfl, cat_s _ _ _ _ h3]
  rfl
theorem ct_d0 (i : Nat) : 4 * i / 4 = i := by omega
theorem ct_d1 (i : Nat) : (4 * i + 1) / 4 = i := by omega
theorem ct_d2 (i : Nat) : (4 * i + 2) / 4 = i := by omega
theorem ct_d3 (i : Nat) : (4 * i + 3) / 4 = i := by omega
theorem ct_m0 (i : Nat) : 4 * i % 4 = 0 := by omega
theorem ct_m1 (i : Nat) : (4 * i + 1) % 4 = 1 := by omega
theorem ct_m2 (i : Nat) : (4 * i + 2) % 4 = 2 := by omega
theorem ct_m3 (i : Nat) : (4 * i + 3) % 4 = 3 := by omega
theorem pz_lt (n : Nat) : pz n < 64 := Nat.mod_lt _ (by decide)
theorem pz_at {n i : Nat} (h : i ≤ pz n) (c : (n + 1 + i) % 64 = 56) : i = pz n := by
  unfold pz at *
  omega
theorem pz_nat {n i : Nat} (h : i ≤ pz n) (c : (n + 1 + i) % 64 ≠ 56) : i < pz n := by
  refine Nat.lt_of_le_of_ne h (fun e => c ?_)
  subst e
  unfold pz
  omega
theorem pd_0 {n i : Nat} (h : i < pz n) : (0 : Int32).toInt8.toInt32 = pd n (1 + i) := by
  unfold pd
  rw [if_neg (by omega), if_pos (by omega)]
/-- the shift behind i bytes of the length -/
def sf (i : Nat) : Int32 := 56 - nI (8 * i)
theorem sf_lt {i : Nat} (h : i ≤ 8) (c : sf i < 0) : i = 8 := by
  have key : ∀ i, i < 8 → ¬ sf i < 0 := by decide
  rcases Nat.lt_or_ge i 8 with q | q
  · exact absurd c (key i q)
  · omega
theorem sf_nlt {i : Nat} (h : i ≤ 8) (c : ¬ sf i < 0) : i < 8 := by
  rcases Nat.lt_or_ge i 8 with q | q
  · exact q
  · have e : i = 8 := by omega
    subst e
    exact absurd (by decide) c
theorem sf_s {i : Nat} (h : i < 8) : sf i + Int32.ofInt (-8) = sf (i + 1) := by
  have key : ∀ i, i < 8 → sf i + Int32.ofInt (-8) = sf (i + 1) := by decide
  exact key i h
theorem sf_n {i : Nat} (h : i < 8) : sf i = nI (56 - 8 * i) := by
  have key : ∀ i, i < 8 → sf i = nI (56 - 8 * i) := by decide
  exact key i h
theorem pd_b (n : Nat) {i : Nat} (h : i < 8) : ((((8 : Int64) * (nI n).toInt64).toUInt64 >>> ((sf i).toInt64.toUInt64 &&& Int64.toUInt64 63)).toInt64.toInt32).toInt8.toInt32 = pd n (1 + pz n + i) := by
  unfold pd
  rw [if_neg (by omega), if_neg (by omega), sf_n h, show 1 + pz n + i - (pz n + 1) = i by omega]
theorem upd_s {g F : Nat → Int32} {i : Nat} {x : Int32} (h : ∀ j, j < i → g j = F j) (hx : x = F i) : ∀ j, j < i + 1 → upd g i x j = F j := by
  intro j hj
  by_cases q : j = i
  · subst q
    rw [pk_us, hx]
  · rw [pk_un q]
    exact h j (by omega)
theorem swl_back {w g : Nat → Int32} {i : Nat} {x : Int32} (h : ∀ j, j < 16 + i → g j = swl w i j) (hx : x = ((g i + s0 (g (i + 1))) + g (i + 9)) + s1 (g (i + 14))) : ∀ j, j < 16 + (i + 1) → upd g (16 + i) x j = swl w (i + 1) j := by
  intro j hj
  show _ = upd _ _ _ j
  by_cases q : j = 16 + i
  · subst q
    rw [pk_us, pk_us, hx, h i (by omega), h (i + 1) (by omega), h (i + 9) (by omega), h (i + 14) (by omega)]
  · rw [pk_un q, pk_un q]
    exact h j (by omega)
theorem rds_s {sc : Nat → Int32} {x : R8} {i : Nat} {a b c d e f g h : Int32} (hi : rds sc x i = (a, b, c, d, e, f, g, h)) : rds sc x (i + 1) = rnd (rwv i) (sc i) (a, b, c, d, e, f, g, h) := by
  show rnd _ _ (rds sc x i) = _
  rw [hi]
theorem mx_end {st sc : Nat → Int32} {a b c d e f g h : Int32} (hi : rds sc (st 0, st 1, st 2, st 3, st 4, st 5, st 6, st 7) 64 = (a, b, c, d, e, f, g, h)) : ∀ j, j < 8 → upd (upd (upd (upd (upd (upd (upd (upd st 0 (st 0 + a)) 1 (st 1 + b)) 2 (st 2 + c)) 3 (st 3 + d)) 4 (st 4 + e)) 5 (st 5 + f)) 6 (st 6 + g)) 7 (st 7 + h) j = mx st sc j := by
  intro j hj
  unfold mx
  rw [hi]
  rcases (show j = 0 ∨ j = 1 ∨ j = 2 ∨ j = 3 ∨ j = 4 ∨ j = 5 ∨ j = 6 ∨ j = 7 by omega) with rfl | rfl | rfl | rfl | rfl | rfl | rfl | rfl <;> rfl
theorem shs_back {M sc2 st1 st2 : Nat → Int32} {b : Nat} (h : ∀ j, j < 8 → st1 j = shs M b j) (h1 : ∀ t, t < 64 → sc2 t = swl (wd M (64 * b)) 48 t) (h2 : ∀ j, j < 8 → st2 j = mx st1 sc2 j) : ∀ j, j < 8 → st2 j = shs M (b + 1) j := by
  intro j hj
  rw [h2 j hj]
  exact mx_congr h h1 j hj
theorem kn_upd (f : Nat → Nat) (k x : Nat) : upd (fun j => nI (f j)) k (nI x) = fun j => nI (va_up f k x j) := by
  funext j
  unfold upd va_up
  by_cases h : j = k
  · rw [if_pos h, if_pos h]
  · rw [if_neg h, if_neg h]
end
section
/-! the tree's numbers: who is beside whom, widths, levels -/
/-- the place beside x -/
def xo (x : Nat) : Nat := if x % 2 = 0 then x + 1 else x - 1
theorem xo_le (x : Nat) : xo x ≤ x + 1 := by
  unfold xo
  split <;> omega
theorem nt_xo : ∀ x, x < 256 → nI x ^^^ nI 1 = nI (xo x) := by decide +kernel
theorem nt_ev : ∀ x, x < 256 → nI x &&& (-2) = nI (x / 2 * 2) := by decide +kernel
theorem nt_od : ∀ x, x < 256 → nI x &&& nI 1 = nI (x % 2) := by decide +kernel
theorem nt_s5 : ∀ n, n < 32 → ((nI n &&& 31).toBitVec.smod 32).toNat = n := by decide +kernel
theorem nt_sh {x t : Nat} (hx : x < 2 ^ 31) (ht : t < 32) : nI x >>> (nI t &&& 31) = nI (x / 2 ^ t) := pk_shrN hx _ t (nt_s5 t ht)
theorem nt_hf {x : Nat} (hx : x < 2 ^ 31) : nI x >>> (nI 1 &&& 31) = nI (x / 2) := nt_sh (t := 1) hx (by decide)
/-- a level's width -/
def wdl (n : Nat) : Nat → Nat
  | 0 => n
  | t + 1 => (wdl n t + 1) / 2
theorem wdl_le (n t : Nat) : wdl n t ≤ n := by
  induction t with
  | zero => exact Nat.le_refl _
  | succ t ih =>
    show (wdl n t + 1) / 2 ≤ n
    rcases Nat.eq_zero_or_pos (wdl n t) with h | h
    · rw [h]
      exact Nat.zero_le _
    · omega
/-- has i's place on level t one beside it -/
def hbt (n i t : Nat) : Bool := decide (xo (i / 2 ^ t) < wdl n t)
/-- how many levels below t have one -/
def stc (n i : Nat) : Nat → Nat
  | 0 => 0
  | t + 1 => stc n i t + (if hbt n i t then 1 else 0)
theorem stc_le (n i t : Nat) : stc n i t ≤ t := by
  induction t with
  | zero => exact Nat.le_refl _
  | succ t ih =>
    show stc n i t + _ ≤ t + 1
    split <;> omega
theorem pow_le {i t : Nat} : i / 2 ^ t ≤ i := Nat.div_le_self _ _
/-- is x a leaf's number -/
def lf (x : Int32) (n : Nat) : Bool := decide (¬ x < 0 ∧ ¬ nI n ≤ x)
theorem lf_a {x : Int32} {n : Nat} (c : x < 0) : (0 : Int32) = bz (lf x n) := by
  have h : lf x n = false := decide_eq_false (fun h => h.1 c)
  rw [h]
  rfl
theorem lf_b {x : Int32} {n : Nat} (c : nI n ≤ x) : (0 : Int32) = bz (lf x n) := by
  have h : lf x n = false := decide_eq_false (fun h => h.2 c)
  rw [h]
  rfl
theorem lf_c {x : Int32} {n : Nat} (c : ¬ x < 0) (d : ¬ nI n ≤ x) : (1 : Int32) = bz (lf x n) := by
  have h : lf x n = true := decide_eq_true ⟨c, d⟩
  rw [h]
  rfl
theorem lf_t {x : Int32} {n : Nat} (hn : n < 2 ^ 31) (h : lf x n = true) : ∃ i : Nat, i < n ∧ x = nI i := by
  have h2 := of_decide_eq_true h
  rcases pk_ix x hn with q | q | q
  · exact absurd q h2.1
  · exact absurd q h2.2
  · exact q
theorem lf_n {i n : Nat} (hn : n < 2 ^ 31) (hi : i < n) : lf (nI i) n = true := decide_eq_true ⟨nI_pos (by omega), fun c => absurd (kn_le c hn (by omega)) (by omega)⟩
theorem lf_f {i n : Nat} (hn : n < 2 ^ 31) (hi2 : i < 2 ^ 31) (h : lf (nI i) n = false) : n ≤ i := by
  rcases Nat.lt_or_ge i n with q | q
  · rw [lf_n hn q] at h
    cases h
  · exact q
/-- eight bytes of an id -/
def e8 (f : Nat → Int32) (k : Int32) : Int64 := if k < 0 ∨ ¬ k ≤ 3 then 0 else ((f (2 * k.toNatClampNeg)).toInt64 <<< ((32 : Int32).toInt64 &&& 63)) ||| ((f (2 * k.toNatClampNeg + 1)).toInt64 &&& 4294967295)
theorem e8_congr {f g : Nat → Int32} (h : ∀ j, j < 8 → f j = g j) (k : Int32) : e8 f k = e8 g k := by
  unfold e8
  split
  · rfl
  · rename_i q
    have h0 : ¬ k < 0 := fun c => q (Or.inl c)
    have h3 : k ≤ 3 := Classical.byContradiction (fun c => q (Or.inr c))
    obtain ⟨j, hj, rfl⟩ := nI_of2 (n := 3) (M := 3) (by decide) h0 h3
    rw [nI_clamp (by omega), h (2 * j) (by omega), h (2 * j + 1) (by omega)]
/-- two ids the same -/
def sm (f g : Nat → Int32) : Nat → Bool
  | 0 => true
  | j + 1 => sm f g j && decide (f j = g j)
theorem sm_iff (f g : Nat → Int32) (n : Nat) : sm f g n = true ↔ ∀ j, j < n → f j = g j := by
  induction n with
  | zero => exact ⟨fun _ j hj => absurd hj (Nat.not_lt_zero j), fun _ => rfl⟩
  | succ n ih =>
    show (sm f g n && decide (f n = g n)) = true ↔ _
    rw [Bool.and_eq_true, ih, decide_eq_true_eq]
    constructor
    · intro h j hj
      rcases Nat.lt_or_eq_of_le (Nat.le_of_lt_succ hj) with q | q
      · exact h.1 j q
      · rw [q]
        exact h.2
    · intro h
      exact ⟨fun j hj => h j (by omega), h n (by omega)⟩
/-- the levels: rl n is where the root is -/
def rl (n : Nat) : Nat := if n ≤ 1 then 0 else if n ≤ 2 then 1 else if n ≤ 4 then 2 else if n ≤ 8 then 3 else if n ≤ 16 then 4 else if n ≤ 32 then 5 else if n ≤ 64 then 6 else 7
theorem rl_lt (n : Nat) : rl n < 8 := by
  unfold rl
  repeat' split
  all_goals omega
theorem rl_ok : ∀ n, n < 101 → wdl n (rl n) ≤ 1 ∧ ∀ t, t < rl n → 1 < wdl n t := by decide +kernel
theorem rl_at {n t : Nat} (hn : n < 101) (h : t ≤ rl n) (c : wdl n t ≤ 1) : t = rl n := by
  rcases Nat.lt_or_eq_of_le h with q | q
  · exact absurd ((rl_ok n hn).2 t q) (by omega)
  · exact q
theorem rl_nat {n t : Nat} (hn : n < 101) (h : t ≤ rl n) (c : 1 < wdl n t) : t < rl n := by
  rcases Nat.lt_or_eq_of_le h with q | q
  · exact q
  · rw [q] at c
    exact absurd (rl_ok n hn).1 (by omega)
/-- nodes: each level's width with 100 leaves fits its place -/
theorem lsv_fit : ∀ t, t < 8 → ∀ x, x < wdl 100 t → lsv t + x < 202 := by decide +kernel
theorem wdl_mono {a b : Nat} (h : a ≤ b) (t : Nat) : wdl a t ≤ wdl b t := by
  induction t with
  | zero => exact h
  | succ t ih =>
    show (_ + 1) / 2 ≤ (_ + 1) / 2
    omega
theorem wdl_in {n i : Nat} (h : i < n) (t : Nat) : i / 2 ^ t < wdl n t := by
  induction t with
  | zero =>
    show i / 1 < n
    rw [Nat.div_one]
    exact h
  | succ t ih =>
    show i / 2 ^ (t + 1) < (wdl n t + 1) / 2
    rw [Nat.pow_succ, ← Nat.div_div_eq_div_mul]
    omega
/-- the words of node k, and a node written -/
def nd (id : Nat → Int32) (k : Nat) : Nat → Int32 := fun j => id (k * 8 + j)
def pn (id : Nat → Int32) (k : Nat) (f : Nat → Int32) : Nat → Int32 := cat id (k * 8) f 8
theorem pn_same (id : Nat → Int32) (k : Nat) (f : Nat → Int32) {j : Nat} (h : j < 8) : nd (pn id k f) k j = f j := cat_in h
theorem pn_ne (id : Nat → Int32) {k i : Nat} (f : Nat → Int32) (h : i ≠ k) {j : Nat} (hj : j < 8) : nd (pn id k f) i j = nd id i j := by
  unfold nd pn cat
  rw [if_neg (by omega)]
theorem pn_congr {id : Nat → Int32} {k : Nat} {f g : Nat → Int32} (h : ∀ j, j < 8 → f j = g j) : pn id k f = pn id k g := by
  unfold pn cat
  funext j
  by_cases q : k * 8 ≤ j ∧ j < k * 8 + 8
  · rw [if_pos q, if_pos q, h _ (by omega)]
  · rw [if_neg q, if_neg q]
theorem hm_ndm {x x' y y' : Nat → Int32} (h : ∀ j, j < 8 → x j = x' j) (h2 : ∀ j, j < 8 → y j = y' j) : ∀ j, j < 8 → ndh x y j = ndh x' y' j := by
  refine hm_congr (fun j hj => ?_)
  unfold ndm
  split
  · rfl
  · split
    · rw [h _ (by omega)]
    · rw [h2 _ (by omega)]
/-- one level of refreshing, and all below t -/
def rf1 (n i t : Nat) (id : Nat → Int32) : Nat → Int32 :=
  if hbt n i t then pn id (lsv (t + 1) + i / 2 ^ (t + 1)) (ndh (nd id (lsv t + i / 2 ^ t / 2 * 2)) (nd id (lsv t + i / 2 ^ t / 2 * 2 + 1)))
  else pn id (lsv (t + 1) + i / 2 ^ (t + 1)) (nd id (lsv t + i / 2 ^ t / 2 * 2))
def rfa (n i : Nat) (id : Nat → Int32) : Nat → Nat → Int32
  | 0 => id
  | t + 1 => rf1 n i t (rfa n i id t)
end
section
/-! rows between the walks and the tree's words -/
theorem pl_fit {n : Nat} (h : n ≤ 183) : n + pl n ≤ 192 := by
  unfold pl pz
  omega
theorem leaf_eq {id ms tp : Nat → Int32} {k tl : Nat} : cat id (k * 8) (hm (cat (upd ms 0 ((0 : Int32).toInt8.toInt32)) (0 + 1) (fun j => (tp j).toInt8.toInt32) tl) (0 + 1 + tl)) 8 = pn id k (lfh tp tl) := by
  rw [show 0 + 1 + tl = tl + 1 by omega]
  refine pn_congr (hm_congr (fun j hj => ?_))
  unfold lfm
  by_cases q : j = 0
  · subst q
    rw [if_pos rfl, cat_lo (by omega), pk_us]
  · rw [if_neg q]
    unfold cat
    rw [if_pos (by omega)]
theorem node_eq {id ms : Nat → Int32} {a b k : Nat} : cat id (k * 8) (hm (cat (cat (upd ms 0 ((1 : Int32).toInt8.toInt32)) (0 + 1) (fun j => wb (id (a * 8 + j / 4)) (j % 4)) 32) (0 + 1 + 32) (fun j => wb (id (b * 8 + j / 4)) (j % 4)) 32) (0 + 1 + 32 + 32)) 8 = pn id k (ndh (nd id a) (nd id b)) := by
  refine pn_congr (hm_congr (fun j hj => ?_))
  unfold ndm
  by_cases q : j = 0
  · subst q
    rw [if_pos rfl, cat_lo (by omega), cat_lo (by omega), pk_us]
  · rw [if_neg q]
    by_cases q2 : j < 33
    · rw [if_pos q2, cat_lo (by omega)]
      unfold cat
      rw [if_pos (by omega)]
      rfl
    · rw [if_neg q2]
      unfold cat
      rw [if_pos (by omega)]
      rfl
theorem e8_lo {f : Nat → Int32} {k : Int32} (c : k < 0) : (0 : Int64) = e8 f k := (if_pos (Or.inl c)).symm
theorem e8_hi {f : Nat → Int32} {k : Int32} (c : ¬ k ≤ 3) : (0 : Int64) = e8 f k := (if_pos (Or.inr c)).symm
theorem e8_in {f : Nat → Int32} {j : Nat} (h : j ≤ 3) : (((f (2 * j)).toInt64 <<< ((32 : Int32).toInt64 &&& 63)) ||| ((f (2 * j + 1)).toInt64 &&& 4294967295)) = e8 f (nI j) := by
  unfold e8
  rw [if_neg, nI_clamp (by omega)]
  intro q
  rcases q with q | q
  · exact nI_pos (by omega) q
  · exact q (nI_le (b := 3) h (by decide))
theorem e8_nd {id : Nat → Int32} {k j : Nat} (h : j ≤ 3) : (((id (k * 8 + 2 * j)).toInt64 <<< ((32 : Int32).toInt64 &&& 63)) ||| ((id (k * 8 + 2 * j + 1)).toInt64 &&& 4294967295)) = e8 (nd id k) (nI j) := by
  have h1 : id (k * 8 + 2 * j) = nd id k (2 * j) := rfl
  have h2 : id (k * 8 + 2 * j + 1) = nd id k (2 * j + 1) := rfl
  rw [h1, h2]
  exact e8_in h
theorem cp_at {id : Nat → Int32} {f t i : Nat} (h : f ≠ t) (hi : i < 8) : cat id (t * 8) (nd id f) i (f * 8 + i) = nd id f i := by
  unfold cat
  rw [if_neg (by omega)]
  rfl
theorem sm_s {f g : Nat → Int32} {i : Nat} (h : sm f g i = true) (c : f i = g i) : sm f g (i + 1) = true := by
  show (sm f g i && decide (f i = g i)) = true
  rw [h, decide_eq_true c]
  rfl
theorem sm_no {f g : Nat → Int32} {i : Nat} (h : i < 8) (c : ¬ f i = g i) : (0 : Int32) = bz (sm f g 8) := by
  have e : sm f g 8 = false := by
    cases q : sm f g 8 with
    | false => rfl
    | true => exact absurd ((sm_iff f g 8).mp q i h) c
  rw [e]
  rfl
theorem nt_pw (i t : Nat) : i / 2 ^ t / 2 = i / 2 ^ (t + 1) := by rw [Nat.pow_succ, ← Nat.div_div_eq_div_mul]
theorem nt_hf2 {i t : Nat} (h : i / 2 ^ t < 2 ^ 31) : nI (i / 2 ^ t) >>> (nI 1 &&& 31) = nI (i / 2 ^ (t + 1)) := by rw [nt_hf h, nt_pw]
theorem rfa_t {n i t : Nat} {id : Nat → Int32} (h : hbt n i t = true) : rfa n i id (t + 1) = pn (rfa n i id t) (lsv (t + 1) + i / 2 ^ (t + 1)) (ndh (nd (rfa n i id t) (lsv t + i / 2 ^ t / 2 * 2)) (nd (rfa n i id t) (lsv t + i / 2 ^ t / 2 * 2 + 1))) := if_pos h
theorem rfa_f {n i t : Nat} {id : Nat → Int32} (h : hbt n i t = false) : rfa n i id (t + 1) = pn (rfa n i id t) (lsv (t + 1) + i / 2 ^ (t + 1)) (nd (rfa n i id t) (lsv t + i / 2 ^ t / 2 * 2)) := if_neg (by rw [h]; exact Bool.false_ne_true)
theorem lsv_mono : ∀ t, t < 7 → lsv t + wdl 100 t ≤ lsv (t + 1) := by decide +kernel
theorem lsv_top : ∀ t, t < 8 → lsv t + wdl 100 t ≤ 202 := by decide +kernel
theorem fit_f {n i t : Nat} (h1 : i < n) (h2 : n ≤ 100) (ht : t < rl n) : lsv t + i / 2 ^ t / 2 * 2 + 1 < 203 ∧ lsv t + i / 2 ^ t / 2 * 2 < lsv (t + 1) + i / 2 ^ (t + 1) := by
  have h3 := wdl_in h1 t
  have h4 := wdl_mono h2 t
  have h5 := rl_lt n
  have h6 := lsv_mono t (by omega)
  have h7 := lsv_top t (by omega)
  have h8 := lsv_top (t + 1) (by omega)
  generalize i / 2 ^ (t + 1) = z
  generalize i / 2 ^ t = y at h3 ⊢
  omega
theorem fit_a {n i t : Nat} (h1 : i < n) (h2 : n ≤ 100) (ht : t < rl n) : lsv (t + 1) + i / 2 ^ (t + 1) < 203 := by
  have h3 := wdl_in h1 (t + 1)
  have h4 := wdl_mono h2 (t + 1)
  have h5 := rl_lt n
  have h8 := lsv_top (t + 1) (by omega)
  omega
theorem kn_of0 {x : Int32} (c : 0 ≤ x) : ∃ j : Nat, j < 2 ^ 31 ∧ x = nI j := nI_of (fun q => absurd (Int32.lt_of_lt_of_le q c) Int32.lt_irrefl)
/-- the level of a step on the way, or -1 -/
def los (n : Nat) (x y r : Int32) : Prop := (∃ i J t : Nat, x = nI i ∧ y = nI J ∧ i < n ∧ J < 2 ^ 31 ∧ t < 8 ∧ hbt n i t = true ∧ stc n i t = J ∧ r = nI t) ∨ (r = -1 ∧ ∀ i J t : Nat, x = nI i → y = nI J → i < n → J < 2 ^ 31 → t < 8 → hbt n i t = true → stc n i t ≠ J)
theorem los_a {n : Nat} {x y : Int32} (hn : n < 2 ^ 31) (c : lf x n = false) : los n x y (-1) := Or.inr ⟨rfl, fun i J t hx hy hi hJ ht hb => by
  subst hx
  rw [lf_n hn hi] at c
  cases c⟩
theorem los_b {n : Nat} {x y : Int32} (c : ¬ 0 ≤ y) : los n x y (-1) := Or.inr ⟨rfl, fun i J t hx hy hi hJ ht hb => by
  subst hy
  exact absurd (nI_pos' hJ) c⟩
theorem los_y {n i J t : Nat} (hn : n ≤ 100) (hi : i < n) (hJ : J < 2 ^ 31) (ht : t < 8) (hb : hbt n i t = true) (hs : stc n i t = J) : los n (nI i) (nI J) (nI t) := Or.inl ⟨i, J, t, rfl, rfl, hi, hJ, ht, hb, hs, rfl⟩
theorem los_n {n i J : Nat} (hn : n ≤ 100) (hi : i < n) (hJ : J < 2 ^ 31) (h : ∀ t, t < 8 → hbt n i t = true → stc n i t ≠ J) : los n (nI i) (nI J) (-1) := Or.inr ⟨rfl, fun i' J' t hx hy hi' hJ' ht hb => by
  have e1 : i = i' := (nI_eq (by omega) (by omega)).mp hx
  have e2 : J = J' := (nI_eq hJ hJ').mp hy
  subst e1
  subst e2
  exact h t ht hb⟩
theorem los_bt {n i0 J i : Nat} (h : ∀ t, t < i → hbt n i0 t = true → stc n i0 t ≠ J) (c : stc n i0 i ≠ J) : ∀ t, t < i + 1 → hbt n i0 t = true → stc n i0 t ≠ J := by
  intro t ht hb
  rcases Nat.lt_or_eq_of_le (Nat.le_of_lt_succ ht) with q | q
  · exact h t q hb
  · rw [q]
    exact c
theorem los_bf {n i0 J i : Nat} (h : ∀ t, t < i → hbt n i0 t = true → stc n i0 t ≠ J) (c : hbt n i0 i = false) : ∀ t, t < i + 1 → hbt n i0 t = true → stc n i0 t ≠ J := by
  intro t ht hb
  rcases Nat.lt_or_eq_of_le (Nat.le_of_lt_succ ht) with q | q
  · exact h t q hb
  · rw [q, c] at hb
    cases hb
theorem stc_t {n i t : Nat} (h : hbt n i t = true) : stc n i (t + 1) = stc n i t + 1 := by
  show stc n i t + _ = _
  rw [if_pos h]
theorem stc_f {n i t : Nat} (h : hbt n i t = false) : stc n i (t + 1) = stc n i t := by
  show stc n i t + _ = _
  rw [if_neg (by rw [h]; exact Bool.false_ne_true)]
  rfl
end
section
/-! rows of the public methods -/
theorem put_n {x : Int32} (c1 : ¬ x < 1) (c2 : ¬ 8 < x) : ∃ n : Nat, 1 ≤ n ∧ n ≤ 8 ∧ x = nI n := by
  have h0 : ¬ x < 0 := fun q => c1 (Int32.lt_trans q (by decide))
  have h8 : x ≤ 8 := Int32.not_lt.mp c2
  obtain ⟨j, hj, rfl⟩ := nI_of2 (n := 8) (M := 8) (by decide) h0 h8
  refine ⟨j, ?_, hj, rfl⟩
  rcases Nat.eq_zero_or_pos j with q | q
  · subst q
    exact absurd (by decide) c1
  · exact q
/-- byte j of n of v, the highest first -/
def pb (v : Int64) (n j : Nat) : Int32 := (((v.toUInt64 >>> ((nI (8 * (n - 1 - j))).toInt64.toUInt64 &&& Int64.toUInt64 63)).toInt64).toInt32).toInt8.toInt32
/-- the digest of the tape -/
def hsh (tp : Nat → Int32) (n : Nat) : Nat → Int32 := hm (fun j => (tp j).toInt8.toInt32) n
theorem hash_eq {id ms tp : Nat → Int32} {tl : Nat} : cat id (202 * 8) (hm (cat ms 0 (fun j => (tp j).toInt8.toInt32) tl) (0 + tl)) 8 = pn id 202 (hsh tp tl) := by
  rw [Nat.zero_add]
  refine pn_congr (hm_congr (fun j hj => ?_))
  unfold cat
  rw [if_pos (by omega)]
  rfl
theorem upup {α : Type} (f : Nat → α) (k : Nat) (v w : α) : va_up (va_up f k v) k w = va_up f k w := by
  funext j
  unfold va_up
  by_cases h : j = k
  · rw [if_pos h, if_pos h]
  · rw [if_neg h, if_neg h, if_neg h]
theorem kn_asub {a b d : Nat} (h : d ≤ a + b) : nI a + (nI b - nI d) = nI (a + b - d) := by
  rw [← pk_sub h, ← nI_add, Int32.sub_eq_add_neg, Int32.sub_eq_add_neg, Int32.add_assoc]
theorem lsv_fit1 : ∀ t, t < 8 → lsv t < 203 := by decide
theorem los_ge {n : Nat} {x y r : Int32} (h : los n x y r) (c : 0 ≤ r) : ∃ i J t : Nat, x = nI i ∧ y = nI J ∧ i < n ∧ J < 2 ^ 31 ∧ t < 8 ∧ hbt n i t = true ∧ stc n i t = J ∧ r = nI t := by
  rcases h with h | h
  · exact h
  · rw [h.1] at c
    exact absurd c (by decide)
theorem los_lt {n : Nat} {x y r : Int32} (h : los n x y r) (c : ¬ 0 ≤ r) : ∀ i J t : Nat, x = nI i → y = nI J → i < n → J < 2 ^ 31 → t < 8 → hbt n i t = true → stc n i t ≠ J := by
  rcases h with h | h
  · obtain ⟨i, J, t, -, -, -, -, ht, -, -, rfl⟩ := h
    exact absurd (nI_pos' (by omega)) c
  · exact h.2
theorem fit_x {n i t : Nat} (h1 : i < n) (h2 : n ≤ 100) (ht : t < 8) (hb : hbt n i t = true) : lsv t + xo (i / 2 ^ t) < 203 := by
  have h3 : xo (i / 2 ^ t) < wdl n t := of_decide_eq_true hb
  have h4 := wdl_mono h2 t
  have h7 := lsv_top t ht
  omega
theorem stc_mono (n i : Nat) {a b : Nat} (h : a ≤ b) : stc n i a ≤ stc n i b := by
  induction b with
  | zero =>
    have e : a = 0 := by omega
    rw [e]
    exact Nat.le_refl _
  | succ b ih =>
    rcases Nat.lt_or_eq_of_le h with q | q
    · refine Nat.le_trans (ih (by omega)) ?_
      show _ ≤ stc n i b + _
      omega
    · rw [q]
      exact Nat.le_refl _
/-- every step below the last one has its level -/
theorem stc_find (n i J : Nat) : ∀ b, J < stc n i b → ∃ t, t < b ∧ hbt n i t = true ∧ stc n i t = J := by
  intro b
  induction b with
  | zero =>
    intro h
    exact absurd h (Nat.not_lt_zero J)
  | succ b ih =>
    intro h
    by_cases q : J < stc n i b
    · obtain ⟨t, h1, h2⟩ := ih q
      exact ⟨t, by omega, h2⟩
    · cases hb : hbt n i b with
      | true =>
        rw [stc_t hb] at h
        exact ⟨b, by omega, hb, by omega⟩
      | false =>
        rw [stc_f hb] at h
        exact absurd h q
theorem way_go {n i0 i : Nat} {r : Int32} (h1 : i0 < n) (hn : n < 2 ^ 31) (hi : i < 2 ^ 31) (h : los n (nI i0) (nI i) r) (c : ¬ r < 0) : i + 1 ≤ stc n i0 8 := by
  obtain ⟨a, J, t, hx, hy, ha, hJ, ht, hb, hs, -⟩ := los_ge h (Int32.not_lt.mp c)
  have e1 : i0 = a := (nI_eq (by omega) (by omega)).mp hx
  have e2 : i = J := (nI_eq hi hJ).mp hy
  subst e1
  subst e2
  have h2 := stc_t hb
  have h3 := stc_mono n i0 (a := t + 1) (b := 8) (by omega)
  omega
theorem way_no {n i0 i : Nat} {r : Int32} (h1 : i0 < n) (hn : n < 2 ^ 31) (hi : i < 2 ^ 31) (hle : i ≤ stc n i0 8) (h : los n (nI i0) (nI i) r) (c : r < 0) : i = stc n i0 8 := by
  rcases Nat.lt_or_eq_of_le hle with q | q
  · obtain ⟨t, ht, hb, hs⟩ := stc_find n i0 i 8 q
    exact absurd hs (los_lt h (fun g => absurd (Int32.lt_of_lt_of_le c g) Int32.lt_irrefl) i0 i t rfl rfl h1 hi ht hb)
  · exact q
theorem way_8 {n i : Nat} (h : 8 ≤ stc n i 8) : nI 8 = nI (stc n i 8) := by
  have h2 := stc_le n i 8
  rw [show stc n i 8 = 8 by omega]
/-- what goes up from the leaf i, out of F -/
def pvh (n i : Nat) (id F : Nat → Int32) : Nat → Nat → Int32
  | 0 => F
  | t + 1 => if hbt n i t then (if i / 2 ^ t % 2 = 1 then ndh (nd id (lsv t + xo (i / 2 ^ t))) (pvh n i id F t) else ndh (pvh n i id F t) (nd id (lsv t + xo (i / 2 ^ t)))) else pvh n i id F t
theorem pv_f {n i t : Nat} {id F : Nat → Int32} (h : hbt n i t = false) : pn id 202 (pvh n i id F (t + 1)) = pn id 202 (pvh n i id F t) := by
  show pn id 202 (if _ then _ else _) = _
  rw [if_neg (by rw [h]; exact Bool.false_ne_true)]
theorem pn_pn {id f g : Nat → Int32} {k : Nat} : pn (pn id k f) k g = pn id k g := by
  unfold pn cat
  funext j
  by_cases q : k * 8 ≤ j ∧ j < k * 8 + 8
  · rw [if_pos q, if_pos q]
  · rw [if_neg q, if_neg q, if_neg q]
theorem fit_x2 {n i t : Nat} (h1 : i < n) (h2 : n ≤ 100) (ht : t < 8) (hb : hbt n i t = true) : lsv t + xo (i / 2 ^ t) < 202 := by
  have h3 : xo (i / 2 ^ t) < wdl n t := of_decide_eq_true hb
  have h4 := wdl_mono h2 t
  have h7 := lsv_top t ht
  omega
theorem pv_o {n i t : Nat} {id F : Nat → Int32} (h : hbt n i t = true) (hf : lsv t + xo (i / 2 ^ t) < 202) (c : i / 2 ^ t % 2 = 1) : pn (pn id 202 (pvh n i id F t)) 202 (ndh (nd (pn id 202 (pvh n i id F t)) (lsv t + xo (i / 2 ^ t))) (nd (pn id 202 (pvh n i id F t)) 202)) = pn id 202 (pvh n i id F (t + 1)) := by
  rw [pn_pn]
  refine pn_congr (fun j hj => ?_)
  show _ = (if _ then _ else _ : Nat → Int32) j
  rw [if_pos h, if_pos c]
  exact hm_ndm (fun j hj => pn_ne _ _ (by omega) hj) (fun j hj => pn_same _ _ _ hj) j hj
theorem pv_e {n i t : Nat} {id F : Nat → Int32} (h : hbt n i t = true) (hf : lsv t + xo (i / 2 ^ t) < 202) (c : i / 2 ^ t % 2 ≠ 1) : pn (pn id 202 (pvh n i id F t)) 202 (ndh (nd (pn id 202 (pvh n i id F t)) 202) (nd (pn id 202 (pvh n i id F t)) (lsv t + xo (i / 2 ^ t)))) = pn id 202 (pvh n i id F (t + 1)) := by
  rw [pn_pn]
  refine pn_congr (fun j hj => ?_)
  show _ = (if _ then _ else _ : Nat → Int32) j
  rw [if_pos h, if_neg c]
  exact hm_ndm (fun j hj => pn_same _ _ _ hj) (fun j hj => pn_ne _ _ (by omega) hj) j hj
theorem sm_congr {f f' g g' : Nat → Int32} (n : Nat) (h : ∀ j, j < n → f j = f' j) (h2 : ∀ j, j < n → g j = g' j) : sm f g n = sm f' g' n := by
  induction n with
  | zero => rfl
  | succ n ih =>
    show (sm f g n && decide (f n = g n)) = (sm f' g' n && decide (f' n = g' n))
    rw [ih (fun j hj => h j (by omega)) (fun j hj => h2 j (by omega)), h n (by omega), h2 n (by omega)]
theorem lsv_fit2 : ∀ t, t < 8 → lsv t < 202 := by decide
theorem pv_end1 {id F : Nat → Int32} {k : Nat} (hk : k < 202) (c : sm (nd (pn id 202 F) 202) (nd (pn id 202 F) k) 8 = true) : (1 : Int32) = bz (sm F (nd id k) 8) := by
  rw [sm_congr 8 (fun j hj => pn_same _ _ _ hj) (fun j hj => pn_ne _ _ (by omega) hj)] at c
  rw [c]
  rfl
theorem pv_end0 {id F : Nat → Int32} {k : Nat} (hk : k < 202) (c : sm (nd (pn id 202 F) 202) (nd (pn id 202 F) k) 8 = false) : (0 : Int32) = bz (sm F (nd id k) 8) := by
  rw [sm_congr 8 (fun j hj => pn_same _ _ _ hj) (fun j hj => pn_ne _ _ (by omega) hj)] at c
  rw [c]
  rfl
end
section
/-- the class's world: the desk, its tape, leafLengths, ids, the digest, its message, schedule, state -/
abbrev wk (q : Nat → Nat) (cB cI : ClassId) (tl lv lb ln : Nat) (tp : Nat → Int32) (ll : Nat → Nat) (id ms sc st : Nat → Int32) : va_W :=
  [(q 0, .inr (1, [.ref (q 1), .int (nI tl), .ref (q 2), .int (nI lv), .int (nI lb), .ref (q 3), .ref (q 4)])), (q 1, .inl (cB, 150, .inl tp)), (q 2, .inl (cI, 100, .inl (fun j => nI (ll j)))), (q 3, .inl (cI, 1624, .inl id)), (q 4, .inr (0, [.ref (q 5), .ref (q 6), .ref (q 7), .int (nI ln)])), (q 5, .inl (cB, 192, .inl ms)), (q 6, .inl (cI, 64, .inl sc)), (q 7, .inl (cI, 8, .inl st))]
/-- its static tables -/
abbrev zk (q : Nat → Nat) : List zT := [("RootDesk", "LEVEL_START", q 8, 8, fun j => nI (lsv j)), ("RootDesk$Digest", "FIRST_STATE", q 9, 8, fsv), ("RootDesk$Digest", "ROUND_WORDS", q 10, 64, rwv)]
end
section
set_option maxHeartbeats 4000000 in
set_option maxRecDepth 100000 in
/-- turn: to the right -/
theorem c_D_turn (l : Launch) (D : va_G) (A : Nat → Prop) (q : Nat → Nat) (cB cI : ClassId) (ws : va_W) (w : Int32) (n : Int32) : Ki (S := Unit) l yX0_turn wsX0_turn { frames := 0, cells := 0, slots := 0, locals := 0 } D vwCl [(cB, .byte), (cI, .int)] A (zk q) [.int w, .int n] ws (fun r _ => r = (tn (w) (n))) (fun _ => ws) := by
  refine Met.ofW (cc := cX0_turn) (maxL := 2) (ret := (some .int)) (by decide) rfl ?_
  intro p e s m args below meth c s₁ B hml hv
  obtain ⟨rfl, hP, hK, hD, hZ⟩ := hv
  have hx := B.exec
  have hb := B.bytes
  have hr := B.returns
  have hts := atoms_spec (ws := wsX0_turn) B.pre
  have hown : s.vm.findClass RX0 = some m.cls := findClass_of_methodNamed B.named
  have hlocks := B.notSynchronized
  have hS : va_S A s.heap s.heap [] := va_S.rf
  have hl := lv_entry ([.int w, .int n]) (n := 2) (Nat.le_of_ble_eq_true rfl)
  rw [lg_entry_eq]
  generalize (lg_sl ([.int w, .int n]) ++ List.replicate (2 - (lg_sl ([.int w, .int n])).length) Slot.unset).toArray = ls at hl ⊢
  have hl : lv_has ls 2 [(0, .int w), (1, .int n)] := hl
  refine lv_iload_n hx hb dX0_turn_0 rfl (lv_at hl 0 rfl) ?_
  refine lv_iload_n hx hb dX0_turn_1 rfl (lv_at hl 1 rfl) ?_
  refine lv_iushr hx hb dX0_turn_2 rfl ?_
  refine lv_iload_n hx hb dX0_turn_3 rfl (lv_at hl 0 rfl) ?_
  refine lv_bipush (v := ((32 : Int32))) hx hb dX0_turn_4 (by decide) ?_
  refine lv_iload_n hx hb dX0_turn_6 rfl (lv_at hl 1 rfl) ?_
  refine lv_isub hx hb dX0_turn_7 ?_
  refine lv_ishl hx hb dX0_turn_8 ?_
  refine lv_ior hx hb dX0_turn_9 ?_
  exact kr_i (()) hx hb hr hlocks hK hP hD hS (rfl) dX0_turn_10

set_option maxHeartbeats 4000000 in
set_option maxRecDepth 100000 in
/-- begin: nothing taken -/
theorem c_D_begin (l : Launch) (D : va_G) (A : Nat → Prop) (q : Nat → Nat) (cB cI : ClassId) (tl lv lb ln : Nat) (tp : Nat → Int32) (ll : Nat → Nat) (id ms sc st : Nat → Int32) : Kv (S := Unit) l yX0_begin wsX0_begin { frames := 0, cells := 0, slots := 0, locals := 0 } D vwCl [(cB, .byte), (cI, .int)] A (zk q) [.ref (q 4)] (wk q cB cI tl lv lb ln tp ll id ms sc st) (fun _ => True) (fun _ => (wk q cB cI tl lv lb 0 tp ll id ms sc st)) := by
  refine Met.ofW (cc := cX0_begin) (maxL := 1) (ret := none) (by decide) rfl ?_
  intro p e s m args below meth c s₁ B hml hv
  obtain ⟨rfl, hP, hK, hD, hZ⟩ := hv
  have hx := B.exec
  have hb := B.bytes
  have hr := B.returns
  have hts := atoms_spec (ws := wsX0_begin) B.pre
  have hown : s.vm.findClass RX0 = some m.cls := findClass_of_methodNamed B.named
  have hlocks := B.notSynchronized
  have hS : va_S A s.heap s.heap [] := va_S.rf
  have hin_0 : ∀ w ∈ u_ws RX0 TX0 4, w ∈ wsX0_begin := by decide +kernel
  have lk_22 := hts (.fieldLink RX0 22 "RootDesk$Digest" "length" "I") (by decide +kernel)
  have hl := lv_entry ([.ref (q 4)]) (n := 1) (Nat.le_of_ble_eq_true rfl)
  rw [lg_entry_eq]
  generalize (lg_sl ([.ref (q 4)]) ++ List.replicate (1 - (lg_sl ([.ref (q 4)])).length) Slot.unset).toArray = ls at hl ⊢
  have hl : lv_has ls 1 [(0, .ref (q 4))] := hl
  refine lv_aload_n hx hb dX0_begin_0 rfl (lv_at hl 0 rfl) ?_
  refine lv_iconst (v := (nI (0))) hx hb dX0_begin_1 (by decide) ?_
  refine va_put (D := D) (ci := 0) (v := .int (nI 0)) (ty := .int) (C := RX0) (T := TX0) (N := 4) hx hb hts hin_0 tyX0 tyX0_ok nmX0 hown hK hP hD hS 4 rfl rfl 3 (by decide) lk_22 (fun _ h9 => h9) rfl (by decide +kernel) rfl rfl (Nat.le_of_ble_eq_true rfl) dX0_begin_2 (fun H locs hP hD hS => ?_)
  have hP : va_P D vwCl (wk q cB cI tl lv lb 0 tp ll id ms sc st) H := hP
  have hD : va_D A (wk q cB cI tl lv lb 0 tp ll id ms sc st) := hD
  exact kr_v (()) hx hb hr hlocks hK hP hD hS (trivial) dX0_begin_5

set_option maxHeartbeats 4000000 in
set_option maxRecDepth 100000 in
/-- takeByte: one byte more -/
theorem c_D_takeByte (l : Launch) (D : va_G) (A : Nat → Prop) (q : Nat → Nat) (cB cI : ClassId) (tl lv lb ln : Nat) (tp : Nat → Int32) (ll : Nat → Nat) (id ms sc st : Nat → Int32) (b : Int32) (h1 : ln < 192) : Kv (S := Unit) l yX0_takeByte wsX0_takeByte { frames := 0, cells := 0, slots := 0, locals := 0 } D vwCl [(cB, .byte), (cI, .int)] A (zk q) [.ref (q 4), .int b] (wk q cB cI tl lv lb ln tp ll id ms sc st) (fun _ => True) (fun _ => (wk q cB cI tl lv lb (ln + 1) tp ll id (upd ms ln (((b)).toInt8.toInt32)) sc st)) := by
  refine Met.ofW (cc := cX0_takeByte) (maxL := 2) (ret := none) (by decide) rfl ?_
  intro p e s m args below meth c s₁ B hml hv
  obtain ⟨rfl, hP, hK, hD, hZ⟩ := hv
  have hx := B.exec
  have hb := B.bytes
  have hr := B.returns
  have hts := atoms_spec (ws := wsX0_takeByte) B.pre
  have hown : s.vm.findClass RX0 = some m.cls := findClass_of_methodNamed B.named
  have hlocks := B.notSynchronized
  have hS : va_S A s.heap s.heap [] := va_S.rf
  have hin_0 : ∀ w ∈ u_ws RX0 TX0 4, w ∈ wsX0_takeByte := by decide +kernel
  have lk_11 := hts (.fieldLink RX0 11 "RootDesk$Digest" "message" "[B") (by decide +kernel)
  have lk_22 := hts (.fieldLink RX0 22 "RootDesk$Digest" "length" "I") (by decide +kernel)
  have hl := lv_entry ([.ref (q 4), .int b]) (n := 2) (Nat.le_of_ble_eq_true rfl)
  rw [lg_entry_eq]
  generalize (lg_sl ([.ref (q 4), .int b]) ++ List.replicate (2 - (lg_sl ([.ref (q 4), .int b])).length) Slot.unset).toArray = ls at hl ⊢
  have hl : lv_has ls 2 [(0, .ref (q 4)), (1, .int b)] := hl
  refine lv_aload_n hx hb dX0_takeByte_0 rfl (lv_at hl 0 rfl) ?_
  refine va_get (D := D) (ci := 0) (v := .int (nI ln)) (C := RX0) (T := TX0) (N := 4) hx hb hts hin_0 hown hK hP 4 rfl rfl 3 (by decide) lk_22 (fun _ h9 => h9) rfl dX0_takeByte_1 ?_
  refine lv_sipush (v := (nI (192))) hx hb dX0_takeByte_4 (by decide) ?_
  refine lv_icmp_ge (tgt := 31) hx hb dX0_takeByte_7 (by decide) (fun c_7 => absurd (kn_le c_7 (by omega) (by omega)) (by omega)) (fun c_7 => ?_)
  have c_7 : ln < 192 := kn_nle c_7 (by omega) (by omega)
  refine lv_aload_n hx hb dX0_takeByte_10 rfl (lv_at hl 0 rfl) ?_
  refine va_get (D := D) (ci := 0) (v := .ref (q 5)) (C := RX0) (T := TX0) (N := 4) hx hb hts hin_0 hown hK hP 4 rfl rfl 0 (by decide) lk_11 (fun _ h9 => h9) rfl dX0_takeByte_11 ?_
  refine lv_aload_n hx hb dX0_takeByte_14 rfl (lv_at hl 0 rfl) ?_
  refine va_get (D := D) (ci := 0) (v := .int (nI ln)) (C := RX0) (T := TX0) (N := 4) hx hb hts hin_0 hown hK hP 4 rfl rfl 3 (by decide) lk_22 (fun _ h9 => h9) rfl dX0_takeByte_15 ?_
  refine lv_iload_n hx hb dX0_takeByte_18 rfl (lv_at hl 1 rfl) ?_
  refine lv_i2b hx hb dX0_takeByte_19 rfl ?_
  refine kb_bast hx hb hK hP hD hS 5 0 rfl rfl (ln) (rfl) (by omega) (by decide) (pk_vb _) dX0_takeByte_20 (fun H locs hP hD hS => ?_)
  have hP : va_P D vwCl (wk q cB cI tl lv lb ln tp ll id (upd ms (ln) ((((b)).toInt8.toInt32))) sc st) H := hP
  have hD : va_D A (wk q cB cI tl lv lb ln tp ll id (upd ms (ln) ((((b)).toInt8.toInt32))) sc st) := hD
  refine lv_aload_n hx hb dX0_takeByte_21 rfl (lv_at hl 0 rfl) ?_
  refine lv_dup hx hb dX0_takeByte_22 rfl ?_
  refine va_get (D := D) (ci := 0) (v := .int (nI ln)) (C := RX0) (T := TX0) (N := 4) hx hb hts hin_0 hown hK hP 4 rfl rfl 3 (by decide) lk_22 (fun _ h9 => h9) rfl dX0_takeByte_23 ?_
  refine lv_iconst (v := (nI (1))) hx hb dX0_takeByte_26 (by decide) ?_
  refine lv_iadd hx hb dX0_takeByte_27 ?_
  refine kp_i (nI_add _ _) ?_
  refine va_put (D := D) (ci := 0) (v := .int (nI (ln + 1))) (ty := .int) (C := RX0) (T := TX0) (N := 4) hx hb hts hin_0 tyX0 tyX0_ok nmX0 hown hK hP hD hS 4 rfl rfl 3 (by decide) lk_22 (fun _ h9 => h9) rfl (by decide +kernel) rfl rfl (Nat.le_of_ble_eq_true rfl) dX0_takeByte_28 (fun H locs hP hD hS => ?_)
  have hP : va_P D vwCl (wk q cB cI tl lv lb (ln + 1) tp ll id (upd ms (ln) ((((b)).toInt8.toInt32))) sc st) H := hP
  have hD : va_D A (wk q cB cI tl lv lb (ln + 1) tp ll id (upd ms (ln) ((((b)).toInt8.toInt32))) sc st) := hD
  exact kr_v (()) hx hb hr hlocks hK hP hD hS (trivial) dX0_takeByte_31

set_option maxHeartbeats 4000000 in
set_option maxRecDepth 100000 in
/-- takeWord: four bytes -/
theorem c_D_takeWord (l : Launch) (D : va_G) (A : Nat → Prop) (q : Nat → Nat) (cB cI : ClassId) (tl lv lb ln : Nat) (tp : Nat → Int32) (ll : Nat → Nat) (id ms sc st : Nat → Int32) (w : Int32) (h1 : ln + 4 ≤ 192) : Kv (S := Unit) l yX0_takeWord wsX0_takeWord { frames := 1, cells := 0, slots := 0, locals := 21 } D vwCl [(cB, .byte), (cI, .int)] A (zk q) [.ref (q 4), .int w] (wk q cB cI tl lv lb ln tp ll id ms sc st) (fun _ => True) (fun _ => (wk q cB cI tl lv lb (ln + 4) tp ll id (upd (upd (upd (upd ms (ln) (wb (w) 0)) (ln + 1) (wb (w) 1)) (ln + 2) (wb (w) 2)) (ln + 3) (wb (w) 3)) sc st)) := by
  refine Met.ofW (cc := cX0_takeWord) (maxL := 2) (ret := none) (by decide) rfl ?_
  intro p e s m args below meth c s₁ B hml hv
  obtain ⟨rfl, hP, hK, hD, hZ⟩ := hv
  have hx := B.exec
  have hb := B.bytes
  have hr := B.returns
  have hts := atoms_spec (ws := wsX0_takeWord) B.pre
  have hown : s.vm.findClass RX0 = some m.cls := findClass_of_methodNamed B.named
  have hlocks := B.notSynchronized
  have hS : va_S A s.heap s.heap [] := va_S.rf
  have hl := lv_entry ([.ref (q 4), .int w]) (n := 2) (Nat.le_of_ble_eq_true rfl)
  rw [lg_entry_eq]
  generalize (lg_sl ([.ref (q 4), .int w]) ++ List.replicate (2 - (lg_sl ([.ref (q 4), .int w])).length) Slot.unset).toArray = ls at hl ⊢
  have hl : lv_has ls 2 [(0, .ref (q 4)), (1, .int w)] := hl
  refine lv_aload_n hx hb dX0_takeWord_0 rfl (lv_at hl 0 rfl) ?_
  refine lv_iload_n hx hb dX0_takeWord_1 rfl (lv_at hl 1 rfl) ?_
  refine lv_bipush (v := ((24 : Int32))) hx hb dX0_takeWord_2 (by decide) ?_
  refine lv_iushr hx hb dX0_takeWord_4 rfl ?_
  refine kc_v (As := [.int ((((w)).toUInt32 >>> ((((24 : Int32))).toUInt32 &&& Int32.toUInt32 31)).toInt32)]) (rest := []) ⟨hx, hb, hml, hown, hts⟩ (c_D_takeByte l D A q cB cI tl lv lb ln tp ll id ms sc st (((((w)).toUInt32 >>> ((((24 : Int32))).toUInt32 &&& Int32.toUInt32 31)).toInt32)) (by omega)) (cwV 1 hts gX0_takeWord_X0_takeByte rfl rfl rfl (by decide +kernel) ⟨Nat.le_of_ble_eq_true rfl, Nat.le_of_ble_eq_true rfl⟩) (va_recv hK hP (ci := 0) (q0 := 4) rfl rfl) hK hP hD hS hZ rfl hl.1 rfl (Nat.le_of_ble_eq_true rfl) ⟨Nat.zero_le _, Nat.zero_le _⟩ dX0_takeWord_5 (fun _ H locs _ hP hD hS => ?_)
  have hP : va_P D vwCl (wk q cB cI tl lv lb (ln + 1) tp ll id (upd ms ln ((((((w)).toUInt32 >>> ((((24 : Int32))).toUInt32 &&& Int32.toUInt32 31)).toInt32)).toInt8.toInt32)) sc st) H := hP
  have hD : va_D A (wk q cB cI tl lv lb (ln + 1) tp ll id (upd ms ln ((((((w)).toUInt32 >>> ((((24 : Int32))).toUInt32 &&& Int32.toUInt32 31)).toInt32)).toInt8.toInt32)) sc st) := hD
  refine lv_aload_n hx hb dX0_takeWord_8 rfl (lv_at hl 0 rfl) ?_
  refine lv_iload_n hx hb dX0_takeWord_9 rfl (lv_at hl 1 rfl) ?_
  refine lv_bipush (v := ((16 : Int32))) hx hb dX0_takeWord_10 (by decide) ?_
  refine lv_iushr hx hb dX0_takeWord_12 rfl ?_
  refine kc_v (As := [.int ((((w)).toUInt32 >>> ((((16 : Int32))).toUInt32 &&& Int32.toUInt32 31)).toInt32)]) (rest := []) ⟨hx, hb, hml, hown, hts⟩ (c_D_takeByte l D A q cB cI tl lv lb (ln + 1) tp ll id (upd ms ln ((((((w)).toUInt32 >>> ((((24 : Int32))).toUInt32 &&& Int32.toUInt32 31)).toInt32)).toInt8.toInt32)) sc st (((((w)).toUInt32 >>> ((((16 : Int32))).toUInt32 &&& Int32.toUInt32 31)).toInt32)) (by omega)) (cwV 1 hts gX0_takeWord_X0_takeByte rfl rfl rfl (by decide +kernel) ⟨Nat.le_of_ble_eq_true rfl, Nat.le_of_ble_eq_true rfl⟩) (va_recv hK hP (ci := 0) (q0 := 4) rfl rfl) hK hP hD hS hZ rfl hl.1 rfl (Nat.le_of_ble_eq_true rfl) ⟨Nat.zero_le _, Nat.zero_le _⟩ dX0_takeWord_13 (fun _ H locs _ hP hD hS => ?_)
  have hP : va_P D vwCl (wk q cB cI tl lv lb ((ln + 1) + 1) tp ll id (upd (upd ms ln ((((((w)).toUInt32 >>> ((((24 : Int32))).toUInt32 &&& Int32.toUInt32 31)).toInt32)).toInt8.toInt32)) (ln + 1) ((((((w)).toUInt32 >>> ((((16 : Int32))).toUInt32 &&& Int32.toUInt32 31)).toInt32)).toInt8.toInt32)) sc st) H := hP
  have hD : va_D A (wk q cB cI tl lv lb ((ln + 1) + 1) tp ll id (upd (upd ms ln ((((((w)).toUInt32 >>> ((((24 : Int32))).toUInt32 &&& Int32.toUInt32 31)).toInt32)).toInt8.toInt32)) (ln + 1) ((((((w)).toUInt32 >>> ((((16 : Int32))).toUInt32 &&& Int32.toUInt32 31)).toInt32)).toInt8.toInt32)) sc st) := hD
  refine lv_aload_n hx hb dX0_takeWord_16 rfl (lv_at hl 0 rfl) ?_
  refine lv_iload_n hx hb dX0_takeWord_17 rfl (lv_at hl 1 rfl) ?_
  refine lv_bipush (v := ((8 : Int32))) hx hb dX0_takeWord_18 (by decide) ?_
  refine lv_iushr hx hb dX0_takeWord_20 rfl ?_
  refine kc_v (As := [.int ((((w)).toUInt32 >>> ((((8 : Int32))).toUInt32 &&& Int32.toUInt32 31)).toInt32)]) (rest := []) ⟨hx, hb, hml, hown, hts⟩ (c_D_takeByte l D A q cB cI tl lv lb ((ln + 1) + 1) tp ll id (upd (upd ms ln ((((((w)).toUInt32 >>> ((((24 : Int32))).toUInt32 &&& Int32.toUInt32 31)).toInt32)).toInt8.toInt32)) (ln + 1) ((((((w)).toUInt32 >>> ((((16 : Int32))).toUInt32 &&& Int32.toUInt32 31)).toInt32)).toInt8.toInt32)) sc st (((((w)).toUInt32 >>> ((((8 : Int32))).toUInt32 &&& Int32.toUInt32 31)).toInt32)) (by omega)) (cwV 1 hts gX0_takeWord_X0_takeByte rfl rfl rfl (by decide +kernel) ⟨Nat.le_of_ble_eq_true rfl, Nat.le_of_ble_eq_true rfl⟩) (va_recv hK hP (ci := 0) (q0 := 4) rfl rfl) hK hP hD hS hZ rfl hl.1 rfl (Nat.le_of_ble_eq_true rfl) ⟨Nat.zero_le _, Nat.zero_le _⟩ dX0_takeWord_21 (fun _ H locs _ hP hD hS => ?_)
  have hP : va_P D vwCl (wk q cB cI tl lv lb (((ln + 1) + 1) + 1) tp ll id (upd (upd (upd ms ln ((((((w)).toUInt32 >>> ((((24 : Int32))).toUInt32 &&& Int32.toUInt32 31)).toInt32)).toInt8.toInt32)) (ln + 1) ((((((w)).toUInt32 >>> ((((16 : Int32))).toUInt32 &&& Int32.toUInt32 31)).toInt32)).toInt8.toInt32)) ((ln + 1) + 1) ((((((w)).toUInt32 >>> ((((8 : Int32))).toUInt32 &&& Int32.toUInt32 31)).toInt32)).toInt8.toInt32)) sc st) H := hP
  have hD : va_D A (wk q cB cI tl lv lb (((ln + 1) + 1) + 1) tp ll id (upd (upd (upd ms ln ((((((w)).toUInt32 >>> ((((24 : Int32))).toUInt32 &&& Int32.toUInt32 31)).toInt32)).toInt8.toInt32)) (ln + 1) ((((((w)).toUInt32 >>> ((((16 : Int32))).toUInt32 &&& Int32.toUInt32 31)).toInt32)).toInt8.toInt32)) ((ln + 1) + 1) ((((((w)).toUInt32 >>> ((((8 : Int32))).toUInt32 &&& Int32.toUInt32 31)).toInt32)).toInt8.toInt32)) sc st) := hD
  refine lv_aload_n hx hb dX0_takeWord_24 rfl (lv_at hl 0 rfl) ?_
  refine lv_iload_n hx hb dX0_takeWord_25 rfl (lv_at hl 1 rfl) ?_
  refine kc_v (As := [.int w]) (rest := []) ⟨hx, hb, hml, hown, hts⟩ (c_D_takeByte l D A q cB cI tl lv lb (((ln + 1) + 1) + 1) tp ll id (upd (upd (upd ms ln ((((((w)).toUInt32 >>> ((((24 : Int32))).toUInt32 &&& Int32.toUInt32 31)).toInt32)).toInt8.toInt32)) (ln + 1) ((((((w)).toUInt32 >>> ((((16 : Int32))).toUInt32 &&& Int32.toUInt32 31)).toInt32)).toInt8.toInt32)) ((ln + 1) + 1) ((((((w)).toUInt32 >>> ((((8 : Int32))).toUInt32 &&& Int32.toUInt32 31)).toInt32)).toInt8.toInt32)) sc st ((w)) (by omega)) (cwV 1 hts gX0_takeWord_X0_takeByte rfl rfl rfl (by decide +kernel) ⟨Nat.le_of_ble_eq_true rfl, Nat.le_of_ble_eq_true rfl⟩) (va_recv hK hP (ci := 0) (q0 := 4) rfl rfl) hK hP hD hS hZ rfl hl.1 rfl (Nat.le_of_ble_eq_true rfl) ⟨Nat.zero_le _, Nat.zero_le _⟩ dX0_takeWord_26 (fun _ H locs _ hP hD hS => ?_)
  have hP : va_P D vwCl (wk q cB cI tl lv lb ((((ln + 1) + 1) + 1) + 1) tp ll id (upd (upd (upd (upd ms ln ((((((w)).toUInt32 >>> ((((24 : Int32))).toUInt32 &&& Int32.toUInt32 31)).toInt32)).toInt8.toInt32)) (ln + 1) ((((((w)).toUInt32 >>> ((((16 : Int32))).toUInt32 &&& Int32.toUInt32 31)).toInt32)).toInt8.toInt32)) ((ln + 1) + 1) ((((((w)).toUInt32 >>> ((((8 : Int32))).toUInt32 &&& Int32.toUInt32 31)).toInt32)).toInt8.toInt32)) (((ln + 1) + 1) + 1) (((w)).toInt8.toInt32)) sc st) H := hP
  have hD : va_D A (wk q cB cI tl lv lb ((((ln + 1) + 1) + 1) + 1) tp ll id (upd (upd (upd (upd ms ln ((((((w)).toUInt32 >>> ((((24 : Int32))).toUInt32 &&& Int32.toUInt32 31)).toInt32)).toInt8.toInt32)) (ln + 1) ((((((w)).toUInt32 >>> ((((16 : Int32))).toUInt32 &&& Int32.toUInt32 31)).toInt32)).toInt8.toInt32)) ((ln + 1) + 1) ((((((w)).toUInt32 >>> ((((8 : Int32))).toUInt32 &&& Int32.toUInt32 31)).toInt32)).toInt8.toInt32)) (((ln + 1) + 1) + 1) (((w)).toInt8.toInt32)) sc st) := hD
  exact kr_v (()) hx hb hr hlocks hK hP hD hS (trivial) dX0_takeWord_29

set_option maxHeartbeats 4000000 in
set_option maxRecDepth 100000 in
/-- takeBytes: the first n bytes of the tape -/
theorem c_D_takeBytes (l : Launch) (D : va_G) (A : Nat → Prop) (q : Nat → Nat) (cB cI : ClassId) (tl lv lb ln : Nat) (tp : Nat → Int32) (ll : Nat → Nat) (id ms sc st : Nat → Int32) (n : Nat) (h1 : n ≤ 150) (h2 : ln + n ≤ 192) : Kv (S := Unit) l yX0_takeBytes wsX0_takeBytes { frames := 1, cells := 0, slots := 0, locals := 21 } D vwCl [(cB, .byte), (cI, .int)] A (zk q) [.ref (q 4), .ref (q 1), .int (nI n)] (wk q cB cI tl lv lb ln tp ll id ms sc st) (fun _ => True) (fun _ => (wk q cB cI tl lv lb (ln + n) tp ll id (cat ms ln (fun j => (tp j).toInt8.toInt32) n) sc st)) := by
  refine Met.ofW (cc := cX0_takeBytes) (maxL := 4) (ret := none) (by decide) rfl ?_
  intro p e s m args below meth c s₁ B hml hv
  obtain ⟨rfl, hP, hK, hD, hZ⟩ := hv
  have hx := B.exec
  have hb := B.bytes
  have hr := B.returns
  have hts := atoms_spec (ws := wsX0_takeBytes) B.pre
  have hown : s.vm.findClass RX0 = some m.cls := findClass_of_methodNamed B.named
  have hlocks := B.notSynchronized
  have hS : va_S A s.heap s.heap [] := va_S.rf
  have hl := lv_entry ([.ref (q 4), .ref (q 1), .int (nI n)]) (n := 4) (Nat.le_of_ble_eq_true rfl)
  rw [lg_entry_eq]
  generalize (lg_sl ([.ref (q 4), .ref (q 1), .int (nI n)]) ++ List.replicate (4 - (lg_sl ([.ref (q 4), .ref (q 1), .int (nI n)])).length) Slot.unset).toArray = ls at hl ⊢
  have hl : lv_has ls 4 [(0, .ref (q 4)), (1, .ref (q 1)), (2, .int (nI n))] := hl
  rw [← cat_0 ms ln (fun j => (tp j).toInt8.toInt32)] at hP hD
  refine lv_iconst (v := (nI (0))) hx hb dX0_takeBytes_0 (by decide) ?_
  refine lv_istore_n (lv' := [(3, .int (nI 0)), (0, .ref (q 4)), (1, .ref (q 1)), (2, .int (nI n))]) hx hb dX0_takeBytes_1 rfl hl (by decide) rfl (fun ls hl => ?_)
  refine kp_lp (hd := 2) (nn := n) (fun (i : Nat) (H : Heap) (locs : List Loc) (ls : Array Slot) => va_P D vwCl (wk q cB cI tl lv lb (ln + i) tp ll id (cat ms ln (fun j => (tp j).toInt8.toInt32) i) sc st) H ∧ va_D A (wk q cB cI tl lv lb (ln + i) tp ll id (cat ms ln (fun j => (tp j).toInt8.toInt32) i) sc st) ∧ va_S A s.heap H locs ∧ lv_has ls 4 [(0, .ref (q 4)), (1, .ref (q 1)), (2, .int (nI n)), (3, .int (nI i))]) ?_ 0 (by omega) _ _ _ ⟨hP, hD, hS, (lv_sub hl [1, 2, 3, 0] rfl)⟩
  intro i hiN H locs ls hI ih
  obtain ⟨hP, hD, hS, hl⟩ := hI
  refine lv_iload_n hx hb dX0_takeBytes_2 rfl (lv_at hl 3 rfl) ?_
  refine lv_iload_n hx hb dX0_takeBytes_3 rfl (lv_at hl 2 rfl) ?_
  refine lv_icmp_ge (tgt := 26) hx hb dX0_takeBytes_4 (by decide) (fun c_4 => ?_) (fun c_4 => ?_)
  · have c_4 : n ≤ i := kn_le c_4 (by omega) (by omega)
    have e9 : n = i := by omega
    subst e9
    exact kr_v (()) hx hb hr hlocks hK hP hD hS (trivial) dX0_takeBytes_26
  · have c_4 : i < n := kn_nle c_4 (by omega) (by omega)
    have hlt : i < n := c_4
    refine lv_iload_n hx hb dX0_takeBytes_7 rfl (lv_at hl 3 rfl) ?_
    refine lv_aload_n hx hb dX0_takeBytes_8 rfl (lv_at hl 1 rfl) ?_
    refine va_alen (v := nI 150) hx hb hK hP 1 0 rfl rfl rfl dX0_takeBytes_9 ?_
    refine lv_icmp_ge (tgt := 26) hx hb dX0_takeBytes_10 (by decide) (fun c_10 => absurd (kn_le c_10 (by omega) (by omega)) (by omega)) (fun c_10 => ?_)
    have c_10 : i < 150 := kn_nle c_10 (by omega) (by omega)
    refine lv_aload_n hx hb dX0_takeBytes_13 rfl (lv_at hl 0 rfl) ?_
    refine lv_aload_n hx hb dX0_takeBytes_14 rfl (lv_at hl 1 rfl) ?_
    refine lv_iload_n hx hb dX0_takeBytes_15 rfl (lv_at hl 3 rfl) ?_
    refine kb_bald hx hb hK hP 1 0 rfl rfl (i) (rfl) (by omega) (by decide) dX0_takeBytes_16 ?_
    refine kc_v (As := [.int (tp (i))]) (rest := []) ⟨hx, hb, hml, hown, hts⟩ (c_D_takeByte l D A q cB cI tl lv lb (ln + i) tp ll id (cat ms ln (fun j => (tp j).toInt8.toInt32) i) sc st ((tp (i))) (by omega)) (cwV 1 hts gX0_takeBytes_X0_takeByte rfl rfl rfl (by decide +kernel) ⟨Nat.le_of_ble_eq_true rfl, Nat.le_of_ble_eq_true rfl⟩) (va_recv hK hP (ci := 0) (q0 := 4) rfl rfl) hK hP hD hS hZ rfl hl.1 rfl (Nat.le_of_ble_eq_true rfl) ⟨Nat.zero_le _, Nat.zero_le _⟩ dX0_takeBytes_17 (fun _ H locs _ hP hD hS => ?_)
    have hP : va_P D vwCl (wk q cB cI tl lv lb ((ln + i) + 1) tp ll id (upd (cat ms ln (fun j => (tp j).toInt8.toInt32) i) (ln + i) (((tp (i))).toInt8.toInt32)) sc st) H := hP
    have hD : va_D A (wk q cB cI tl lv lb ((ln + i) + 1) tp ll id (upd (cat ms ln (fun j => (tp j).toInt8.toInt32) i) (ln + i) (((tp (i))).toInt8.toInt32)) sc st) := hD
    rw [cat_s _ _ _ _ rfl] at hP hD
    have hP : va_P D vwCl (wk q cB cI tl lv lb ((ln + i) + 1) tp ll id (cat ms ln (fun j => (tp j).toInt8.toInt32) (i + 1)) sc st) H := hP
    have hD : va_D A (wk q cB cI tl lv lb ((ln + i) + 1) tp ll id (cat ms ln (fun j => (tp j).toInt8.toInt32) (i + 1)) sc st) := hD
    refine lv_iinc (v := (nI (i + 1))) (lv' := [(3, .int (nI (i + 1))), (0, .ref (q 4)), (1, .ref (q 1)), (2, .int (nI n))]) hx hb dX0_takeBytes_20 hl (k := 3) rfl (kn_inc _ _ 1 rfl) (by decide) rfl (fun ls hl => ?_)
    refine lv_goto (tgt := 2) hx hb dX0_takeBytes_23 (by decide) ?_
    exact ih hlt _ _ _ ⟨hP, hD, hS, (lv_sub hl [1, 2, 3, 0] rfl)⟩

set_option maxHeartbeats 4000000 in
set_option maxRecDepth 100000 in
/-- takeId: the 32 bytes of the id at a -/
theorem c_D_takeId (l : Launch) (D : va_G) (A : Nat → Prop) (q : Nat → Nat) (cB cI : ClassId) (tl lv lb ln : Nat) (tp : Nat → Int32) (ll : Nat → Nat) (id ms sc st : Nat → Int32) (a : Nat) (h1 : a + 8 ≤ 1624) (h2 : ln + 32 ≤ 192) : Kv (S := Unit) l yX0_takeId wsX0_takeId { frames := 2, cells := 0, slots := 0, locals := 42 } D vwCl [(cB, .byte), (cI, .int)] A (zk q) [.ref (q 4), .ref (q 3), .int (nI a)] (wk q cB cI tl lv lb ln tp ll id ms sc st) (fun _ => True) (fun _ => (wk q cB cI tl lv lb (ln + 32) tp ll id (cat ms ln (fun j => wb (id (a + j / 4)) (j % 4)) 32) sc st)) := by
  refine Met.ofW (cc := cX0_takeId) (maxL := 4) (ret := none) (by decide) rfl ?_
  intro p e s m args below meth c s₁ B hml hv
  obtain ⟨rfl, hP, hK, hD, hZ⟩ := hv
  have hx := B.exec
  have hb := B.bytes
  have hr := B.returns
  have hts := atoms_spec (ws := wsX0_takeId) B.pre
  have hown : s.vm.findClass RX0 = some m.cls := findClass_of_methodNamed B.named
  have hlocks := B.notSynchronized
  have hS : va_S A s.heap s.heap [] := va_S.rf
  have hl := lv_entry ([.ref (q 4), .ref (q 3), .int (nI a)]) (n := 4) (Nat.le_of_ble_eq_true rfl)
  rw [lg_entry_eq]
  generalize (lg_sl ([.ref (q 4), .ref (q 3), .int (nI a)]) ++ List.replicate (4 - (lg_sl ([.ref (q 4), .ref (q 3), .int (nI a)])).length) Slot.unset).toArray = ls at hl ⊢
  have hl : lv_has ls 4 [(0, .ref (q 4)), (1, .ref (q 3)), (2, .int (nI a))] := hl
  rw [← cat_0 ms ln (fun j => wb (id (a + j / 4)) (j % 4))] at hP hD
  refine lv_iload_n hx hb dX0_takeId_0 rfl (lv_at hl 2 rfl) ?_
  refine lv_if_lt (tgt := 13) hx hb dX0_takeId_1 (by decide) (fun c_1 => absurd c_1 (nI_pos (by omega))) (fun c_1 => ?_)
  refine lv_iload_n hx hb dX0_takeId_4 rfl (lv_at hl 2 rfl) ?_
  refine lv_bipush (v := (nI (8))) hx hb dX0_takeId_5 (by decide) ?_
  refine lv_iadd hx hb dX0_takeId_7 ?_
  refine kp_i (nI_add _ _) ?_
  refine lv_aload_n hx hb dX0_takeId_8 rfl (lv_at hl 1 rfl) ?_
  refine va_alen (v := nI 1624) hx hb hK hP 3 1 rfl rfl rfl dX0_takeId_9 ?_
  refine lv_icmp_le (tgt := 14) hx hb dX0_takeId_10 (by decide) (fun c_10 => ?_) (fun c_10 => absurd (kn_nle c_10 (by omega) (by omega)) (by omega))
  have c_10 : (a + 8) ≤ 1624 := kn_le c_10 (by omega) (by omega)
  refine lv_iconst (v := (nI (0))) hx hb dX0_takeId_14 (by decide) ?_
  refine lv_istore_n (lv' := [(3, .int (nI 0)), (0, .ref (q 4)), (1, .ref (q 3)), (2, .int (nI a))]) hx hb dX0_takeId_15 rfl hl (by decide) rfl (fun ls hl => ?_)
  refine kp_lp (hd := 16) (nn := 8) (fun (i : Nat) (H : Heap) (locs : List Loc) (ls : Array Slot) => va_P D vwCl (wk q cB cI tl lv lb (ln + 4 * i) tp ll id (cat ms ln (fun j => wb (id (a + j / 4)) (j % 4)) (4 * i)) sc st) H ∧ va_D A (wk q cB cI tl lv lb (ln + 4 * i) tp ll id (cat ms ln (fun j => wb (id (a + j / 4)) (j % 4)) (4 * i)) sc st) ∧ va_S A s.heap H locs ∧ lv_has ls 4 [(0, .ref (q 4)), (1, .ref (q 3)), (2, .int (nI a)), (3, .int (nI i))]) ?_ 0 (by omega) _ _ _ ⟨hP, hD, hS, (lv_sub hl [1, 2, 3, 0] rfl)⟩
  intro i hiN H locs ls hI ih
  obtain ⟨hP, hD, hS, hl⟩ := hI
  refine lv_iload_n hx hb dX0_takeId_16 rfl (lv_at hl 3 rfl) ?_
  refine lv_bipush (v := (nI (8))) hx hb dX0_takeId_17 (by decide) ?_
  refine lv_icmp_ge (tgt := 37) hx hb dX0_takeId_19 (by decide) (fun c_19 => ?_) (fun c_19 => ?_)
  · have c_19 : 8 ≤ i := kn_le c_19 (by omega) (by omega)
    have e9 : 8 = i := by omega
    subst e9
    exact kr_v (()) hx hb hr hlocks hK hP hD hS (trivial) dX0_takeId_37
  · have c_19 : i < 8 := kn_nle c_19 (by omega) (by omega)
    have hlt : i < 8 := c_19
    refine lv_aload_n hx hb dX0_takeId_22 rfl (lv_at hl 0 rfl) ?_
    refine lv_aload_n hx hb dX0_takeId_23 rfl (lv_at hl 1 rfl) ?_
    refine lv_iload_n hx hb dX0_takeId_24 rfl (lv_at hl 2 rfl) ?_
    refine lv_iload_n hx hb dX0_takeId_25 rfl (lv_at hl 3 rfl) ?_
    refine lv_iadd hx hb dX0_takeId_26 ?_
    refine kp_i (nI_add _ _) ?_
    refine kb_iald hx hb hK hP 3 1 rfl rfl (a + i) (rfl) (by omega) (by decide) dX0_takeId_27 ?_
    refine kc_v (As := [.int (id (a + i))]) (rest := []) ⟨hx, hb, hml, hown, hts⟩ (c_D_takeWord l D A q cB cI tl lv lb (ln + 4 * i) tp ll id (cat ms ln (fun j => wb (id (a + j / 4)) (j % 4)) (4 * i)) sc st ((id (a + i))) (by omega)) (cwV 1 hts gX0_takeId_X0_takeWord rfl rfl rfl (by decide +kernel) ⟨Nat.le_of_ble_eq_true rfl, Nat.le_of_ble_eq_true rfl⟩) (va_recv hK hP (ci := 0) (q0 := 4) rfl rfl) hK hP hD hS hZ rfl hl.1 rfl (Nat.le_of_ble_eq_true rfl) ⟨Nat.zero_le _, Nat.zero_le _⟩ dX0_takeId_28 (fun _ H locs _ hP hD hS => ?_)
    have hP : va_P D vwCl (wk q cB cI tl lv lb ((ln + 4 * i) + 4) tp ll id (upd (upd (upd (upd (cat ms ln (fun j => wb (id (a + j / 4)) (j % 4)) (4 * i)) (ln + 4 * i) (wb (id (a + i)) 0)) ((ln + 4 * i) + 1) (wb (id (a + i)) 1)) ((ln + 4 * i) + 2) (wb (id (a + i)) 2)) ((ln + 4 * i) + 3) (wb (id (a + i)) 3)) sc st) H := hP
    have hD : va_D A (wk q cB cI tl lv lb ((ln + 4 * i) + 4) tp ll id (upd (upd (upd (upd (cat ms ln (fun j => wb (id (a + j / 4)) (j % 4)) (4 * i)) (ln + 4 * i) (wb (id (a + i)) 0)) ((ln + 4 * i) + 1) (wb (id (a + i)) 1)) ((ln + 4 * i) + 2) (wb (id (a + i)) 2)) ((ln + 4 * i) + 3) (wb (id (a + i)) 3)) sc st) := hD
    rw [cat_w ms ln i (f := (fun j => wb (id (a + j / 4)) (j % 4))) (w := id (a + i)) (by rw [ct_d0, ct_m0]) (by rw [ct_d1, ct_m1]) (by rw [ct_d2, ct_m2]) (by rw [ct_d3, ct_m3])] at hP hD
    have hP : va_P D vwCl (wk q cB cI tl lv lb ((ln + 4 * i) + 4) tp ll id (cat ms ln (fun j => wb (id (a + j / 4)) (j % 4)) (4 * (i + 1))) sc st) H := hP
    have hD : va_D A (wk q cB cI tl lv lb ((ln + 4 * i) + 4) tp ll id (cat ms ln (fun j => wb (id (a + j / 4)) (j % 4)) (4 * (i + 1))) sc st) := hD
    refine lv_iinc (v := (nI (i + 1))) (lv' := [(3, .int (nI (i + 1))), (0, .ref (q 4)), (1, .ref (q 3)), (2, .int (nI a))]) hx hb dX0_takeId_31 hl (k := 3) rfl (kn_inc _ _ 1 rfl) (by decide) rfl (fun ls hl => ?_)
    refine lv_goto (tgt := 16) hx hb dX0_takeId_34 (by decide) ?_
    exact ih hlt _ _ _ ⟨hP, hD, hS, (lv_sub hl [1, 2, 3, 0] rfl)⟩

set_option maxHeartbeats 4000000 in
set_option maxRecDepth 100000 in
/-- pad: the padding comes behind -/
theorem c_D_pad (l : Launch) (D : va_G) (A : Nat → Prop) (q : Nat → Nat) (cB cI : ClassId) (tl lv lb ln : Nat) (tp : Nat → Int32) (ll : Nat → Nat) (id ms sc st : Nat → Int32) (h1 : ln + pl ln ≤ 192) : Kv (S := Unit) l yX0_pad wsX0_pad { frames := 1, cells := 0, slots := 0, locals := 21 } D vwCl [(cB, .byte), (cI, .int)] A (zk q) [.ref (q 4)] (wk q cB cI tl lv lb ln tp ll id ms sc st) (fun _ => True) (fun _ => (wk q cB cI tl lv lb (ln + pl ln) tp ll id (cat ms ln (pd ln) (pl ln)) sc st)) := by
  refine Met.ofW (cc := cX0_pad) (maxL := 4) (ret := none) (by decide) rfl ?_
  intro p e s m args below meth c s₁ B hml hv
  obtain ⟨rfl, hP, hK, hD, hZ⟩ := hv
  have hx := B.exec
  have hb := B.bytes
  have hr := B.returns
  have hts := atoms_spec (ws := wsX0_pad) B.pre
  have hown : s.vm.findClass RX0 = some m.cls := findClass_of_methodNamed B.named
  have hlocks := B.notSynchronized
  have hS : va_S A s.heap s.heap [] := va_S.rf
  have hin_0 : ∀ w ∈ u_ws RX0 TX0 4, w ∈ wsX0_pad := by decide +kernel
  have lk_22 := hts (.fieldLink RX0 22 "RootDesk$Digest" "length" "I") (by decide +kernel)
  have hl := lv_entry ([.ref (q 4)]) (n := 4) (Nat.le_of_ble_eq_true rfl)
  rw [lg_entry_eq]
  generalize (lg_sl ([.ref (q 4)]) ++ List.replicate (4 - (lg_sl ([.ref (q 4)])).length) Slot.unset).toArray = ls at hl ⊢
  have hl : lv_has ls 4 [(0, .ref (q 4))] := hl
  have hpl : pl ln = pz ln + 9 := rfl
  refine lv_ldc2 (v := 8) hx hb hown (hts (.constantLong RX0 45 (8)) (by decide +kernel)) dX0_pad_0 ?_
  refine lv_aload_n hx hb dX0_pad_3 rfl (lv_at hl 0 rfl) ?_
  refine va_get (D := D) (ci := 0) (v := .int (nI ln)) (C := RX0) (T := TX0) (N := 4) hx hb hts hin_0 hown hK hP 4 rfl rfl 3 (by decide) lk_22 (fun _ h9 => h9) rfl dX0_pad_4 ?_
  refine lv_i2l hx hb dX0_pad_7 rfl ?_
  refine lv_lmul hx hb dX0_pad_8 ?_
  refine lv_lstore_n (lv' := [(1, .long (((8 : Int64)) * (((nI (ln))).toInt64))), (0, .ref (q 4))]) hx hb dX0_pad_9 rfl hl (by decide) rfl (fun ls hl => ?_)
  refine lv_aload_n hx hb dX0_pad_10 rfl (lv_at hl 1 rfl) ?_
  refine lv_sipush (v := ((128 : Int32))) hx hb dX0_pad_11 (by decide) ?_
  refine kc_v (As := [.int ((128 : Int32))]) (rest := []) ⟨hx, hb, hml, hown, hts⟩ (c_D_takeByte l D A q cB cI tl lv lb ln tp ll id ms sc st (((128 : Int32))) (by omega)) (cwV 1 hts gX0_pad_X0_takeByte rfl rfl rfl (by decide +kernel) ⟨Nat.le_of_ble_eq_true rfl, Nat.le_of_ble_eq_true rfl⟩) (va_recv hK hP (ci := 0) (q0 := 4) rfl rfl) hK hP hD hS hZ rfl hl.1 rfl (Nat.le_of_ble_eq_true rfl) ⟨Nat.zero_le _, Nat.zero_le _⟩ dX0_pad_14 (fun _ H locs _ hP hD hS => ?_)
  have hP : va_P D vwCl (wk q cB cI tl lv lb (ln + 1) tp ll id (upd ms ln ((((128 : Int32))).toInt8.toInt32)) sc st) H := hP
  have hD : va_D A (wk q cB cI tl lv lb (ln + 1) tp ll id (upd ms ln ((((128 : Int32))).toInt8.toInt32)) sc st) := hD
  rw [cat_1 (x := (128 : Int32).toInt8.toInt32) (f := pd ln) rfl] at hP hD
  have hP : va_P D vwCl (wk q cB cI tl lv lb (ln + 1) tp ll id (cat ms ln (pd ln) 1) sc st) H := hP
  have hD : va_D A (wk q cB cI tl lv lb (ln + 1) tp ll id (cat ms ln (pd ln) 1) sc st) := hD
  refine lv_iconst (v := (nI (0))) hx hb dX0_pad_17 (by decide) ?_
  refine lv_istore_n (lv' := [(3, .int (nI 0)), (1, .long (((8 : Int64)) * (((nI (ln))).toInt64))), (0, .ref (q 4))]) hx hb dX0_pad_18 rfl hl (by decide) rfl (fun ls hl => ?_)
  refine kp_lp (hd := 19) (nn := pz ln) (fun (i : Nat) (H : Heap) (locs : List Loc) (ls : Array Slot) => va_P D vwCl (wk q cB cI tl lv lb (ln + 1 + i) tp ll id (cat ms ln (pd ln) (1 + i)) sc st) H ∧ va_D A (wk q cB cI tl lv lb (ln + 1 + i) tp ll id (cat ms ln (pd ln) (1 + i)) sc st) ∧ va_S A s.heap H locs ∧ lv_has ls 4 [(0, .ref (q 4)), (1, .long ((8 : Int64) * (nI (ln)).toInt64)), (3, .int (nI i))]) ?_ 0 (by omega) _ _ _ ⟨hP, hD, hS, (lv_sub hl [2, 1, 0] rfl)⟩
  intro i hiN H locs ls hI ih
  obtain ⟨hP, hD, hS, hl⟩ := hI
  refine lv_iload_n hx hb dX0_pad_19 rfl (lv_at hl 2 rfl) ?_
  refine lv_bipush (v := (nI (64))) hx hb dX0_pad_20 (by decide) ?_
  refine lv_icmp_ge (tgt := 48) hx hb dX0_pad_22 (by decide) (fun c_22 => absurd (kn_le c_22 (by omega) (by omega)) (by have := pz_lt ln; omega)) (fun c_22 => ?_)
  have c_22 : i < 64 := kn_nle c_22 (by omega) (by omega)
  refine lv_aload_n hx hb dX0_pad_25 rfl (lv_at hl 0 rfl) ?_
  refine va_get (D := D) (ci := 0) (v := .int (nI (ln + 1 + i))) (C := RX0) (T := TX0) (N := 4) hx hb hts hin_0 hown hK hP 4 rfl rfl 3 (by decide) lk_22 (fun _ h9 => h9) rfl dX0_pad_26 ?_
  refine lv_bipush (v := (nI (64))) hx hb dX0_pad_29 (by decide) ?_
  refine lv_irem hx hb dX0_pad_31 (by decide) ?_
  refine kp_i (y := (nI ((ln + 1 + i) % 64))) (pk_rem (by omega) (by decide) (by decide)) ?_
  refine lv_bipush (v := (nI (56))) hx hb dX0_pad_32 (by decide) ?_
  refine lv_icmp_eq (tgt := 48) hx hb dX0_pad_34 (by decide) (fun c_34 => ?_) (fun c_34 => ?_)
  · have c_34 : ((ln + 1 + i) % 64) = 56 := kn_eq c_34 (by omega) (by omega)
    have e9 : pz ln = i := (pz_at hiN c_34).symm
    subst e9
    refine lv_bipush (v := (sf 0)) hx hb dX0_pad_48 (by decide) ?_
    refine lv_istore_n (lv' := [(3, .int (sf 0)), (0, .ref (q 4)), (1, .long ((8 : Int64) * (nI (ln)).toInt64))]) hx hb dX0_pad_50 rfl hl (by decide) rfl (fun ls hl => ?_)
    refine kp_lp (hd := 51) (nn := 8) (fun (i : Nat) (H : Heap) (locs : List Loc) (ls : Array Slot) => va_P D vwCl (wk q cB cI tl lv lb (ln + 1 + pz ln + i) tp ll id (cat ms ln (pd ln) (1 + pz ln + i)) sc st) H ∧ va_D A (wk q cB cI tl lv lb (ln + 1 + pz ln + i) tp ll id (cat ms ln (pd ln) (1 + pz ln + i)) sc st) ∧ va_S A s.heap H locs ∧ lv_has ls 4 [(0, .ref (q 4)), (1, .long ((8 : Int64) * (nI (ln)).toInt64)), (3, .int (sf i))]) ?_ 0 (by omega) _ _ _ ⟨hP, hD, hS, (lv_sub hl [1, 2, 0] rfl)⟩
    intro i hiN H locs ls hI ih
    obtain ⟨hP, hD, hS, hl⟩ := hI
    refine lv_iload_n hx hb dX0_pad_51 rfl (lv_at hl 2 rfl) ?_
    refine lv_if_lt (tgt := 69) hx hb dX0_pad_52 (by decide) (fun c_52 => ?_) (fun c_52 => ?_)
    · have e9 : 8 = i := (sf_lt hiN c_52).symm
      subst e9
      rw [show ln + 1 + pz ln + 8 = ln + pl ln by unfold pl; omega, show 1 + pz ln + 8 = pl ln by unfold pl; omega] at hP hD
      exact kr_v (()) hx hb hr hlocks hK hP hD hS (trivial) dX0_pad_69
    · have hlt : i < 8 := sf_nlt hiN c_52
      refine lv_aload_n hx hb dX0_pad_55 rfl (lv_at hl 0 rfl) ?_
      refine lv_lload_n hx hb dX0_pad_56 rfl (lv_at hl 1 rfl) ?_
      refine lv_iload_n hx hb dX0_pad_57 rfl (lv_at hl 2 rfl) ?_
      refine lv_lushr hx hb dX0_pad_58 rfl ?_
      refine lv_l2i hx hb dX0_pad_59 rfl ?_
      refine kc_v (As := [.int (((((((8 : Int64) * (nI (ln)).toInt64)).toUInt64 >>> (((sf i)).toInt64.toUInt64 &&& Int64.toUInt64 63)).toInt64)).toInt32)]) (rest := []) ⟨hx, hb, hml, hown, hts⟩ (c_D_takeByte l D A q cB cI tl lv lb (ln + 1 + pz ln + i) tp ll id (cat ms ln (pd ln) (1 + pz ln + i)) sc st ((((((((8 : Int64) * (nI (ln)).toInt64)).toUInt64 >>> (((sf i)).toInt64.toUInt64 &&& Int64.toUInt64 63)).toInt64)).toInt32)) (by omega)) (cwV 1 hts gX0_pad_X0_takeByte rfl rfl rfl (by decide +kernel) ⟨Nat.le_of_ble_eq_true rfl, Nat.le_of_ble_eq_true rfl⟩) (va_recv hK hP (ci := 0) (q0 := 4) rfl rfl) hK hP hD hS hZ rfl hl.1 rfl (Nat.le_of_ble_eq_true rfl) ⟨Nat.zero_le _, Nat.zero_le _⟩ dX0_pad_60 (fun _ H locs _ hP hD hS => ?_)
      have hP : va_P D vwCl (wk q cB cI tl lv lb ((ln + 1 + pz ln + i) + 1) tp ll id (upd (cat ms ln (pd ln) (1 + pz ln + i)) (ln + 1 + pz ln + i) (((((((((8 : Int64) * (nI (ln)).toInt64)).toUInt64 >>> (((sf i)).toInt64.toUInt64 &&& Int64.toUInt64 63)).toInt64)).toInt32)).toInt8.toInt32)) sc st) H := hP
      have hD : va_D A (wk q cB cI tl lv lb ((ln + 1 + pz ln + i) + 1) tp ll id (upd (cat ms ln (pd ln) (1 + pz ln + i)) (ln + 1 + pz ln + i) (((((((((8 : Int64) * (nI (ln)).toInt64)).toUInt64 >>> (((sf i)).toInt64.toUInt64 &&& Int64.toUInt64 63)).toInt64)).toInt32)).toInt8.toInt32)) sc st) := hD
      rw [cat_s2 (m := ln + 1 + pz ln + i) (by omega) (pd_b ln hlt)] at hP hD
      have hP : va_P D vwCl (wk q cB cI tl lv lb ((ln + 1 + pz ln + i) + 1) tp ll id (cat ms ln (pd ln) (1 + pz ln + i + 1)) sc st) H := hP
      have hD : va_D A (wk q cB cI tl lv lb ((ln + 1 + pz ln + i) + 1) tp ll id (cat ms ln (pd ln) (1 + pz ln + i + 1)) sc st) := hD
      refine lv_iinc (v := (sf (i + 1))) (lv' := [(3, .int (sf (i + 1))), (0, .ref (q 4)), (1, .long ((8 : Int64) * (nI (ln)).toInt64))]) hx hb dX0_pad_63 hl (k := 2) rfl (sf_s hlt) (by decide) rfl (fun ls hl => ?_)
      refine lv_goto (tgt := 51) hx hb dX0_pad_66 (by decide) ?_
      exact ih hlt _ _ _ ⟨hP, hD, hS, (lv_sub hl [1, 2, 0] rfl)⟩
  · have c_34 : ((ln + 1 + i) % 64) ≠ 56 := kn_ne c_34 (by omega) (by omega)
    have hlt : i < pz ln := pz_nat hiN c_34
    refine lv_aload_n hx hb dX0_pad_37 rfl (lv_at hl 0 rfl) ?_
    refine lv_iconst (v := ((0 : Int32))) hx hb dX0_pad_38 (by decide) ?_
    refine kc_v (As := [.int ((0 : Int32))]) (rest := []) ⟨hx, hb, hml, hown, hts⟩ (c_D_takeByte l D A q cB cI tl lv lb (ln + 1 + i) tp ll id (cat ms ln (pd ln) (1 + i)) sc st (((0 : Int32))) (by omega)) (cwV 1 hts gX0_pad_X0_takeByte rfl rfl rfl (by decide +kernel) ⟨Nat.le_of_ble_eq_true rfl, Nat.le_of_ble_eq_true rfl⟩) (va_recv hK hP (ci := 0) (q0 := 4) rfl rfl) hK hP hD hS hZ rfl hl.1 rfl (Nat.le_of_ble_eq_true rfl) ⟨Nat.zero_le _, Nat.zero_le _⟩ dX0_pad_39 (fun _ H locs _ hP hD hS => ?_)
    have hP : va_P D vwCl (wk q cB cI tl lv lb ((ln + 1 + i) + 1) tp ll id (upd (cat ms ln (pd ln) (1 + i)) (ln + 1 + i) ((((0 : Int32))).toInt8.toInt32)) sc st) H := hP
    have hD : va_D A (wk q cB cI tl lv lb ((ln + 1 + i) + 1) tp ll id (upd (cat ms ln (pd ln) (1 + i)) (ln + 1 + i) ((((0 : Int32))).toInt8.toInt32)) sc st) := hD
    rw [cat_s2 (m := ln + 1 + i) (by omega) (pd_0 hlt)] at hP hD
    have hP : va_P D vwCl (wk q cB cI tl lv lb ((ln + 1 + i) + 1) tp ll id (cat ms ln (pd ln) (1 + i + 1)) sc st) H := hP
    have hD : va_D A (wk q cB cI tl lv lb ((ln + 1 + i) + 1) tp ll id (cat ms ln (pd ln) (1 + i + 1)) sc st) := hD
    refine lv_iinc (v := (nI (i + 1))) (lv' := [(3, .int (nI (i + 1))), (0, .ref (q 4)), (1, .long ((8 : Int64) * (nI (ln)).toInt64))]) hx hb dX0_pad_42 hl (k := 2) rfl (kn_inc _ _ 1 rfl) (by decide) rfl (fun ls hl => ?_)
    refine lv_goto (tgt := 19) hx hb dX0_pad_45 (by decide) ?_
    exact ih hlt _ _ _ ⟨hP, hD, hS, (lv_sub hl [1, 2, 0] rfl)⟩
end
section
set_option maxHeartbeats 4000000 in
set_option maxRecDepth 100000 in
/-- fillSchedule: the sixty four words of the block at f -/
theorem c_D_fillSchedule (l : Launch) (D : va_G) (A : Nat → Prop) (q : Nat → Nat) (cB cI : ClassId) (tl lv lb ln : Nat) (tp : Nat → Int32) (ll : Nat → Nat) (id ms sc st : Nat → Int32) (f : Nat) (h1 : f + 64 ≤ 192) : Kv (S := (Nat → Int32)) l yX0_fillSchedule wsX0_fillSchedule { frames := 1, cells := 0, slots := 0, locals := 21 } D vwCl [(cB, .byte), (cI, .int)] A (zk q) [.ref (q 4), .int (nI f)] (wk q cB cI tl lv lb ln tp ll id ms sc st) (fun u => ∀ t, t < 64 → u t = swl (wd ms f) 48 t) (fun u => wk q cB cI tl lv lb ln tp ll id ms u st) := by
  refine Met.ofW (cc := cX0_fillSchedule) (maxL := 7) (ret := none) (by decide) rfl ?_
  intro p e s m args below meth c s₁ B hml hv
  obtain ⟨rfl, hP, hK, hD, hZ⟩ := hv
  have hx := B.exec
  have hb := B.bytes
  have hr := B.returns
  have hts := atoms_spec (ws := wsX0_fillSchedule) B.pre
  have hown : s.vm.findClass RX0 = some m.cls := findClass_of_methodNamed B.named
  have hlocks := B.notSynchronized
  have hS : va_S A s.heap s.heap [] := va_S.rf
  have hin_0 : ∀ w ∈ u_ws RX0 TX0 4, w ∈ wsX0_fillSchedule := by decide +kernel
  have lk_11 := hts (.fieldLink RX0 11 "RootDesk$Digest" "message" "[B") (by decide +kernel)
  have lk_15 := hts (.fieldLink RX0 15 "RootDesk$Digest" "schedule" "[I") (by decide +kernel)
  have hl := lv_entry ([.ref (q 4), .int (nI f)]) (n := 7) (Nat.le_of_ble_eq_true rfl)
  rw [lg_entry_eq]
  generalize (lg_sl ([.ref (q 4), .int (nI f)]) ++ List.replicate (7 - (lg_sl ([.ref (q 4), .int (nI f)])).length) Slot.unset).toArray = ls at hl ⊢
  have hl : lv_has ls 7 [(0, .ref (q 4)), (1, .int (nI f))] := hl
  refine lv_iconst (v := (nI (0))) hx hb dX0_fillSchedule_0 (by decide) ?_
  refine lv_istore_n (lv' := [(2, .int (nI 0)), (0, .ref (q 4)), (1, .int (nI f))]) hx hb dX0_fillSchedule_1 rfl hl (by decide) rfl (fun ls hl => ?_)
  refine kp_lp (hd := 2) (nn := 16) (fun (i : Nat) (H : Heap) (locs : List Loc) (ls : Array Slot) => ∃ (sc1 : Nat → Int32), (∀ j, j < i → sc1 j = wd ms f j) ∧ va_P D vwCl (wk q cB cI tl lv lb ln tp ll id ms sc1 st) H ∧ va_D A (wk q cB cI tl lv lb ln tp ll id ms sc1 st) ∧ va_S A s.heap H locs ∧ lv_has ls 7 [(0, .ref (q 4)), (1, .int (nI f)), (2, .int (nI i))]) ?_ 0 (by omega) _ _ _ ⟨sc, fun j hj => absurd hj (Nat.not_lt_zero j), hP, hD, hS, (lv_sub hl [1, 2, 0] rfl)⟩
  intro i hiN H locs ls hI ih
  obtain ⟨sc1, hI_0, hP, hD, hS, hl⟩ := hI
  refine lv_iload_n hx hb dX0_fillSchedule_2 rfl (lv_at hl 2 rfl) ?_
  refine lv_bipush (v := (nI (16))) hx hb dX0_fillSchedule_3 (by decide) ?_
  refine lv_icmp_ge (tgt := 84) hx hb dX0_fillSchedule_5 (by decide) (fun c_5 => ?_) (fun c_5 => ?_)
  · have c_5 : 16 ≤ i := kn_le c_5 (by omega) (by omega)
    have e9 : 16 = i := by omega
    subst e9
    refine lv_bipush (v := (nI (16))) hx hb dX0_fillSchedule_84 (by decide) ?_
    refine lv_istore_n (lv' := [(2, .int (nI 16)), (0, .ref (q 4)), (1, .int (nI f))]) hx hb dX0_fillSchedule_86 rfl hl (by decide) rfl (fun ls hl => ?_)
    refine kp_lp (hd := 87) (nn := 48) (fun (i : Nat) (H : Heap) (locs : List Loc) (ls : Array Slot) => ∃ (sc1 : Nat → Int32), (∀ j, j < 16 + i → sc1 j = swl (wd ms f) i j) ∧ va_P D vwCl (wk q cB cI tl lv lb ln tp ll id ms sc1 st) H ∧ va_D A (wk q cB cI tl lv lb ln tp ll id ms sc1 st) ∧ va_S A s.heap H locs ∧ lv_has ls 7 [(0, .ref (q 4)), (1, .int (nI f)), (2, .int (nI (16 + i)))]) ?_ 0 (by omega) _ _ _ ⟨sc1, fun j hj => hI_0 j hj, hP, hD, hS, (lv_sub hl [1, 2, 0] rfl)⟩
    intro i hiN H locs ls hI ih
    obtain ⟨sc1, hI_0, hP, hD, hS, hl⟩ := hI
    refine lv_iload_n hx hb dX0_fillSchedule_87 rfl (lv_at hl 2 rfl) ?_
    refine lv_bipush (v := (nI (64))) hx hb dX0_fillSchedule_88 (by decide) ?_
    refine lv_icmp_ge (tgt := 192) hx hb dX0_fillSchedule_90 (by decide) (fun c_90 => ?_) (fun c_90 => ?_)
    · have c_90 : 64 ≤ (16 + i) := kn_le c_90 (by omega) (by omega)
      have e9 : 48 = i := by omega
      subst e9
      exact kr_v (sc1) hx hb hr hlocks hK hP hD hS (fun t ht => hI_0 t (by omega)) dX0_fillSchedule_192
    · have c_90 : (16 + i) < 64 := kn_nle c_90 (by omega) (by omega)
      have hlt : i < 48 := by omega
      refine lv_aload_n hx hb dX0_fillSchedule_93 rfl (lv_at hl 0 rfl) ?_
      refine va_get (D := D) (ci := 0) (v := .ref (q 6)) (C := RX0) (T := TX0) (N := 4) hx hb hts hin_0 hown hK hP 4 rfl rfl 1 (by decide) lk_15 (fun _ h9 => h9) rfl dX0_fillSchedule_94 ?_
      refine lv_iload_n hx hb dX0_fillSchedule_97 rfl (lv_at hl 2 rfl) ?_
      refine lv_bipush (v := (nI (15))) hx hb dX0_fillSchedule_98 (by decide) ?_
      refine lv_isub hx hb dX0_fillSchedule_100 ?_
      refine kp_i (y := (nI (i + 1))) (kn_sub (by omega)) ?_
      refine kb_iald hx hb hK hP 6 1 rfl rfl (i + 1) (rfl) (by omega) (by decide) dX0_fillSchedule_101 ?_
      refine lv_istore_n (lv' := [(3, .int (sc1 (i + 1))), (0, .ref (q 4)), (1, .int (nI f)), (2, .int (nI (16 + i)))]) hx hb dX0_fillSchedule_102 rfl hl (by decide) rfl (fun ls hl => ?_)
      refine lv_aload_n hx hb dX0_fillSchedule_103 rfl (lv_at hl 1 rfl) ?_
      refine va_get (D := D) (ci := 0) (v := .ref (q 6)) (C := RX0) (T := TX0) (N := 4) hx hb hts hin_0 hown hK hP 4 rfl rfl 1 (by decide) lk_15 (fun _ h9 => h9) rfl dX0_fillSchedule_104 ?_
      refine lv_iload_n hx hb dX0_fillSchedule_107 rfl (lv_at hl 3 rfl) ?_
      refine lv_iconst (v := (nI (2))) hx hb dX0_fillSchedule_108 (by decide) ?_
      refine lv_isub hx hb dX0_fillSchedule_109 ?_
      refine kp_i (y := (nI (i + 14))) (kn_sub (by omega)) ?_
      refine kb_iald hx hb hK hP 6 1 rfl rfl (i + 14) (rfl) (by omega) (by decide) dX0_fillSchedule_110 ?_
      refine lv_istore (lv' := [(4, .int (sc1 (i + 14))), (3, .int (sc1 (i + 1))), (0, .ref (q 4)), (1, .int (nI f)), (2, .int (nI (16 + i)))]) hx hb dX0_fillSchedule_111 hl (by decide) rfl (fun ls hl => ?_)
      refine lv_iload_n hx hb dX0_fillSchedule_113 rfl (lv_at hl 1 rfl) ?_
      refine lv_bipush (v := ((7 : Int32))) hx hb dX0_fillSchedule_114 (by decide) ?_
      refine kcs_i (As := [.int (sc1 (i + 1)), .int ((7 : Int32))]) (rest := []) ⟨hx, hb, hml, hown, hts⟩ (c_D_turn l D A q cB cI (wk q cB cI tl lv lb ln tp ll id ms sc1 st) ((sc1 (i + 1))) (((7 : Int32)))) (cwS 2 hts gX0_fillSchedule_X0_turn rfl rfl rfl (by decide +kernel) ⟨Nat.le_of_ble_eq_true rfl, Nat.le_of_ble_eq_true rfl⟩) hK hP hD hS hZ rfl hl.1 rfl (Nat.le_of_ble_eq_true rfl) ⟨Nat.zero_le _, Nat.zero_le _⟩ dX0_fillSchedule_116 (fun r_1 _ H locs hw hP hD hS => ?_)
      have hw : r_1 = (tn (sc1 (i + 1)) ((7 : Int32))) := hw
      subst hw
      have hP : va_P D vwCl (wk q cB cI tl lv lb ln tp ll id ms sc1 st) H := hP
      have hD : va_D A (wk q cB cI tl lv lb ln tp ll id ms sc1 st) := hD
      refine lv_iload_n hx hb dX0_fillSchedule_119 rfl (lv_at hl 1 rfl) ?_
      refine lv_bipush (v := ((18 : Int32))) hx hb dX0_fillSchedule_120 (by decide) ?_
      refine kcs_i (As := [.int (sc1 (i + 1)), .int ((18 : Int32))]) (rest := [.int (tn (sc1 (i + 1)) ((7 : Int32)))]) ⟨hx, hb, hml, hown, hts⟩ (c_D_turn l D A q cB cI (wk q cB cI tl lv lb ln tp ll id ms sc1 st) ((sc1 (i + 1))) (((18 : Int32)))) (cwS 2 hts gX0_fillSchedule_X0_turn rfl rfl rfl (by decide +kernel) ⟨Nat.le_of_ble_eq_true rfl, Nat.le_of_ble_eq_true rfl⟩) hK hP hD hS hZ rfl hl.1 rfl (Nat.le_of_ble_eq_true rfl) ⟨Nat.zero_le _, Nat.zero_le _⟩ dX0_fillSchedule_122 (fun r_2 _ H locs hw hP hD hS => ?_)
      have hw : r_2 = (tn (sc1 (i + 1)) ((18 : Int32))) := hw
      subst hw
      have hP : va_P D vwCl (wk q cB cI tl lv lb ln tp ll id ms sc1 st) H := hP
      have hD : va_D A (wk q cB cI tl lv lb ln tp ll id ms sc1 st) := hD
      refine lv_ixor hx hb dX0_fillSchedule_125 ?_
      refine lv_iload_n hx hb dX0_fillSchedule_126 rfl (lv_at hl 1 rfl) ?_
      refine lv_iconst (v := ((3 : Int32))) hx hb dX0_fillSchedule_127 (by decide) ?_
      refine lv_iushr hx hb dX0_fillSchedule_128 rfl ?_
      refine lv_ixor hx hb dX0_fillSchedule_129 ?_
      refine lv_istore (lv' := [(5, .int (((tn (sc1 (i + 1)) ((7 : Int32))) ^^^ (tn (sc1 (i + 1)) ((18 : Int32)))) ^^^ ((((sc1 (i + 1))).toUInt32 >>> ((((3 : Int32))).toUInt32 &&& Int32.toUInt32 31)).toInt32))), (4, .int (sc1 (i + 14))), (3, .int (sc1 (i + 1))), (0, .ref (q 4)), (1, .int (nI f)), (2, .int (nI (16 + i)))]) hx hb dX0_fillSchedule_130 hl (by decide) rfl (fun ls hl => ?_)
      refine lv_iload hx hb dX0_fillSchedule_132 (lv_at hl 1 rfl) ?_
      refine lv_bipush (v := ((17 : Int32))) hx hb dX0_fillSchedule_134 (by decide) ?_
      refine kcs_i (As := [.int (sc1 (i + 14)), .int ((17 : Int32))]) (rest := []) ⟨hx, hb, hml, hown, hts⟩ (c_D_turn l D A q cB cI (wk q cB cI tl lv lb ln tp ll id ms sc1 st) ((sc1 (i + 14))) (((17 : Int32)))) (cwS 2 hts gX0_fillSchedule_X0_turn rfl rfl rfl (by decide +kernel) ⟨Nat.le_of_ble_eq_true rfl, Nat.le_of_ble_eq_true rfl⟩) hK hP hD hS hZ rfl hl.1 rfl (Nat.le_of_ble_eq_true rfl) ⟨Nat.zero_le _, Nat.zero_le _⟩ dX0_fillSchedule_136 (fun r_3 _ H locs hw hP hD hS => ?_)
      have hw : r_3 = (tn (sc1 (i + 14)) ((17 : Int32))) := hw
      subst hw
      have hP : va_P D vwCl (wk q cB cI tl lv lb ln tp ll id ms sc1 st) H := hP
      have hD : va_D A (wk q cB cI tl lv lb ln tp ll id ms sc1 st) := hD
      refine lv_iload hx hb dX0_fillSchedule_139 (lv_at hl 1 rfl) ?_
      refine lv_bipush (v := ((19 : Int32))) hx hb dX0_fillSchedule_141 (by decide) ?_
      refine kcs_i (As := [.int (sc1 (i + 14)), .int ((19 : Int32))]) (rest := [.int (tn (sc1 (i + 14)) ((17 : Int32)))]) ⟨hx, hb, hml, hown, hts⟩ (c_D_turn l D A q cB cI (wk q cB cI tl lv lb ln tp ll id ms sc1 st) ((sc1 (i + 14))) (((19 : Int32)))) (cwS 2 hts gX0_fillSchedule_X0_turn rfl rfl rfl (by decide +kernel) ⟨Nat.le_of_ble_eq_true rfl, Nat.le_of_ble_eq_true rfl⟩) hK hP hD hS hZ rfl hl.1 rfl (Nat.le_of_ble_eq_true rfl) ⟨Nat.zero_le _, Nat.zero_le _⟩ dX0_fillSchedule_143 (fun r_4 _ H locs hw hP hD hS => ?_)
      have hw : r_4 = (tn (sc1 (i + 14)) ((19 : Int32))) := hw
      subst hw
      have hP : va_P D vwCl (wk q cB cI tl lv lb ln tp ll id ms sc1 st) H := hP
      have hD : va_D A (wk q cB cI tl lv lb ln tp ll id ms sc1 st) := hD
      refine lv_ixor hx hb dX0_fillSchedule_146 ?_
      refine lv_iload hx hb dX0_fillSchedule_147 (lv_at hl 1 rfl) ?_
      refine lv_bipush (v := ((10 : Int32))) hx hb dX0_fillSchedule_149 (by decide) ?_
      refine lv_iushr hx hb dX0_fillSchedule_151 rfl ?_
      refine lv_ixor hx hb dX0_fillSchedule_152 ?_
      refine lv_istore (lv' := [(6, .int (((tn (sc1 (i + 14)) ((17 : Int32))) ^^^ (tn (sc1 (i + 14)) ((19 : Int32)))) ^^^ ((((sc1 (i + 14))).toUInt32 >>> ((((10 : Int32))).toUInt32 &&& Int32.toUInt32 31)).toInt32))), (5, .int (((tn (sc1 (i + 1)) ((7 : Int32))) ^^^ (tn (sc1 (i + 1)) ((18 : Int32)))) ^^^ ((((sc1 (i + 1))).toUInt32 >>> ((((3 : Int32))).toUInt32 &&& Int32.toUInt32 31)).toInt32))), (4, .int (sc1 (i + 14))), (3, .int (sc1 (i + 1))), (0, .ref (q 4)), (1, .int (nI f)), (2, .int (nI (16 + i)))]) hx hb dX0_fillSchedule_153 hl (by decide) rfl (fun ls hl => ?_)
      refine lv_aload_n hx hb dX0_fillSchedule_155 rfl (lv_at hl 4 rfl) ?_
      refine va_get (D := D) (ci := 0) (v := .ref (q 6)) (C := RX0) (T := TX0) (N := 4) hx hb hts hin_0 hown hK hP 4 rfl rfl 1 (by decide) lk_15 (fun _ h9 => h9) rfl dX0_fillSchedule_156 ?_
      refine lv_iload_n hx hb dX0_fillSchedule_159 rfl (lv_at hl 6 rfl) ?_
      refine lv_aload_n hx hb dX0_fillSchedule_160 rfl (lv_at hl 4 rfl) ?_
      refine va_get (D := D) (ci := 0) (v := .ref (q 6)) (C := RX0) (T := TX0) (N := 4) hx hb hts hin_0 hown hK hP 4 rfl rfl 1 (by decide) lk_15 (fun _ h9 => h9) rfl dX0_fillSchedule_161 ?_
      refine lv_iload_n hx hb dX0_fillSchedule_164 rfl (lv_at hl 6 rfl) ?_
      refine lv_bipush (v := (nI (16))) hx hb dX0_fillSchedule_165 (by decide) ?_
      refine lv_isub hx hb dX0_fillSchedule_167 ?_
      refine kp_i (y := (nI (i))) (kn_sub (by omega)) ?_
      refine kb_iald hx hb hK hP 6 1 rfl rfl (i) (rfl) (by omega) (by decide) dX0_fillSchedule_168 ?_
      refine lv_iload hx hb dX0_fillSchedule_169 (lv_at hl 1 rfl) ?_
      refine lv_iadd hx hb dX0_fillSchedule_171 ?_
      refine lv_aload_n hx hb dX0_fillSchedule_172 rfl (lv_at hl 4 rfl) ?_
      refine va_get (D := D) (ci := 0) (v := .ref (q 6)) (C := RX0) (T := TX0) (N := 4) hx hb hts hin_0 hown hK hP 4 rfl rfl 1 (by decide) lk_15 (fun _ h9 => h9) rfl dX0_fillSchedule_173 ?_
      refine lv_iload_n hx hb dX0_fillSchedule_176 rfl (lv_at hl 6 rfl) ?_
      refine lv_bipush (v := (nI (7))) hx hb dX0_fillSchedule_177 (by decide) ?_
      refine lv_isub hx hb dX0_fillSchedule_179 ?_
      refine kp_i (y := (nI (i + 9))) (kn_sub (by omega)) ?_
      refine kb_iald hx hb hK hP 6 1 rfl rfl (i + 9) (rfl) (by omega) (by decide) dX0_fillSchedule_180 ?_
      refine lv_iadd hx hb dX0_fillSchedule_181 ?_
      refine lv_iload hx hb dX0_fillSchedule_182 (lv_at hl 0 rfl) ?_
      refine lv_iadd hx hb dX0_fillSchedule_184 ?_
      refine kb_iast hx hb hK hP hD hS 6 1 rfl rfl (16 + i) (rfl) (by omega) (by decide) dX0_fillSchedule_185 (fun H locs hP hD hS => ?_)
      have hP : va_P D vwCl (wk q cB cI tl lv lb ln tp ll id ms (upd sc1 (16 + i) (((((sc1 (i)) + (((tn (sc1 (i + 1)) ((7 : Int32))) ^^^ (tn (sc1 (i + 1)) ((18 : Int32)))) ^^^ ((((sc1 (i + 1))).toUInt32 >>> ((((3 : Int32))).toUInt32 &&& Int32.toUInt32 31)).toInt32))) + (sc1 (i + 9))) + (((tn (sc1 (i + 14)) ((17 : Int32))) ^^^ (tn (sc1 (i + 14)) ((19 : Int32)))) ^^^ ((((sc1 (i + 14))).toUInt32 >>> ((((10 : Int32))).toUInt32 &&& Int32.toUInt32 31)).toInt32))))) st) H := hP
      have hD : va_D A (wk q cB cI tl lv lb ln tp ll id ms (upd sc1 (16 + i) (((((sc1 (i)) + (((tn (sc1 (i + 1)) ((7 : Int32))) ^^^ (tn (sc1 (i + 1)) ((18 : Int32)))) ^^^ ((((sc1 (i + 1))).toUInt32 >>> ((((3 : Int32))).toUInt32 &&& Int32.toUInt32 31)).toInt32))) + (sc1 (i + 9))) + (((tn (sc1 (i + 14)) ((17 : Int32))) ^^^ (tn (sc1 (i + 14)) ((19 : Int32)))) ^^^ ((((sc1 (i + 14))).toUInt32 >>> ((((10 : Int32))).toUInt32 &&& Int32.toUInt32 31)).toInt32))))) st) := hD
      refine lv_iinc (v := (nI (16 + (i + 1)))) (lv' := [(2, .int (nI (16 + (i + 1)))), (6, .int (((tn (sc1 (i + 14)) ((17 : Int32))) ^^^ (tn (sc1 (i + 14)) ((19 : Int32)))) ^^^ ((((sc1 (i + 14))).toUInt32 >>> ((((10 : Int32))).toUInt32 &&& Int32.toUInt32 31)).toInt32))), (5, .int (((tn (sc1 (i + 1)) ((7 : Int32))) ^^^ (tn (sc1 (i + 1)) ((18 : Int32)))) ^^^ ((((sc1 (i + 1))).toUInt32 >>> ((((3 : Int32))).toUInt32 &&& Int32.toUInt32 31)).toInt32))), (4, .int (sc1 (i + 14))), (3, .int (sc1 (i + 1))), (0, .ref (q 4)), (1, .int (nI f))]) hx hb dX0_fillSchedule_186 hl (k := 6) rfl (kn_inc _ _ 1 (by omega)) (by decide) rfl (fun ls hl => ?_)
      refine lv_goto (tgt := 87) hx hb dX0_fillSchedule_189 (by decide) ?_
      exact ih hlt _ _ _ ⟨_, swl_back hI_0 rfl, hP, hD, hS, (lv_sub hl [5, 6, 0] rfl)⟩
  · have c_5 : i < 16 := kn_nle c_5 (by omega) (by omega)
    have hlt : i < 16 := c_5
    refine lv_iload_n hx hb dX0_fillSchedule_8 rfl (lv_at hl 1 rfl) ?_
    refine lv_iconst (v := (nI (4))) hx hb dX0_fillSchedule_9 (by decide) ?_
    refine lv_iload_n hx hb dX0_fillSchedule_10 rfl (lv_at hl 2 rfl) ?_
    refine lv_imul hx hb dX0_fillSchedule_11 ?_
    refine kp_i (pk_mul _ _) ?_
    refine lv_iadd hx hb dX0_fillSchedule_12 ?_
    refine kp_i (nI_add _ _) ?_
    refine lv_istore_n (lv' := [(3, .int (nI (f + (4 * i)))), (0, .ref (q 4)), (1, .int (nI f)), (2, .int (nI i))]) hx hb dX0_fillSchedule_13 rfl hl (by decide) rfl (fun ls hl => ?_)
    refine lv_aload_n hx hb dX0_fillSchedule_14 rfl (lv_at hl 1 rfl) ?_
    refine va_get (D := D) (ci := 0) (v := .ref (q 6)) (C := RX0) (T := TX0) (N := 4) hx hb hts hin_0 hown hK hP 4 rfl rfl 1 (by decide) lk_15 (fun _ h9 => h9) rfl dX0_fillSchedule_15 ?_
    refine lv_iload_n hx hb dX0_fillSchedule_18 rfl (lv_at hl 3 rfl) ?_
    refine lv_aload_n hx hb dX0_fillSchedule_19 rfl (lv_at hl 1 rfl) ?_
    refine va_get (D := D) (ci := 0) (v := .ref (q 5)) (C := RX0) (T := TX0) (N := 4) hx hb hts hin_0 hown hK hP 4 rfl rfl 0 (by decide) lk_11 (fun _ h9 => h9) rfl dX0_fillSchedule_20 ?_
    refine lv_iload_n hx hb dX0_fillSchedule_23 rfl (lv_at hl 0 rfl) ?_
    refine kb_bald hx hb hK hP 5 0 rfl rfl (f + (4 * i)) (rfl) (by omega) (by decide) dX0_fillSchedule_24 ?_
    refine lv_sipush (v := ((255 : Int32))) hx hb dX0_fillSchedule_25 (by decide) ?_
    refine lv_iand hx hb dX0_fillSchedule_28 ?_
    refine lv_bipush (v := ((24 : Int32))) hx hb dX0_fillSchedule_29 (by decide) ?_
    refine lv_ishl hx hb dX0_fillSchedule_31 ?_
    refine lv_aload_n hx hb dX0_fillSchedule_32 rfl (lv_at hl 1 rfl) ?_
    refine va_get (D := D) (ci := 0) (v := .ref (q 5)) (C := RX0) (T := TX0) (N := 4) hx hb hts hin_0 hown hK hP 4 rfl rfl 0 (by decide) lk_11 (fun _ h9 => h9) rfl dX0_fillSchedule_33 ?_
    refine lv_iload_n hx hb dX0_fillSchedule_36 rfl (lv_at hl 0 rfl) ?_
    refine lv_iconst (v := (nI (1))) hx hb dX0_fillSchedule_37 (by decide) ?_
    refine lv_iadd hx hb dX0_fillSchedule_38 ?_
    refine kp_i (nI_add _ _) ?_
    refine kb_bald hx hb hK hP 5 0 rfl rfl ((f + (4 * i)) + 1) (rfl) (by omega) (by decide) dX0_fillSchedule_39 ?_
    refine lv_sipush (v := ((255 : Int32))) hx hb dX0_fillSchedule_40 (by decide) ?_
    refine lv_iand hx hb dX0_fillSchedule_43 ?_
    refine lv_bipush (v := ((16 : Int32))) hx hb dX0_fillSchedule_44 (by decide) ?_
    refine lv_ishl hx hb dX0_fillSchedule_46 ?_
    refine lv_ior hx hb dX0_fillSchedule_47 ?_
    refine lv_aload_n hx hb dX0_fillSchedule_48 rfl (lv_at hl 1 rfl) ?_
    refine va_get (D := D) (ci := 0) (v := .ref (q 5)) (C := RX0) (T := TX0) (N := 4) hx hb hts hin_0 hown hK hP 4 rfl rfl 0 (by decide) lk_11 (fun _ h9 => h9) rfl dX0_fillSchedule_49 ?_
    refine lv_iload_n hx hb dX0_fillSchedule_52 rfl (lv_at hl 0 rfl) ?_
    refine lv_iconst (v := (nI (2))) hx hb dX0_fillSchedule_53 (by decide) ?_
    refine lv_iadd hx hb dX0_fillSchedule_54 ?_
    refine kp_i (nI_add _ _) ?_
    refine kb_bald hx hb hK hP 5 0 rfl rfl ((f + (4 * i)) + 2) (rfl) (by omega) (by decide) dX0_fillSchedule_55 ?_
    refine lv_sipush (v := ((255 : Int32))) hx hb dX0_fillSchedule_56 (by decide) ?_
    refine lv_iand hx hb dX0_fillSchedule_59 ?_
    refine lv_bipush (v := ((8 : Int32))) hx hb dX0_fillSchedule_60 (by decide) ?_
    refine lv_ishl hx hb dX0_fillSchedule_62 ?_
    refine lv_ior hx hb dX0_fillSchedule_63 ?_
    refine lv_aload_n hx hb dX0_fillSchedule_64 rfl (lv_at hl 1 rfl) ?_
    refine va_get (D := D) (ci := 0) (v := .ref (q 5)) (C := RX0) (T := TX0) (N := 4) hx hb hts hin_0 hown hK hP 4 rfl rfl 0 (by decide) lk_11 (fun _ h9 => h9) rfl dX0_fillSchedule_65 ?_
    refine lv_iload_n hx hb dX0_fillSchedule_68 rfl (lv_at hl 0 rfl) ?_
    refine lv_iconst (v := (nI (3))) hx hb dX0_fillSchedule_69 (by decide) ?_
    refine lv_iadd hx hb dX0_fillSchedule_70 ?_
    refine kp_i (nI_add _ _) ?_
    refine kb_bald hx hb hK hP 5 0 rfl rfl ((f + (4 * i)) + 3) (rfl) (by omega) (by decide) dX0_fillSchedule_71 ?_
    refine lv_sipush (v := ((255 : Int32))) hx hb dX0_fillSchedule_72 (by decide) ?_
    refine lv_iand hx hb dX0_fillSchedule_75 ?_
    refine lv_ior hx hb dX0_fillSchedule_76 ?_
    refine kb_iast hx hb hK hP hD hS 6 1 rfl rfl (i) (rfl) (by omega) (by decide) dX0_fillSchedule_77 (fun H locs hP hD hS => ?_)
    have hP : va_P D vwCl (wk q cB cI tl lv lb ln tp ll id ms (upd sc1 (i) (((((((ms (f + (4 * i))) &&& ((255 : Int32))) <<< (((24 : Int32)) &&& 31)) ||| (((ms ((f + (4 * i)) + 1)) &&& ((255 : Int32))) <<< (((16 : Int32)) &&& 31))) ||| (((ms ((f + (4 * i)) + 2)) &&& ((255 : Int32))) <<< (((8 : Int32)) &&& 31))) ||| ((ms ((f + (4 * i)) + 3)) &&& ((255 : Int32)))))) st) H := hP
    have hD : va_D A (wk q cB cI tl lv lb ln tp ll id ms (upd sc1 (i) (((((((ms (f + (4 * i))) &&& ((255 : Int32))) <<< (((24 : Int32)) &&& 31)) ||| (((ms ((f + (4 * i)) + 1)) &&& ((255 : Int32))) <<< (((16 : Int32)) &&& 31))) ||| (((ms ((f + (4 * i)) + 2)) &&& ((255 : Int32))) <<< (((8 : Int32)) &&& 31))) ||| ((ms ((f + (4 * i)) + 3)) &&& ((255 : Int32)))))) st) := hD
    refine lv_iinc (v := (nI (i + 1))) (lv' := [(2, .int (nI (i + 1))), (3, .int (nI (f + (4 * i)))), (0, .ref (q 4)), (1, .int (nI f))]) hx hb dX0_fillSchedule_78 hl (k := 3) rfl (kn_inc _ _ 1 rfl) (by decide) rfl (fun ls hl => ?_)
    refine lv_goto (tgt := 2) hx hb dX0_fillSchedule_81 (by decide) ?_
    exact ih hlt _ _ _ ⟨_, upd_s hI_0 rfl, hP, hD, hS, (lv_sub hl [2, 3, 0] rfl)⟩

set_option maxHeartbeats 4000000 in
set_option maxRecDepth 100000 in
/-- mixBlock: the block is mixed in -/
theorem c_D_mixBlock (l : Launch) (D : va_G) (A : Nat → Prop) (q : Nat → Nat) (cB cI : ClassId) (tl lv lb ln : Nat) (tp : Nat → Int32) (ll : Nat → Nat) (id ms sc st : Nat → Int32) : Kv (S := (Nat → Int32)) l yX0_mixBlock wsX0_mixBlock { frames := 1, cells := 0, slots := 0, locals := 21 } D vwCl [(cB, .byte), (cI, .int)] A (zk q) [.ref (q 4)] (wk q cB cI tl lv lb ln tp ll id ms sc st) (fun u => ∀ j, j < 8 → u j = mx st sc j) (fun u => wk q cB cI tl lv lb ln tp ll id ms sc u) := by
  refine Met.ofW (cc := cX0_mixBlock) (maxL := 15) (ret := none) (by decide) rfl ?_
  intro p e s m args below meth c s₁ B hml hv
  obtain ⟨rfl, hP, hK, hD, hZ⟩ := hv
  have hx := B.exec
  have hb := B.bytes
  have hr := B.returns
  have hts := atoms_spec (ws := wsX0_mixBlock) B.pre
  have hown : s.vm.findClass RX0 = some m.cls := findClass_of_methodNamed B.named
  have hlocks := B.notSynchronized
  have hS : va_S A s.heap s.heap [] := va_S.rf
  have hin_0 : ∀ w ∈ u_ws RX0 TX0 4, w ∈ wsX0_mixBlock := by decide +kernel
  have lk_15 := hts (.fieldLink RX0 15 "RootDesk$Digest" "schedule" "[I") (by decide +kernel)
  have lk_19 := hts (.fieldLink RX0 19 "RootDesk$Digest" "state" "[I") (by decide +kernel)
  have lk_51 := hts (.fieldLink RX0 51 "RootDesk$Digest" "ROUND_WORDS" "[I") (by decide +kernel)
  have hl := lv_entry ([.ref (q 4)]) (n := 15) (Nat.le_of_ble_eq_true rfl)
  rw [lg_entry_eq]
  generalize (lg_sl ([.ref (q 4)]) ++ List.replicate (15 - (lg_sl ([.ref (q 4)])).length) Slot.unset).toArray = ls at hl ⊢
  have hl : lv_has ls 15 [(0, .ref (q 4))] := hl
  refine lv_aload_n hx hb dX0_mixBlock_0 rfl (lv_at hl 0 rfl) ?_
  refine va_get (D := D) (ci := 0) (v := .ref (q 7)) (C := RX0) (T := TX0) (N := 4) hx hb hts hin_0 hown hK hP 4 rfl rfl 2 (by decide) lk_19 (fun _ h9 => h9) rfl dX0_mixBlock_1 ?_
  refine lv_iconst (v := ((0 : Int32))) hx hb dX0_mixBlock_4 (by decide) ?_
  refine kb_iald hx hb hK hP 7 1 rfl rfl (0) (rfl) (by decide) (by decide) dX0_mixBlock_5 ?_
  refine lv_istore_n (lv' := [(1, .int (st (0))), (0, .ref (q 4))]) hx hb dX0_mixBlock_6 rfl hl (by decide) rfl (fun ls hl => ?_)
  refine lv_aload_n hx hb dX0_mixBlock_7 rfl (lv_at hl 1 rfl) ?_
  refine va_get (D := D) (ci := 0) (v := .ref (q 7)) (C := RX0) (T := TX0) (N := 4) hx hb hts hin_0 hown hK hP 4 rfl rfl 2 (by decide) lk_19 (fun _ h9 => h9) rfl dX0_mixBlock_8 ?_
  refine lv_iconst (v := ((1 : Int32))) hx hb dX0_mixBlock_11 (by decide) ?_
  refine kb_iald hx hb hK hP 7 1 rfl rfl (1) (rfl) (by decide) (by decide) dX0_mixBlock_12 ?_
  refine lv_istore_n (lv' := [(2, .int (st (1))), (1, .int (st (0))), (0, .ref (q 4))]) hx hb dX0_mixBlock_13 rfl hl (by decide) rfl (fun ls hl => ?_)
  refine lv_aload_n hx hb dX0_mixBlock_14 rfl (lv_at hl 2 rfl) ?_
  refine va_get (D := D) (ci := 0) (v := .ref (q 7)) (C := RX0) (T := TX0) (N := 4) hx hb hts hin_0 hown hK hP 4 rfl rfl 2 (by decide) lk_19 (fun _ h9 => h9) rfl dX0_mixBlock_15 ?_
  refine lv_iconst (v := ((2 : Int32))) hx hb dX0_mixBlock_18 (by decide) ?_
  refine kb_iald hx hb hK hP 7 1 rfl rfl (2) (rfl) (by decide) (by decide) dX0_mixBlock_19 ?_
  refine lv_istore_n (lv' := [(3, .int (st (2))), (2, .int (st (1))), (1, .int (st (0))), (0, .ref (q 4))]) hx hb dX0_mixBlock_20 rfl hl (by decide) rfl (fun ls hl => ?_)
  refine lv_aload_n hx hb dX0_mixBlock_21 rfl (lv_at hl 3 rfl) ?_
  refine va_get (D := D) (ci := 0) (v := .ref (q 7)) (C := RX0) (T := TX0) (N := 4) hx hb hts hin_0 hown hK hP 4 rfl rfl 2 (by decide) lk_19 (fun _ h9 => h9) rfl dX0_mixBlock_22 ?_
  refine lv_iconst (v := ((3 : Int32))) hx hb dX0_mixBlock_25 (by decide) ?_
  refine kb_iald hx hb hK hP 7 1 rfl rfl (3) (rfl) (by decide) (by decide) dX0_mixBlock_26 ?_
  refine lv_istore (lv' := [(4, .int (st (3))), (3, .int (st (2))), (2, .int (st (1))), (1, .int (st (0))), (0, .ref (q 4))]) hx hb dX0_mixBlock_27 hl (by decide) rfl (fun ls hl => ?_)
  refine lv_aload_n hx hb dX0_mixBlock_29 rfl (lv_at hl 4 rfl) ?_
  refine va_get (D := D) (ci := 0) (v := .ref (q 7)) (C := RX0) (T := TX0) (N := 4) hx hb hts hin_0 hown hK hP 4 rfl rfl 2 (by decide) lk_19 (fun _ h9 => h9) rfl dX0_mixBlock_30 ?_
  refine lv_iconst (v := ((4 : Int32))) hx hb dX0_mixBlock_33 (by decide) ?_
  refine kb_iald hx hb hK hP 7 1 rfl rfl (4) (rfl) (by decide) (by decide) dX0_mixBlock_34 ?_
  refine lv_istore (lv' := [(5, .int (st (4))), (4, .int (st (3))), (3, .int (st (2))), (2, .int (st (1))), (1, .int (st (0))), (0, .ref (q 4))]) hx hb dX0_mixBlock_35 hl (by decide) rfl (fun ls hl => ?_)
  refine lv_aload_n hx hb dX0_mixBlock_37 rfl (lv_at hl 5 rfl) ?_
  refine va_get (D := D) (ci := 0) (v := .ref (q 7)) (C := RX0) (T := TX0) (N := 4) hx hb hts hin_0 hown hK hP 4 rfl rfl 2 (by decide) lk_19 (fun _ h9 => h9) rfl dX0_mixBlock_38 ?_
  refine lv_iconst (v := ((5 : Int32))) hx hb dX0_mixBlock_41 (by decide) ?_
  refine kb_iald hx hb hK hP 7 1 rfl rfl (5) (rfl) (by decide) (by decide) dX0_mixBlock_42 ?_
  refine lv_istore (lv' := [(6, .int (st (5))), (5, .int (st (4))), (4, .int (st (3))), (3, .int (st (2))), (2, .int (st (1))), (1, .int (st (0))), (0, .ref (q 4))]) hx hb dX0_mixBlock_43 hl (by decide) rfl (fun ls hl => ?_)
  refine lv_aload_n hx hb dX0_mixBlock_45 rfl (lv_at hl 6 rfl) ?_
  refine va_get (D := D) (ci := 0) (v := .ref (q 7)) (C := RX0) (T := TX0) (N := 4) hx hb hts hin_0 hown hK hP 4 rfl rfl 2 (by decide) lk_19 (fun _ h9 => h9) rfl dX0_mixBlock_46 ?_
  refine lv_bipush (v := ((6 : Int32))) hx hb dX0_mixBlock_49 (by decide) ?_
  refine kb_iald hx hb hK hP 7 1 rfl rfl (6) (rfl) (by decide) (by decide) dX0_mixBlock_51 ?_
  refine lv_istore (lv' := [(7, .int (st (6))), (6, .int (st (5))), (5, .int (st (4))), (4, .int (st (3))), (3, .int (st (2))), (2, .int (st (1))), (1, .int (st (0))), (0, .ref (q 4))]) hx hb dX0_mixBlock_52 hl (by decide) rfl (fun ls hl => ?_)
  refine lv_aload_n hx hb dX0_mixBlock_54 rfl (lv_at hl 7 rfl) ?_
  refine va_get (D := D) (ci := 0) (v := .ref (q 7)) (C := RX0) (T := TX0) (N := 4) hx hb hts hin_0 hown hK hP 4 rfl rfl 2 (by decide) lk_19 (fun _ h9 => h9) rfl dX0_mixBlock_55 ?_
  refine lv_bipush (v := ((7 : Int32))) hx hb dX0_mixBlock_58 (by decide) ?_
  refine kb_iald hx hb hK hP 7 1 rfl rfl (7) (rfl) (by decide) (by decide) dX0_mixBlock_60 ?_
  refine lv_istore (lv' := [(8, .int (st (7))), (7, .int (st (6))), (6, .int (st (5))), (5, .int (st (4))), (4, .int (st (3))), (3, .int (st (2))), (2, .int (st (1))), (1, .int (st (0))), (0, .ref (q 4))]) hx hb dX0_mixBlock_61 hl (by decide) rfl (fun ls hl => ?_)
  refine lv_iconst (v := (nI (0))) hx hb dX0_mixBlock_63 (by decide) ?_
  refine lv_istore (lv' := [(9, .int (nI 0)), (8, .int (st (7))), (7, .int (st (6))), (6, .int (st (5))), (5, .int (st (4))), (4, .int (st (3))), (3, .int (st (2))), (2, .int (st (1))), (1, .int (st (0))), (0, .ref (q 4))]) hx hb dX0_mixBlock_64 hl (by decide) rfl (fun ls hl => ?_)
  refine kp_lp (hd := 66) (nn := 64) (fun (i : Nat) (H : Heap) (locs : List Loc) (ls : Array Slot) => ∃ (xa xb xc xd xe xf xg xh : Int32), (rds sc (st 0, st 1, st 2, st 3, st 4, st 5, st 6, st 7) i = (xa, xb, xc, xd, xe, xf, xg, xh)) ∧ va_P D vwCl (wk q cB cI tl lv lb ln tp ll id ms sc st) H ∧ va_D A (wk q cB cI tl lv lb ln tp ll id ms sc st) ∧ va_S A s.heap H locs ∧ lv_has ls 15 [(0, .ref (q 4)), (1, .int xa), (2, .int xb), (3, .int xc), (4, .int xd), (5, .int xe), (6, .int xf), (7, .int xg), (8, .int xh), (9, .int (nI i))]) ?_ 0 (by omega) _ _ _ ⟨_, _, _, _, _, _, _, _, rfl, hP, hD, hS, (lv_sub hl [9, 8, 7, 6, 5, 4, 3, 2, 1, 0] rfl)⟩
  intro i hiN H locs ls hI ih
  obtain ⟨xa, xb, xc, xd, xe, xf, xg, xh, hI_0, hP, hD, hS, hl⟩ := hI
  refine lv_iload hx hb dX0_mixBlock_66 (lv_at hl 9 rfl) ?_
  refine lv_bipush (v := (nI (64))) hx hb dX0_mixBlock_68 (by decide) ?_
  refine lv_icmp_ge (tgt := 213) hx hb dX0_mixBlock_70 (by decide) (fun c_70 => ?_) (fun c_70 => ?_)
  · have c_70 : 64 ≤ i := kn_le c_70 (by omega) (by omega)
    have e9 : 64 = i := by omega
    subst e9
    refine lv_aload_n hx hb dX0_mixBlock_213 rfl (lv_at hl 0 rfl) ?_
    refine va_get (D := D) (ci := 0) (v := .ref (q 7)) (C := RX0) (T := TX0) (N := 4) hx hb hts hin_0 hown hK hP 4 rfl rfl 2 (by decide) lk_19 (fun _ h9 => h9) rfl dX0_mixBlock_214 ?_
    refine lv_iconst (v := ((0 : Int32))) hx hb dX0_mixBlock_217 (by decide) ?_
    refine lv_dup2_11 hx hb dX0_mixBlock_218 rfl rfl ?_
    refine kb_iald hx hb hK hP 7 1 rfl rfl (0) (rfl) (by decide) (by decide) dX0_mixBlock_219 ?_
    refine lv_iload_n hx hb dX0_mixBlock_220 rfl (lv_at hl 1 rfl) ?_
    refine lv_iadd hx hb dX0_mixBlock_221 ?_
    refine kb_iast hx hb hK hP hD hS 7 1 rfl rfl (0) (rfl) (by decide) (by decide) dX0_mixBlock_222 (fun H locs hP hD hS => ?_)
    have hP : va_P D vwCl (wk q cB cI tl lv lb ln tp ll id ms sc (upd st (0) (((st (0)) + (xa))))) H := hP
    have hD : va_D A (wk q cB cI tl lv lb ln tp ll id ms sc (upd st (0) (((st (0)) + (xa))))) := hD
    refine lv_aload_n hx hb dX0_mixBlock_223 rfl (lv_at hl 0 rfl) ?_
    refine va_get (D := D) (ci := 0) (v := .ref (q 7)) (C := RX0) (T := TX0) (N := 4) hx hb hts hin_0 hown hK hP 4 rfl rfl 2 (by decide) lk_19 (fun _ h9 => h9) rfl dX0_mixBlock_224 ?_
    refine lv_iconst (v := ((1 : Int32))) hx hb dX0_mixBlock_227 (by decide) ?_
    refine lv_dup2_11 hx hb dX0_mixBlock_228 rfl rfl ?_
    refine kb_iald hx hb hK hP 7 1 rfl rfl (1) (rfl) (by decide) (by decide) dX0_mixBlock_229 ?_
    refine lv_iload_n hx hb dX0_mixBlock_230 rfl (lv_at hl 2 rfl) ?_
    refine lv_iadd hx hb dX0_mixBlock_231 ?_
    refine kb_iast hx hb hK hP hD hS 7 1 rfl rfl (1) (rfl) (by decide) (by decide) dX0_mixBlock_232 (fun H locs hP hD hS => ?_)
    have hP : va_P D vwCl (wk q cB cI tl lv lb ln tp ll id ms sc (upd (upd st (0) (((st (0)) + (xa)))) (1) ((((upd st (0) (((st (0)) + (xa)))) (1)) + (xb))))) H := hP
    have hD : va_D A (wk q cB cI tl lv lb ln tp ll id ms sc (upd (upd st (0) (((st (0)) + (xa)))) (1) ((((upd st (0) (((st (0)) + (xa)))) (1)) + (xb))))) := hD
    refine lv_aload_n hx hb dX0_mixBlock_233 rfl (lv_at hl 0 rfl) ?_
    refine va_get (D := D) (ci := 0) (v := .ref (q 7)) (C := RX0) (T := TX0) (N := 4) hx hb hts hin_0 hown hK hP 4 rfl rfl 2 (by decide) lk_19 (fun _ h9 => h9) rfl dX0_mixBlock_234 ?_
    refine lv_iconst (v := ((2 : Int32))) hx hb dX0_mixBlock_237 (by decide) ?_
    refine lv_dup2_11 hx hb dX0_mixBlock_238 rfl rfl ?_
    refine kb_iald hx hb hK hP 7 1 rfl rfl (2) (rfl) (by decide) (by decide) dX0_mixBlock_239 ?_
    refine lv_iload_n hx hb dX0_mixBlock_240 rfl (lv_at hl 3 rfl) ?_
    refine lv_iadd hx hb dX0_mixBlock_241 ?_
    refine kb_iast hx hb hK hP hD hS 7 1 rfl rfl (2) (rfl) (by decide) (by decide) dX0_mixBlock_242 (fun H locs hP hD hS => ?_)
    have hP : va_P D vwCl (wk q cB cI tl lv lb ln tp ll id ms sc (upd (upd (upd st (0) (((st (0)) + (xa)))) (1) ((((upd st (0) (((st (0)) + (xa)))) (1)) + (xb)))) (2) ((((upd (upd st (0) (((st (0)) + (xa)))) (1) ((((upd st (0) (((st (0)) + (xa)))) (1)) + (xb)))) (2)) + (xc))))) H := hP
    have hD : va_D A (wk q cB cI tl lv lb ln tp ll id ms sc (upd (upd (upd st (0) (((st (0)) + (xa)))) (1) ((((upd st (0) (((st (0)) + (xa)))) (1)) + (xb)))) (2) ((((upd (upd st (0) (((st (0)) + (xa)))) (1) ((((upd st (0) (((st (0)) + (xa)))) (1)) + (xb)))) (2)) + (xc))))) := hD
    refine lv_aload_n hx hb dX0_mixBlock_243 rfl (lv_at hl 0 rfl) ?_
    refine va_get (D := D) (ci := 0) (v := .ref (q 7)) (C := RX0) (T := TX0) (N := 4) hx hb hts hin_0 hown hK hP 4 rfl rfl 2 (by decide) lk_19 (fun _ h9 => h9) rfl dX0_mixBlock_244 ?_
    refine lv_iconst (v := ((3 : Int32))) hx hb dX0_mixBlock_247 (by decide) ?_
    refine lv_dup2_11 hx hb dX0_mixBlock_248 rfl rfl ?_
    refine kb_iald hx hb hK hP 7 1 rfl rfl (3) (rfl) (by decide) (by decide) dX0_mixBlock_249 ?_
    refine lv_iload hx hb dX0_mixBlock_250 (lv_at hl 4 rfl) ?_
    refine lv_iadd hx hb dX0_mixBlock_252 ?_
    refine kb_iast hx hb hK hP hD hS 7 1 rfl rfl (3) (rfl) (by decide) (by decide) dX0_mixBlock_253 (fun H locs hP hD hS => ?_)
    have hP : va_P D vwCl (wk q cB cI tl lv lb ln tp ll id ms sc (upd (upd (upd (upd st (0) (((st (0)) + (xa)))) (1) ((((upd st (0) (((st (0)) + (xa)))) (1)) + (xb)))) (2) ((((upd (upd st (0) (((st (0)) + (xa)))) (1) ((((upd st (0) (((st (0)) + (xa)))) (1)) + (xb)))) (2)) + (xc)))) (3) ((((upd (upd (upd st (0) (((st (0)) + (xa)))) (1) ((((upd st (0) (((st (0)) + (xa)))) (1)) + (xb)))) (2) ((((upd (upd st (0) (((st (0)) + (xa)))) (1) ((((upd st (0) (((st (0)) + (xa)))) (1)) + (xb)))) (2)) + (xc)))) (3)) + (xd))))) H := hP
    have hD : va_D A (wk q cB cI tl lv lb ln tp ll id ms sc (upd (upd (upd (upd st (0) (((st (0)) + (xa)))) (1) ((((upd st (0) (((st (0)) + (xa)))) (1)) + (xb)))) (2) ((((upd (upd st (0) (((st (0)) + (xa)))) (1) ((((upd st (0) (((st (0)) + (xa)))) (1)) + (xb)))) (2)) + (xc)))) (3) ((((upd (upd (upd st (0) (((st (0)) + (xa)))) (1) ((((upd st (0) (((st (0)) + (xa)))) (1)) + (xb)))) (2) ((((upd (upd st (0) (((st (0)) + (xa)))) (1) ((((upd st (0) (((st (0)) + (xa)))) (1)) + (xb)))) (2)) + (xc)))) (3)) + (xd))))) := hD
    refine lv_aload_n hx hb dX0_mixBlock_254 rfl (lv_at hl 0 rfl) ?_
    refine va_get (D := D) (ci := 0) (v := .ref (q 7)) (C := RX0) (T := TX0) (N := 4) hx hb hts hin_0 hown hK hP 4 rfl rfl 2 (by decide) lk_19 (fun _ h9 => h9) rfl dX0_mixBlock_255 ?_
    refine lv_iconst (v := ((4 : Int32))) hx hb dX0_mixBlock_258 (by decide) ?_
    refine lv_dup2_11 hx hb dX0_mixBlock_259 rfl rfl ?_
    refine kb_iald hx hb hK hP 7 1 rfl rfl (4) (rfl) (by decide) (by decide) dX0_mixBlock_260 ?_
    refine lv_iload hx hb dX0_mixBlock_261 (lv_at hl 5 rfl) ?_
    refine lv_iadd hx hb dX0_mixBlock_263 ?_
    refine kb_iast hx hb hK hP hD hS 7 1 rfl rfl (4) (rfl) (by decide) (by decide) dX0_mixBlock_264 (fun H locs hP hD hS => ?_)
    have hP : va_P D vwCl (wk q cB cI tl lv lb ln tp ll id ms sc (upd (upd (upd (upd (upd st (0) (((st (0)) + (xa)))) (1) ((((upd st (0) (((st (0)) + (xa)))) (1)) + (xb)))) (2) ((((upd (upd st (0) (((st (0)) + (xa)))) (1) ((((upd st (0) (((st (0)) + (xa)))) (1)) + (xb)))) (2)) + (xc)))) (3) ((((upd (upd (upd st (0) (((st (0)) + (xa)))) (1) ((((upd st (0) (((st (0)) + (xa)))) (1)) + (xb)))) (2) ((((upd (upd st (0) (((st (0)) + (xa)))) (1) ((((upd st (0) (((st (0)) + (xa)))) (1)) + (xb)))) (2)) + (xc)))) (3)) + (xd)))) (4) ((((upd (upd (upd (upd st (0) (((st (0)) + (xa)))) (1) ((((upd st (0) (((st (0)) + (xa)))) (1)) + (xb)))) (2) ((((upd (upd st (0) (((st (0)) + (xa)))) (1) ((((upd st (0) (((st (0)) + (xa)))) (1)) + (xb)))) (2)) + (xc)))) (3) ((((upd (upd (upd st (0) (((st (0)) + (xa)))) (1) ((((upd st (0) (((st (0)) + (xa)))) (1)) + (xb)))) (2) ((((upd (upd st (0) (((st (0)) + (xa)))) (1) ((((upd st (0) (((st (0)) + (xa)))) (1)) + (xb)))) (2)) + (xc)))) (3)) + (xd)))) (4)) + (xe))))) H := hP
    have hD : va_D A (wk q cB cI tl lv lb ln tp ll id ms sc (upd (upd (upd (upd (upd st (0) (((st (0)) + (xa)))) (1) ((((upd st (0) (((st (0)) + (xa)))) (1)) + (xb)))) (2) ((((upd (upd st (0) (((st (0)) + (xa)))) (1) ((((upd st (0) (((st (0)) + (xa)))) (1)) + (xb)))) (2)) + (xc)))) (3) ((((upd (upd (upd st (0) (((st (0)) + (xa)))) (1) ((((upd st (0) (((st (0)) + (xa)))) (1)) + (xb)))) (2) ((((upd (upd st (0) (((st (0)) + (xa)))) (1) ((((upd st (0) (((st (0)) + (xa)))) (1)) + (xb)))) (2)) + (xc)))) (3)) + (xd)))) (4) ((((upd (upd (upd (upd st (0) (((st (0)) + (xa)))) (1) ((((upd st (0) (((st (0)) + (xa)))) (1)) + (xb)))) (2) ((((upd (upd st (0) (((st (0)) + (xa)))) (1) ((((upd st (0) (((st (0)) + (xa)))) (1)) + (xb)))) (2)) + (xc)))) (3) ((((upd (upd (upd st (0) (((st (0)) + (xa)))) (1) ((((upd st (0) (((st (0)) + (xa)))) (1)) + (xb)))) (2) ((((upd (upd st (0) (((st (0)) + (xa)))) (1) ((((upd st (0) (((st (0)) + (xa)))) (1)) + (xb)))) (2)) + (xc)))) (3)) + (xd)))) (4)) + (xe))))) := hD
    refine lv_aload_n hx hb dX0_mixBlock_265 rfl (lv_at hl 0 rfl) ?_
    refine va_get (D := D) (ci := 0) (v := .ref (q 7)) (C := RX0) (T := TX0) (N := 4) hx hb hts hin_0 hown hK hP 4 rfl rfl 2 (by decide) lk_19 (fun _ h9 => h9) rfl dX0_mixBlock_266 ?_
    refine lv_iconst (v := ((5 : Int32))) hx hb dX0_mixBlock_269 (by decide) ?_
    refine lv_dup2_11 hx hb dX0_mixBlock_270 rfl rfl ?_
    refine kb_iald hx hb hK hP 7 1 rfl rfl (5) (rfl) (by decide) (by decide) dX0_mixBlock_271 ?_
    refine lv_iload hx hb dX0_mixBlock_272 (lv_at hl 6 rfl) ?_
    refine lv_iadd hx hb dX0_mixBlock_274 ?_
    refine kb_iast hx hb hK hP hD hS 7 1 rfl rfl (5) (rfl) (by decide) (by decide) dX0_mixBlock_275 (fun H locs hP hD hS => ?_)
    have hP : va_P D vwCl (wk q cB cI tl lv lb ln tp ll id ms sc (upd (upd (upd (upd (upd (upd st (0) (((st (0)) + (xa)))) (1) ((((upd st (0) (((st (0)) + (xa)))) (1)) + (xb)))) (2) ((((upd (upd st (0) (((st (0)) + (xa)))) (1) ((((upd st (0) (((st (0)) + (xa)))) (1)) + (xb)))) (2)) + (xc)))) (3) ((((upd (upd (upd st (0) (((st (0)) + (xa)))) (1) ((((upd st (0) (((st (0)) + (xa)))) (1)) + (xb)))) (2) ((((upd (upd st (0) (((st (0)) + (xa)))) (1) ((((upd st (0) (((st (0)) + (xa)))) (1)) + (xb)))) (2)) + (xc)))) (3)) + (xd)))) (4) ((((upd (upd (upd (upd st (0) (((st (0)) + (xa)))) (1) ((((upd st (0) (((st (0)) + (xa)))) (1)) + (xb)))) (2) ((((upd (upd st (0) (((st (0)) + (xa)))) (1) ((((upd st (0) (((st (0)) + (xa)))) (1)) + (xb)))) (2)) + (xc)))) (3) ((((upd (upd (upd st (0) (((st (0)) + (xa)))) (1) ((((upd st (0) (((st (0)) + (xa)))) (1)) + (xb)))) (2) ((((upd (upd st (0) (((st (0)) + (xa)))) (1) ((((upd st (0) (((st (0)) + (xa)))) (1)) + (xb)))) (2)) + (xc)))) (3)) + (xd)))) (4)) + (xe)))) (5) ((((upd (upd (upd (upd (upd st (0) (((st (0)) + (xa)))) (1) ((((upd st (0) (((st (0)) + (xa)))) (1)) + (xb)))) (2) ((((upd (upd st (0) (((st (0)) + (xa)))) (1) ((((upd st (0) (((st (0)) + (xa)))) (1)) + (xb)))) (2)) + (xc)))) (3) ((((upd (upd (upd st (0) (((st (0)) + (xa)))) (1) ((((upd st (0) (((st (0)) + (xa)))) (1)) + (xb)))) (2) ((((upd (upd st (0) (((st (0)) + (xa)))) (1) ((((upd st (0) (((st (0)) + (xa)))) (1)) + (xb)))) (2)) + (xc)))) (3)) + (xd)))) (4) ((((upd (upd (upd (upd st (0) (((st (0)) + (xa)))) (1) ((((upd st (0) (((st (0)) + (xa)))) (1)) + (xb)))) (2) ((((upd (upd st (0) (((st (0)) + (xa)))) (1) ((((upd st (0) (((st (0)) + (xa)))) (1)) + (xb)))) (2)) + (xc)))) (3) ((((upd (upd (upd st (0) (((st (0)) + (xa)))) (1) ((((upd st (0) (((st (0)) + (xa)))) (1)) + (xb)))) (2) ((((upd (upd st (0) (((st (0)) + (xa)))) (1) ((((upd st (0) (((st (0)) + (xa)))) (1)) + (xb)))) (2)) + (xc)))) (3)) + (xd)))) (4)) + (xe)))) (5)) + (xf))))) H := hP
    have hD : va_D A (wk q cB cI tl lv lb ln tp ll id ms sc (upd (upd (upd (upd (upd (upd st (0) (((st (0)) + (xa)))) (1) ((((upd st (0) (((st (0)) + (xa)))) (1)) + (xb)))) (2) ((((upd (upd st (0) (((st (0)) + (xa)))) (1) ((((upd st (0) (((st (0)) + (xa)))) (1)) + (xb)))) (2)) + (xc)))) (3) ((((upd (upd (upd st (0) (((st (0)) + (xa)))) (1) ((((upd st (0) (((st (0)) + (xa)))) (1)) + (xb)))) (2) ((((upd (upd st (0) (((st (0)) + (xa)))) (1) ((((upd st (0) (((st (0)) + (xa)))) (1)) + (xb)))) (2)) + (xc)))) (3)) + (xd)))) (4) ((((upd (upd (upd (upd st (0) (((st (0)) + (xa)))) (1) ((((upd st (0) (((st (0)) + (xa)))) (1)) + (xb)))) (2) ((((upd (upd st (0) (((st (0)) + (xa)))) (1) ((((upd st (0) (((st (0)) + (xa)))) (1)) + (xb)))) (2)) + (xc)))) (3) ((((upd (upd (upd st (0) (((st (0)) + (xa)))) (1) ((((upd st (0) (((st (0)) + (xa)))) (1)) + (xb)))) (2) ((((upd (upd st (0) (((st (0)) + (xa)))) (1) ((((upd st (0) (((st (0)) + (xa)))) (1)) + (xb)))) (2)) + (xc)))) (3)) + (xd)))) (4)) + (xe)))) (5) ((((upd (upd (upd (upd (upd st (0) (((st (0)) + (xa)))) (1) ((((upd st (0) (((st (0)) + (xa)))) (1)) + (xb)))) (2) ((((upd (upd st (0) (((st (0)) + (xa)))) (1) ((((upd st (0) (((st (0)) + (xa)))) (1)) + (xb)))) (2)) + (xc)))) (3) ((((upd (upd (upd st (0) (((st (0)) + (xa)))) (1) ((((upd st (0) (((st (0)) + (xa)))) (1)) + (xb)))) (2) ((((upd (upd st (0) (((st (0)) + (xa)))) (1) ((((upd st (0) (((st (0)) + (xa)))) (1)) + (xb)))) (2)) + (xc)))) (3)) + (xd)))) (4) ((((upd (upd (upd (upd st (0) (((st (0)) + (xa)))) (1) ((((upd st (0) (((st (0)) + (xa)))) (1)) + (xb)))) (2) ((((upd (upd st (0) (((st (0)) + (xa)))) (1) ((((upd st (0) (((st (0)) + (xa)))) (1)) + (xb)))) (2)) + (xc)))) (3) ((((upd (upd (upd st (0) (((st (0)) + (xa)))) (1) ((((upd st (0) (((st (0)) + (xa)))) (1)) + (xb)))) (2) ((((upd (upd st (0) (((st (0)) + (xa)))) (1) ((((upd st (0) (((st (0)) + (xa)))) (1)) + (xb)))) (2)) + (xc)))) (3)) + (xd)))) (4)) + (xe)))) (5)) + (xf))))) := hD
    refine lv_aload_n hx hb dX0_mixBlock_276 rfl (lv_at hl 0 rfl) ?_
    refine va_get (D := D) (ci := 0) (v := .ref (q 7)) (C := RX0) (T := TX0) (N := 4) hx hb hts hin_0 hown hK hP 4 rfl rfl 2 (by decide) lk_19 (fun _ h9 => h9) rfl dX0_mixBlock_277 ?_
    refine lv_bipush (v := ((6 : Int32))) hx hb dX0_mixBlock_280 (by decide) ?_
    refine lv_dup2_11 hx hb dX0_mixBlock_282 rfl rfl ?_
    refine kb_iald hx hb hK hP 7 1 rfl rfl (6) (rfl) (by decide) (by decide) dX0_mixBlock_283 ?_
    refine lv_iload hx hb dX0_mixBlock_284 (lv_at hl 7 rfl) ?_
    refine lv_iadd hx hb dX0_mixBlock_286 ?_
    refine kb_iast hx hb hK hP hD hS 7 1 rfl rfl (6) (rfl) (by decide) (by decide) dX0_mixBlock_287 (fun H locs hP hD hS => ?_)
    have hP : va_P D vwCl (wk q cB cI tl lv lb ln tp ll id ms sc (upd (upd (upd (upd (upd (upd (upd st (0) (((st (0)) + (xa)))) (1) ((((upd st (0) (((st (0)) + (xa)))) (1)) + (xb)))) (2) ((((upd (upd st (0) (((st (0)) + (xa)))) (1) ((((upd st (0) (((st (0)) + (xa)))) (1)) + (xb)))) (2)) + (xc)))) (3) ((((upd (upd (upd st (0) (((st (0)) + (xa)))) (1) ((((upd st (0) (((st (0)) + (xa)))) (1)) + (xb)))) (2) ((((upd (upd st (0) (((st (0)) + (xa)))) (1) ((((upd st (0) (((st (0)) + (xa)))) (1)) + (xb)))) (2)) + (xc)))) (3)) + (xd)))) (4) ((((upd (upd (upd (upd st (0) (((st (0)) + (xa)))) (1) ((((upd st (0) (((st (0)) + (xa)))) (1)) + (xb)))) (2) ((((upd (upd st (0) (((st (0)) + (xa)))) (1) ((((upd st (0) (((st (0)) + (xa)))) (1)) + (xb)))) (2)) + (xc)))) (3) ((((upd (upd (upd st (0) (((st (0)) + (xa)))) (1) ((((upd st (0) (((st (0)) + (xa)))) (1)) + (xb)))) (2) ((((upd (upd st (0) (((st (0)) + (xa)))) (1) ((((upd st (0) (((st (0)) + (xa)))) (1)) + (xb)))) (2)) + (xc)))) (3)) + (xd)))) (4)) + (xe)))) (5) ((((upd (upd (upd (upd (upd st (0) (((st (0)) + (xa)))) (1) ((((upd st (0) (((st (0)) + (xa)))) (1)) + (xb)))) (2) ((((upd (upd st (0) (((st (0)) + (xa)))) (1) ((((upd st (0) (((st (0)) + (xa)))) (1)) + (xb)))) (2)) + (xc)))) (3) ((((upd (upd (upd st (0) (((st (0)) + (xa)))) (1) ((((upd st (0) (((st (0)) + (xa)))) (1)) + (xb)))) (2) ((((upd (upd st (0) (((st (0)) + (xa)))) (1) ((((upd st (0) (((st (0)) + (xa)))) (1)) + (xb)))) (2)) + (xc)))) (3)) + (xd)))) (4) ((((upd (upd (upd (upd st (0) (((st (0)) + (xa)))) (1) ((((upd st (0) (((st (0)) + (xa)))) (1)) + (xb)))) (2) ((((upd (upd st (0) (((st (0)) + (xa)))) (1) ((((upd st (0) (((st (0)) + (xa)))) (1)) + (xb)))) (2)) + (xc)))) (3) ((((upd (upd (upd st (0) (((st (0)) + (xa)))) (1) ((((upd st (0) (((st (0)) + (xa)))) (1)) + (xb)))) (2) ((((upd (upd st (0) (((st (0)) + (xa)))) (1) ((((upd st (0) (((st (0)) + (xa)))) (1)) + (xb)))) (2)) + (xc)))) (3)) + (xd)))) (4)) + (xe)))) (5)) + (xf)))) (6) ((((upd (upd (upd (upd (upd (upd st (0) (((st (0)) + (xa)))) (1) ((((upd st (0) (((st (0)) + (xa)))) (1)) + (xb)))) (2) ((((upd (upd st (0) (((st (0)) + (xa)))) (1) ((((upd st (0) (((st (0)) + (xa)))) (1)) + (xb)))) (2)) + (xc)))) (3) ((((upd (upd (upd st (0) (((st (0)) + (xa)))) (1) ((((upd st (0) (((st (0)) + (xa)))) (1)) + (xb)))) (2) ((((upd (upd st (0) (((st (0)) + (xa)))) (1) ((((upd st (0) (((st (0)) + (xa)))) (1)) + (xb)))) (2)) + (xc)))) (3)) + (xd)))) (4) ((((upd (upd (upd (upd st (0) (((st (0)) + (xa)))) (1) ((((upd st (0) (((st (0)) + (xa)))) (1)) + (xb)))) (2) ((((upd (upd st (0) (((st (0)) + (xa)))) (1) ((((upd st (0) (((st (0)) + (xa)))) (1)) + (xb)))) (2)) + (xc)))) (3) ((((upd (upd (upd st (0) (((st (0)) + (xa)))) (1) ((((upd st (0) (((st (0)) + (xa)))) (1)) + (xb)))) (2) ((((upd (upd st (0) (((st (0)) + (xa)))) (1) ((((upd st (0) (((st (0)) + (xa)))) (1)) + (xb)))) (2)) + (xc)))) (3)) + (xd)))) (4)) + (xe)))) (5) ((((upd (upd (upd (upd (upd st (0) (((st (0)) + (xa)))) (1) ((((upd st (0) (((st (0)) + (xa)))) (1)) + (xb)))) (2) ((((upd (upd st (0) (((st (0)) + (xa)))) (1) ((((upd st (0) (((st (0)) + (xa)))) (1)) + (xb)))) (2)) + (xc)))) (3) ((((upd (upd (upd st (0) (((st (0)) + (xa)))) (1) ((((upd st (0) (((st (0)) + (xa)))) (1)) + (xb)))) (2) ((((upd (upd st (0) (((st (0)) + (xa)))) (1) ((((upd st (0) (((st (0)) + (xa)))) (1)) + (xb)))) (2)) + (xc)))) (3)) + (xd)))) (4) ((((upd (upd (upd (upd st (0) (((st (0)) + (xa)))) (1) ((((upd st (0) (((st (0)) + (xa)))) (1)) + (xb)))) (2) ((((upd (upd st (0) (((st (0)) + (xa)))) (1) ((((upd st (0) (((st (0)) + (xa)))) (1)) + (xb)))) (2)) + (xc)))) (3) ((((upd (upd (upd st (0) (((st (0)) + (xa)))) (1) ((((upd st (0) (((st (0)) + (xa)))) (1)) + (xb)))) (2) ((((upd (upd st (0) (((st (0)) + (xa)))) (1) ((((upd st (0) (((st (0)) + (xa)))) (1)) + (xb)))) (2)) + (xc)))) (3)) + (xd)))) (4)) + (xe)))) (5)) + (xf)))) (6)) + (xg))))) H := hP
    have hD : va_D A (wk q cB cI tl lv lb ln tp ll id ms sc (upd (upd (upd (upd (upd (upd (upd st (0) (((st (0)) + (xa)))) (1) ((((upd st (0) (((st (0)) + (xa)))) (1)) + (xb)))) (2) ((((upd (upd st (0) (((st (0)) + (xa)))) (1) ((((upd st (0) (((st (0)) + (xa)))) (1)) + (xb)))) (2)) + (xc)))) (3) ((((upd (upd (upd st (0) (((st (0)) + (xa)))) (1) ((((upd st (0) (((st (0)) + (xa)))) (1)) + (xb)))) (2) ((((upd (upd st (0) (((st (0)) + (xa)))) (1) ((((upd st (0) (((st (0)) + (xa)))) (1)) + (xb)))) (2)) + (xc)))) (3)) + (xd)))) (4) ((((upd (upd (upd (upd st (0) (((st (0)) + (xa)))) (1) ((((upd st (0) (((st (0)) + (xa)))) (1)) + (xb)))) (2) ((((upd (upd st (0) (((st (0)) + (xa)))) (1) ((((upd st (0) (((st (0)) + (xa)))) (1)) + (xb)))) (2)) + (xc)))) (3) ((((upd (upd (upd st (0) (((st (0)) + (xa)))) (1) ((((upd st (0) (((st (0)) + (xa)))) (1)) + (xb)))) (2) ((((upd (upd st (0) (((st (0)) + (xa)))) (1) ((((upd st (0) (((st (0)) + (xa)))) (1)) + (xb)))) (2)) + (xc)))) (3)) + (xd)))) (4)) + (xe)))) (5) ((((upd (upd (upd (upd (upd st (0) (((st (0)) + (xa)))) (1) ((((upd st (0) (((st (0)) + (xa)))) (1)) + (xb)))) (2) ((((upd (upd st (0) (((st (0)) + (xa)))) (1) ((((upd st (0) (((st (0)) + (xa)))) (1)) + (xb)))) (2)) + (xc)))) (3) ((((upd (upd (upd st (0) (((st (0)) + (xa)))) (1) ((((upd st (0) (((st (0)) + (xa)))) (1)) + (xb)))) (2) ((((upd (upd st (0) (((st (0)) + (xa)))) (1) ((((upd st (0) (((st (0)) + (xa)))) (1)) + (xb)))) (2)) + (xc)))) (3)) + (xd)))) (4) ((((upd (upd (upd (upd st (0) (((st (0)) + (xa)))) (1) ((((upd st (0) (((st (0)) + (xa)))) (1)) + (xb)))) (2) ((((upd (upd st (0) (((st (0)) + (xa)))) (1) ((((upd st (0) (((st (0)) + (xa)))) (1)) + (xb)))) (2)) + (xc)))) (3) ((((upd (upd (upd st (0) (((st (0)) + (xa)))) (1) ((((upd st (0) (((st (0)) + (xa)))) (1)) + (xb)))) (2) ((((upd (upd st (0) (((st (0)) + (xa)))) (1) ((((upd st (0) (((st (0)) + (xa)))) (1)) + (xb)))) (2)) + (xc)))) (3)) + (xd)))) (4)) + (xe)))) (5)) + (xf)))) (6) ((((upd (upd (upd (upd (upd (upd st (0) (((st (0)) + (xa)))) (1) ((((upd st (0) (((st (0)) + (xa)))) (1)) + (xb)))) (2) ((((upd (upd st (0) (((st (0)) + (xa)))) (1) ((((upd st (0) (((st (0)) + (xa)))) (1)) + (xb)))) (2)) + (xc)))) (3) ((((upd (upd (upd st (0) (((st (0)) + (xa)))) (1) ((((upd st (0) (((st (0)) + (xa)))) (1)) + (xb)))) (2) ((((upd (upd st (0) (((st (0)) + (xa)))) (1) ((((upd st (0) (((st (0)) + (xa)))) (1)) + (xb)))) (2)) + (xc)))) (3)) + (xd)))) (4) ((((upd (upd (upd (upd st (0) (((st (0)) + (xa)))) (1) ((((upd st (0) (((st (0)) + (xa)))) (1)) + (xb)))) (2) ((((upd (upd st (0) (((st (0)) + (xa)))) (1) ((((upd st (0) (((st (0)) + (xa)))) (1)) + (xb)))) (2)) + (xc)))) (3) ((((upd (upd (upd st (0) (((st (0)) + (xa)))) (1) ((((upd st (0) (((st (0)) + (xa)))) (1)) + (xb)))) (2) ((((upd (upd st (0) (((st (0)) + (xa)))) (1) ((((upd st (0) (((st (0)) + (xa)))) (1)) + (xb)))) (2)) + (xc)))) (3)) + (xd)))) (4)) + (xe)))) (5) ((((upd (upd (upd (upd (upd st (0) (((st (0)) + (xa)))) (1) ((((upd st (0) (((st (0)) + (xa)))) (1)) + (xb)))) (2) ((((upd (upd st (0) (((st (0)) + (xa)))) (1) ((((upd st (0) (((st (0)) + (xa)))) (1)) + (xb)))) (2)) + (xc)))) (3) ((((upd (upd (upd st (0) (((st (0)) + (xa)))) (1) ((((upd st (0) (((st (0)) + (xa)))) (1)) + (xb)))) (2) ((((upd (upd st (0) (((st (0)) + (xa)))) (1) ((((upd st (0) (((st (0)) + (xa)))) (1)) + (xb)))) (2)) + (xc)))) (3)) + (xd)))) (4) ((((upd (upd (upd (upd st (0) (((st (0)) + (xa)))) (1) ((((upd st (0) (((st (0)) + (xa)))) (1)) + (xb)))) (2) ((((upd (upd st (0) (((st (0)) + (xa)))) (1) ((((upd st (0) (((st (0)) + (xa)))) (1)) + (xb)))) (2)) + (xc)))) (3) ((((upd (upd (upd st (0) (((st (0)) + (xa)))) (1) ((((upd st (0) (((st (0)) + (xa)))) (1)) + (xb)))) (2) ((((upd (upd st (0) (((st (0)) + (xa)))) (1) ((((upd st (0) (((st (0)) + (xa)))) (1)) + (xb)))) (2)) + (xc)))) (3)) + (xd)))) (4)) + (xe)))) (5)) + (xf)))) (6)) + (xg))))) := hD
    refine lv_aload_n hx hb dX0_mixBlock_288 rfl (lv_at hl 0 rfl) ?_
    refine va_get (D := D) (ci := 0) (v := .ref (q 7)) (C := RX0) (T := TX0) (N := 4) hx hb hts hin_0 hown hK hP 4 rfl rfl 2 (by decide) lk_19 (fun _ h9 => h9) rfl dX0_mixBlock_289 ?_
    refine lv_bipush (v := ((7 : Int32))) hx hb dX0_mixBlock_292 (by decide) ?_
    refine lv_dup2_11 hx hb dX0_mixBlock_294 rfl rfl ?_
    refine kb_iald hx hb hK hP 7 1 rfl rfl (7) (rfl) (by decide) (by decide) dX0_mixBlock_295 ?_
    refine lv_iload hx hb dX0_mixBlock_296 (lv_at hl 8 rfl) ?_
    refine lv_iadd hx hb dX0_mixBlock_298 ?_
    refine kb_iast hx hb hK hP hD hS 7 1 rfl rfl (7) (rfl) (by decide) (by decide) dX0_mixBlock_299 (fun H locs hP hD hS => ?_)
    have hP : va_P D vwCl (wk q cB cI tl lv lb ln tp ll id ms sc (upd (upd (upd (upd (upd (upd (upd (upd st (0) (((st (0)) + (xa)))) (1) ((((upd st (0) (((st (0)) + (xa)))) (1)) + (xb)))) (2) ((((upd (upd st (0) (((st (0)) + (xa)))) (1) ((((upd st (0) (((st (0)) + (xa)))) (1)) + (xb)))) (2)) + (xc)))) (3) ((((upd (upd (upd st (0) (((st (0)) + (xa)))) (1) ((((upd st (0) (((st (0)) + (xa)))) (1)) + (xb)))) (2) ((((upd (upd st (0) (((st (0)) + (xa)))) (1) ((((upd st (0) (((st (0)) + (xa)))) (1)) + (xb)))) (2)) + (xc)))) (3)) + (xd)))) (4) ((((upd (upd (upd (upd st (0) (((st (0)) + (xa)))) (1) ((((upd st (0) (((st (0)) + (xa)))) (1)) + (xb)))) (2) ((((upd (upd st (0) (((st (0)) + (xa)))) (1) ((((upd st (0) (((st (0)) + (xa)))) (1)) + (xb)))) (2)) + (xc)))) (3) ((((upd (upd (upd st (0) (((st (0)) + (xa)))) (1) ((((upd st (0) (((st (0)) + (xa)))) (1)) + (xb)))) (2) ((((upd (upd st (0) (((st (0)) + (xa)))) (1) ((((upd st (0) (((st (0)) + (xa)))) (1)) + (xb)))) (2)) + (xc)))) (3)) + (xd)))) (4)) + (xe)))) (5) ((((upd (upd (upd (upd (upd st (0) (((st (0)) + (xa)))) (1) ((((upd st (0) (((st (0)) + (xa)))) (1)) + (xb)))) (2) ((((upd (upd st (0) (((st (0)) + (xa)))) (1) ((((upd st (0) (((st (0)) + (xa)))) (1)) + (xb)))) (2)) + (xc)))) (3) ((((upd (upd (upd st (0) (((st (0)) + (xa)))) (1) ((((upd st (0) (((st (0)) + (xa)))) (1)) + (xb)))) (2) ((((upd (upd st (0) (((st (0)) + (xa)))) (1) ((((upd st (0) (((st (0)) + (xa)))) (1)) + (xb)))) (2)) + (xc)))) (3)) + (xd)))) (4) ((((upd (upd (upd (upd st (0) (((st (0)) + (xa)))) (1) ((((upd st (0) (((st (0)) + (xa)))) (1)) + (xb)))) (2) ((((upd (upd st (0) (((st (0)) + (xa)))) (1) ((((upd st (0) (((st (0)) + (xa)))) (1)) + (xb)))) (2)) + (xc)))) (3) ((((upd (upd (upd st (0) (((st (0)) + (xa)))) (1) ((((upd st (0) (((st (0)) + (xa)))) (1)) + (xb)))) (2) ((((upd (upd st (0) (((st (0)) + (xa)))) (1) ((((upd st (0) (((st (0)) + (xa)))) (1)) + (xb)))) (2)) + (xc)))) (3)) + (xd)))) (4)) + (xe)))) (5)) + (xf)))) (6) ((((upd (upd (upd (upd (upd (upd st (0) (((st (0)) + (xa)))) (1) ((((upd st (0) (((st (0)) + (xa)))) (1)) + (xb)))) (2) ((((upd (upd st (0) (((st (0)) + (xa)))) (1) ((((upd st (0) (((st (0)) + (xa)))) (1)) + (xb)))) (2)) + (xc)))) (3) ((((upd (upd (upd st (0) (((st (0)) + (xa)))) (1) ((((upd st (0) (((st (0)) + (xa)))) (1)) + (xb)))) (2) ((((upd (upd st (0) (((st (0)) + (xa)))) (1) ((((upd st (0) (((st (0)) + (xa)))) (1)) + (xb)))) (2)) + (xc)))) (3)) + (xd)))) (4) ((((upd (upd (upd (upd st (0) (((st (0)) + (xa)))) (1) ((((upd st (0) (((st (0)) + (xa)))) (1)) + (xb)))) (2) ((((upd (upd st (0) (((st (0)) + (xa)))) (1) ((((upd st (0) (((st (0)) + (xa)))) (1)) + (xb)))) (2)) + (xc)))) (3) ((((upd (upd (upd st (0) (((st (0)) + (xa)))) (1) ((((upd st (0) (((st (0)) + (xa)))) (1)) + (xb)))) (2) ((((upd (upd st (0) (((st (0)) + (xa)))) (1) ((((upd st (0) (((st (0)) + (xa)))) (1)) + (xb)))) (2)) + (xc)))) (3)) + (xd)))) (4)) + (xe)))) (5) ((((upd (upd (upd (upd (upd st (0) (((st (0)) + (xa)))) (1) ((((upd st (0) (((st (0)) + (xa)))) (1)) + (xb)))) (2) ((((upd (upd st (0) (((st (0)) + (xa)))) (1) ((((upd st (0) (((st (0)) + (xa)))) (1)) + (xb)))) (2)) + (xc)))) (3) ((((upd (upd (upd st (0) (((st (0)) + (xa)))) (1) ((((upd st (0) (((st (0)) + (xa)))) (1)) + (xb)))) (2) ((((upd (upd st (0) (((st (0)) + (xa)))) (1) ((((upd st (0) (((st (0)) + (xa)))) (1)) + (xb)))) (2)) + (xc)))) (3)) + (xd)))) (4) ((((upd (upd (upd (upd st (0) (((st (0)) + (xa)))) (1) ((((upd st (0) (((st (0)) + (xa)))) (1)) + (xb)))) (2) ((((upd (upd st (0) (((st (0)) + (xa)))) (1) ((((upd st (0) (((st (0)) + (xa)))) (1)) + (xb)))) (2)) + (xc)))) (3) ((((upd (upd (upd st (0) (((st (0)) + (xa)))) (1) ((((upd st (0) (((st (0)) + (xa)))) (1)) + (xb)))) (2) ((((upd (upd st (0) (((st (0)) + (xa)))) (1) ((((upd st (0) (((st (0)) + (xa)))) (1)) + (xb)))) (2)) + (xc)))) (3)) + (xd)))) (4)) + (xe)))) (5)) + (xf)))) (6)) + (xg)))) (7) ((((upd (upd (upd (upd (upd (upd (upd st (0) (((st (0)) + (xa)))) (1) ((((upd st (0) (((st (0)) + (xa)))) (1)) + (xb)))) (2) ((((upd (upd st (0) (((st (0)) + (xa)))) (1) ((((upd st (0) (((st (0)) + (xa)))) (1)) + (xb)))) (2)) + (xc)))) (3) ((((upd (upd (upd st (0) (((st (0)) + (xa)))) (1) ((((upd st (0) (((st (0)) + (xa)))) (1)) + (xb)))) (2) ((((upd (upd st (0) (((st (0)) + (xa)))) (1) ((((upd st (0) (((st (0)) + (xa)))) (1)) + (xb)))) (2)) + (xc)))) (3)) + (xd)))) (4) ((((upd (upd (upd (upd st (0) (((st (0)) + (xa)))) (1) ((((upd st (0) (((st (0)) + (xa)))) (1)) + (xb)))) (2) ((((upd (upd st (0) (((st (0)) + (xa)))) (1) ((((upd st (0) (((st (0)) + (xa)))) (1)) + (xb)))) (2)) + (xc)))) (3) ((((upd (upd (upd st (0) (((st (0)) + (xa)))) (1) ((((upd st (0) (((st (0)) + (xa)))) (1)) + (xb)))) (2) ((((upd (upd st (0) (((st (0)) + (xa)))) (1) ((((upd st (0) (((st (0)) + (xa)))) (1)) + (xb)))) (2)) + (xc)))) (3)) + (xd)))) (4)) + (xe)))) (5) ((((upd (upd (upd (upd (upd st (0) (((st (0)) + (xa)))) (1) ((((upd st (0) (((st (0)) + (xa)))) (1)) + (xb)))) (2) ((((upd (upd st (0) (((st (0)) + (xa)))) (1) ((((upd st (0) (((st (0)) + (xa)))) (1)) + (xb)))) (2)) + (xc)))) (3) ((((upd (upd (upd st (0) (((st (0)) + (xa)))) (1) ((((upd st (0) (((st (0)) + (xa)))) (1)) + (xb)))) (2) ((((upd (upd st (0) (((st (0)) + (xa)))) (1) ((((upd st (0) (((st (0)) + (xa)))) (1)) + (xb)))) (2)) + (xc)))) (3)) + (xd)))) (4) ((((upd (upd (upd (upd st (0) (((st (0)) + (xa)))) (1) ((((upd st (0) (((st (0)) + (xa)))) (1)) + (xb)))) (2) ((((upd (upd st (0) (((st (0)) + (xa)))) (1) ((((upd st (0) (((st (0)) + (xa)))) (1)) + (xb)))) (2)) + (xc)))) (3) ((((upd (upd (upd st (0) (((st (0)) + (xa)))) (1) ((((upd st (0) (((st (0)) + (xa)))) (1)) + (xb)))) (2) ((((upd (upd st (0) (((st (0)) + (xa)))) (1) ((((upd st (0) (((st (0)) + (xa)))) (1)) + (xb)))) (2)) + (xc)))) (3)) + (xd)))) (4)) + (xe)))) (5)) + (xf)))) (6) ((((upd (upd (upd (upd (upd (upd st (0) (((st (0)) + (xa)))) (1) ((((upd st (0) (((st (0)) + (xa)))) (1)) + (xb)))) (2) ((((upd (upd st (0) (((st (0)) + (xa)))) (1) ((((upd st (0) (((st (0)) + (xa)))) (1)) + (xb)))) (2)) + (xc)))) (3) ((((upd (upd (upd st (0) (((st (0)) + (xa)))) (1) ((((upd st (0) (((st (0)) + (xa)))) (1)) + (xb)))) (2) ((((upd (upd st (0) (((st (0)) + (xa)))) (1) ((((upd st (0) (((st (0)) + (xa)))) (1)) + (xb)))) (2)) + (xc)))) (3)) + (xd)))) (4) ((((upd (upd (upd (upd st (0) (((st (0)) + (xa)))) (1) ((((upd st (0) (((st (0)) + (xa)))) (1)) + (xb)))) (2) ((((upd (upd st (0) (((st (0)) + (xa)))) (1) ((((upd st (0) (((st (0)) + (xa)))) (1)) + (xb)))) (2)) + (xc)))) (3) ((((upd (upd (upd st (0) (((st (0)) + (xa)))) (1) ((((upd st (0) (((st (0)) + (xa)))) (1)) + (xb)))) (2) ((((upd (upd st (0) (((st (0)) + (xa)))) (1) ((((upd st (0) (((st (0)) + (xa)))) (1)) + (xb)))) (2)) + (xc)))) (3)) + (xd)))) (4)) + (xe)))) (5) ((((upd (upd (upd (upd (upd st (0) (((st (0)) + (xa)))) (1) ((((upd st (0) (((st (0)) + (xa)))) (1)) + (xb)))) (2) ((((upd (upd st (0) (((st (0)) + (xa)))) (1) ((((upd st (0) (((st (0)) + (xa)))) (1)) + (xb)))) (2)) + (xc)))) (3) ((((upd (upd (upd st (0) (((st (0)) + (xa)))) (1) ((((upd st (0) (((st (0)) + (xa)))) (1)) + (xb)))) (2) ((((upd (upd st (0) (((st (0)) + (xa)))) (1) ((((upd st (0) (((st (0)) + (xa)))) (1)) + (xb)))) (2)) + (xc)))) (3)) + (xd)))) (4) ((((upd (upd (upd (upd st (0) (((st (0)) + (xa)))) (1) ((((upd st (0) (((st (0)) + (xa)))) (1)) + (xb)))) (2) ((((upd (upd st (0) (((st (0)) + (xa)))) (1) ((((upd st (0) (((st (0)) + (xa)))) (1)) + (xb)))) (2)) + (xc)))) (3) ((((upd (upd (upd st (0) (((st (0)) + (xa)))) (1) ((((upd st (0) (((st (0)) + (xa)))) (1)) + (xb)))) (2) ((((upd (upd st (0) (((st (0)) + (xa)))) (1) ((((upd st (0) (((st (0)) + (xa)))) (1)) + (xb)))) (2)) + (xc)))) (3)) + (xd)))) (4)) + (xe)))) (5)) + (xf)))) (6)) + (xg)))) (7)) + (xh))))) H := hP
    have hD : va_D A (wk q cB cI tl lv lb ln tp ll id ms sc (upd (upd (upd (upd (upd (upd (upd (upd st (0) (((st (0)) + (xa)))) (1) ((((upd st (0) (((st (0)) + (xa)))) (1)) + (xb)))) (2) ((((upd (upd st (0) (((st (0)) + (xa)))) (1) ((((upd st (0) (((st (0)) + (xa)))) (1)) + (xb)))) (2)) + (xc)))) (3) ((((upd (upd (upd st (0) (((st (0)) + (xa)))) (1) ((((upd st (0) (((st (0)) + (xa)))) (1)) + (xb)))) (2) ((((upd (upd st (0) (((st (0)) + (xa)))) (1) ((((upd st (0) (((st (0)) + (xa)))) (1)) + (xb)))) (2)) + (xc)))) (3)) + (xd)))) (4) ((((upd (upd (upd (upd st (0) (((st (0)) + (xa)))) (1) ((((upd st (0) (((st (0)) + (xa)))) (1)) + (xb)))) (2) ((((upd (upd st (0) (((st (0)) + (xa)))) (1) ((((upd st (0) (((st (0)) + (xa)))) (1)) + (xb)))) (2)) + (xc)))) (3) ((((upd (upd (upd st (0) (((st (0)) + (xa)))) (1) ((((upd st (0) (((st (0)) + (xa)))) (1)) + (xb)))) (2) ((((upd (upd st (0) (((st (0)) + (xa)))) (1) ((((upd st (0) (((st (0)) + (xa)))) (1)) + (xb)))) (2)) + (xc)))) (3)) + (xd)))) (4)) + (xe)))) (5) ((((upd (upd (upd (upd (upd st (0) (((st (0)) + (xa)))) (1) ((((upd st (0) (((st (0)) + (xa)))) (1)) + (xb)))) (2) ((((upd (upd st (0) (((st (0)) + (xa)))) (1) ((((upd st (0) (((st (0)) + (xa)))) (1)) + (xb)))) (2)) + (xc)))) (3) ((((upd (upd (upd st (0) (((st (0)) + (xa)))) (1) ((((upd st (0) (((st (0)) + (xa)))) (1)) + (xb)))) (2) ((((upd (upd st (0) (((st (0)) + (xa)))) (1) ((((upd st (0) (((st (0)) + (xa)))) (1)) + (xb)))) (2)) + (xc)))) (3)) + (xd)))) (4) ((((upd (upd (upd (upd st (0) (((st (0)) + (xa)))) (1) ((((upd st (0) (((st (0)) + (xa)))) (1)) + (xb)))) (2) ((((upd (upd st (0) (((st (0)) + (xa)))) (1) ((((upd st (0) (((st (0)) + (xa)))) (1)) + (xb)))) (2)) + (xc)))) (3) ((((upd (upd (upd st (0) (((st (0)) + (xa)))) (1) ((((upd st (0) (((st (0)) + (xa)))) (1)) + (xb)))) (2) ((((upd (upd st (0) (((st (0)) + (xa)))) (1) ((((upd st (0) (((st (0)) + (xa)))) (1)) + (xb)))) (2)) + (xc)))) (3)) + (xd)))) (4)) + (xe)))) (5)) + (xf)))) (6) ((((upd (upd (upd (upd (upd (upd st (0) (((st (0)) + (xa)))) (1) ((((upd st (0) (((st (0)) + (xa)))) (1)) + (xb)))) (2) ((((upd (upd st (0) (((st (0)) + (xa)))) (1) ((((upd st (0) (((st (0)) + (xa)))) (1)) + (xb)))) (2)) + (xc)))) (3) ((((upd (upd (upd st (0) (((st (0)) + (xa)))) (1) ((((upd st (0) (((st (0)) + (xa)))) (1)) + (xb)))) (2) ((((upd (upd st (0) (((st (0)) + (xa)))) (1) ((((upd st (0) (((st (0)) + (xa)))) (1)) + (xb)))) (2)) + (xc)))) (3)) + (xd)))) (4) ((((upd (upd (upd (upd st (0) (((st (0)) + (xa)))) (1) ((((upd st (0) (((st (0)) + (xa)))) (1)) + (xb)))) (2) ((((upd (upd st (0) (((st (0)) + (xa)))) (1) ((((upd st (0) (((st (0)) + (xa)))) (1)) + (xb)))) (2)) + (xc)))) (3) ((((upd (upd (upd st (0) (((st (0)) + (xa)))) (1) ((((upd st (0) (((st (0)) + (xa)))) (1)) + (xb)))) (2) ((((upd (upd st (0) (((st (0)) + (xa)))) (1) ((((upd st (0) (((st (0)) + (xa)))) (1)) + (xb)))) (2)) + (xc)))) (3)) + (xd)))) (4)) + (xe)))) (5) ((((upd (upd (upd (upd (upd st (0) (((st (0)) + (xa)))) (1) ((((upd st (0) (((st (0)) + (xa)))) (1)) + (xb)))) (2) ((((upd (upd st (0) (((st (0)) + (xa)))) (1) ((((upd st (0) (((st (0)) + (xa)))) (1)) + (xb)))) (2)) + (xc)))) (3) ((((upd (upd (upd st (0) (((st (0)) + (xa)))) (1) ((((upd st (0) (((st (0)) + (xa)))) (1)) + (xb)))) (2) ((((upd (upd st (0) (((st (0)) + (xa)))) (1) ((((upd st (0) (((st (0)) + (xa)))) (1)) + (xb)))) (2)) + (xc)))) (3)) + (xd)))) (4) ((((upd (upd (upd (upd st (0) (((st (0)) + (xa)))) (1) ((((upd st (0) (((st (0)) + (xa)))) (1)) + (xb)))) (2) ((((upd (upd st (0) (((st (0)) + (xa)))) (1) ((((upd st (0) (((st (0)) + (xa)))) (1)) + (xb)))) (2)) + (xc)))) (3) ((((upd (upd (upd st (0) (((st (0)) + (xa)))) (1) ((((upd st (0) (((st (0)) + (xa)))) (1)) + (xb)))) (2) ((((upd (upd st (0) (((st (0)) + (xa)))) (1) ((((upd st (0) (((st (0)) + (xa)))) (1)) + (xb)))) (2)) + (xc)))) (3)) + (xd)))) (4)) + (xe)))) (5)) + (xf)))) (6)) + (xg)))) (7) ((((upd (upd (upd (upd (upd (upd (upd st (0) (((st (0)) + (xa)))) (1) ((((upd st (0) (((st (0)) + (xa)))) (1)) + (xb)))) (2) ((((upd (upd st (0) (((st (0)) + (xa)))) (1) ((((upd st (0) (((st (0)) + (xa)))) (1)) + (xb)))) (2)) + (xc)))) (3) ((((upd (upd (upd st (0) (((st (0)) + (xa)))) (1) ((((upd st (0) (((st (0)) + (xa)))) (1)) + (xb)))) (2) ((((upd (upd st (0) (((st (0)) + (xa)))) (1) ((((upd st (0) (((st (0)) + (xa)))) (1)) + (xb)))) (2)) + (xc)))) (3)) + (xd)))) (4) ((((upd (upd (upd (upd st (0) (((st (0)) + (xa)))) (1) ((((upd st (0) (((st (0)) + (xa)))) (1)) + (xb)))) (2) ((((upd (upd st (0) (((st (0)) + (xa)))) (1) ((((upd st (0) (((st (0)) + (xa)))) (1)) + (xb)))) (2)) + (xc)))) (3) ((((upd (upd (upd st (0) (((st (0)) + (xa)))) (1) ((((upd st (0) (((st (0)) + (xa)))) (1)) + (xb)))) (2) ((((upd (upd st (0) (((st (0)) + (xa)))) (1) ((((upd st (0) (((st (0)) + (xa)))) (1)) + (xb)))) (2)) + (xc)))) (3)) + (xd)))) (4)) + (xe)))) (5) ((((upd (upd (upd (upd (upd st (0) (((st (0)) + (xa)))) (1) ((((upd st (0) (((st (0)) + (xa)))) (1)) + (xb)))) (2) ((((upd (upd st (0) (((st (0)) + (xa)))) (1) ((((upd st (0) (((st (0)) + (xa)))) (1)) + (xb)))) (2)) + (xc)))) (3) ((((upd (upd (upd st (0) (((st (0)) + (xa)))) (1) ((((upd st (0) (((st (0)) + (xa)))) (1)) + (xb)))) (2) ((((upd (upd st (0) (((st (0)) + (xa)))) (1) ((((upd st (0) (((st (0)) + (xa)))) (1)) + (xb)))) (2)) + (xc)))) (3)) + (xd)))) (4) ((((upd (upd (upd (upd st (0) (((st (0)) + (xa)))) (1) ((((upd st (0) (((st (0)) + (xa)))) (1)) + (xb)))) (2) ((((upd (upd st (0) (((st (0)) + (xa)))) (1) ((((upd st (0) (((st (0)) + (xa)))) (1)) + (xb)))) (2)) + (xc)))) (3) ((((upd (upd (upd st (0) (((st (0)) + (xa)))) (1) ((((upd st (0) (((st (0)) + (xa)))) (1)) + (xb)))) (2) ((((upd (upd st (0) (((st (0)) + (xa)))) (1) ((((upd st (0) (((st (0)) + (xa)))) (1)) + (xb)))) (2)) + (xc)))) (3)) + (xd)))) (4)) + (xe)))) (5)) + (xf)))) (6) ((((upd (upd (upd (upd (upd (upd st (0) (((st (0)) + (xa)))) (1) ((((upd st (0) (((st (0)) + (xa)))) (1)) + (xb)))) (2) ((((upd (upd st (0) (((st (0)) + (xa)))) (1) ((((upd st (0) (((st (0)) + (xa)))) (1)) + (xb)))) (2)) + (xc)))) (3) ((((upd (upd (upd st (0) (((st (0)) + (xa)))) (1) ((((upd st (0) (((st (0)) + (xa)))) (1)) + (xb)))) (2) ((((upd (upd st (0) (((st (0)) + (xa)))) (1) ((((upd st (0) (((st (0)) + (xa)))) (1)) + (xb)))) (2)) + (xc)))) (3)) + (xd)))) (4) ((((upd (upd (upd (upd st (0) (((st (0)) + (xa)))) (1) ((((upd st (0) (((st (0)) + (xa)))) (1)) + (xb)))) (2) ((((upd (upd st (0) (((st (0)) + (xa)))) (1) ((((upd st (0) (((st (0)) + (xa)))) (1)) + (xb)))) (2)) + (xc)))) (3) ((((upd (upd (upd st (0) (((st (0)) + (xa)))) (1) ((((upd st (0) (((st (0)) + (xa)))) (1)) + (xb)))) (2) ((((upd (upd st (0) (((st (0)) + (xa)))) (1) ((((upd st (0) (((st (0)) + (xa)))) (1)) + (xb)))) (2)) + (xc)))) (3)) + (xd)))) (4)) + (xe)))) (5) ((((upd (upd (upd (upd (upd st (0) (((st (0)) + (xa)))) (1) ((((upd st (0) (((st (0)) + (xa)))) (1)) + (xb)))) (2) ((((upd (upd st (0) (((st (0)) + (xa)))) (1) ((((upd st (0) (((st (0)) + (xa)))) (1)) + (xb)))) (2)) + (xc)))) (3) ((((upd (upd (upd st (0) (((st (0)) + (xa)))) (1) ((((upd st (0) (((st (0)) + (xa)))) (1)) + (xb)))) (2) ((((upd (upd st (0) (((st (0)) + (xa)))) (1) ((((upd st (0) (((st (0)) + (xa)))) (1)) + (xb)))) (2)) + (xc)))) (3)) + (xd)))) (4) ((((upd (upd (upd (upd st (0) (((st (0)) + (xa)))) (1) ((((upd st (0) (((st (0)) + (xa)))) (1)) + (xb)))) (2) ((((upd (upd st (0) (((st (0)) + (xa)))) (1) ((((upd st (0) (((st (0)) + (xa)))) (1)) + (xb)))) (2)) + (xc)))) (3) ((((upd (upd (upd st (0) (((st (0)) + (xa)))) (1) ((((upd st (0) (((st (0)) + (xa)))) (1)) + (xb)))) (2) ((((upd (upd st (0) (((st (0)) + (xa)))) (1) ((((upd st (0) (((st (0)) + (xa)))) (1)) + (xb)))) (2)) + (xc)))) (3)) + (xd)))) (4)) + (xe)))) (5)) + (xf)))) (6)) + (xg)))) (7)) + (xh))))) := hD
    exact kr_v (_) hx hb hr hlocks hK hP hD hS (mx_end hI_0) dX0_mixBlock_300
  · have c_70 : i < 64 := kn_nle c_70 (by omega) (by omega)
    have hlt : i < 64 := c_70
    refine lv_iload hx hb dX0_mixBlock_73 (lv_at hl 5 rfl) ?_
    refine lv_iload hx hb dX0_mixBlock_75 (lv_at hl 6 rfl) ?_
    refine lv_iand hx hb dX0_mixBlock_77 ?_
    refine lv_iload hx hb dX0_mixBlock_78 (lv_at hl 5 rfl) ?_
    refine lv_iconst (v := ((-1 : Int32))) hx hb dX0_mixBlock_80 (by decide) ?_
    refine lv_ixor hx hb dX0_mixBlock_81 ?_
    refine lv_iload hx hb dX0_mixBlock_82 (lv_at hl 7 rfl) ?_
    refine lv_iand hx hb dX0_mixBlock_84 ?_
    refine lv_ixor hx hb dX0_mixBlock_85 ?_
    refine lv_istore (lv' := [(10, .int (((xe) &&& (xf)) ^^^ (((xe) ^^^ ((-1 : Int32))) &&& (xg)))), (0, .ref (q 4)), (1, .int xa), (2, .int xb), (3, .int xc), (4, .int xd), (5, .int xe), (6, .int xf), (7, .int xg), (8, .int xh), (9, .int (nI i))]) hx hb dX0_mixBlock_86 hl (by decide) rfl (fun ls hl => ?_)
    refine lv_iload_n hx hb dX0_mixBlock_88 rfl (lv_at hl 2 rfl) ?_
    refine lv_iload_n hx hb dX0_mixBlock_89 rfl (lv_at hl 3 rfl) ?_
    refine lv_iand hx hb dX0_mixBlock_90 ?_
    refine lv_iload_n hx hb dX0_mixBlock_91 rfl (lv_at hl 2 rfl) ?_
    refine lv_iload_n hx hb dX0_mixBlock_92 rfl (lv_at hl 4 rfl) ?_
    refine lv_iand hx hb dX0_mixBlock_93 ?_
    refine lv_ixor hx hb dX0_mixBlock_94 ?_
    refine lv_iload_n hx hb dX0_mixBlock_95 rfl (lv_at hl 3 rfl) ?_
    refine lv_iload_n hx hb dX0_mixBlock_96 rfl (lv_at hl 4 rfl) ?_
    refine lv_iand hx hb dX0_mixBlock_97 ?_
    refine lv_ixor hx hb dX0_mixBlock_98 ?_
    refine lv_istore (lv' := [(11, .int ((((xa) &&& (xb)) ^^^ ((xa) &&& (xc))) ^^^ ((xb) &&& (xc)))), (10, .int (((xe) &&& (xf)) ^^^ (((xe) ^^^ ((-1 : Int32))) &&& (xg)))), (0, .ref (q 4)), (1, .int xa), (2, .int xb), (3, .int xc), (4, .int xd), (5, .int xe), (6, .int xf), (7, .int xg), (8, .int xh), (9, .int (nI i))]) hx hb dX0_mixBlock_99 hl (by decide) rfl (fun ls hl => ?_)
    refine lv_iload hx hb dX0_mixBlock_101 (lv_at hl 7 rfl) ?_
    refine lv_bipush (v := ((6 : Int32))) hx hb dX0_mixBlock_103 (by decide) ?_
    refine kcs_i (As := [.int xe, .int ((6 : Int32))]) (rest := []) ⟨hx, hb, hml, hown, hts⟩ (c_D_turn l D A q cB cI (wk q cB cI tl lv lb ln tp ll id ms sc st) ((xe)) (((6 : Int32)))) (cwS 2 hts gX0_mixBlock_X0_turn rfl rfl rfl (by decide +kernel) ⟨Nat.le_of_ble_eq_true rfl, Nat.le_of_ble_eq_true rfl⟩) hK hP hD hS hZ rfl hl.1 rfl (Nat.le_of_ble_eq_true rfl) ⟨Nat.zero_le _, Nat.zero_le _⟩ dX0_mixBlock_105 (fun r_1 _ H locs hw hP hD hS => ?_)
    have hw : r_1 = (tn (xe) ((6 : Int32))) := hw
    subst hw
    have hP : va_P D vwCl (wk q cB cI tl lv lb ln tp ll id ms sc st) H := hP
    have hD : va_D A (wk q cB cI tl lv lb ln tp ll id ms sc st) := hD
    refine lv_iload hx hb dX0_mixBlock_108 (lv_at hl 7 rfl) ?_
    refine lv_bipush (v := ((11 : Int32))) hx hb dX0_mixBlock_110 (by decide) ?_
    refine kcs_i (As := [.int xe, .int ((11 : Int32))]) (rest := [.int (tn (xe) ((6 : Int32)))]) ⟨hx, hb, hml, hown, hts⟩ (c_D_turn l D A q cB cI (wk q cB cI tl lv lb ln tp ll id ms sc st) ((xe)) (((11 : Int32)))) (cwS 2 hts gX0_mixBlock_X0_turn rfl rfl rfl (by decide +kernel) ⟨Nat.le_of_ble_eq_true rfl, Nat.le_of_ble_eq_true rfl⟩) hK hP hD hS hZ rfl hl.1 rfl (Nat.le_of_ble_eq_true rfl) ⟨Nat.zero_le _, Nat.zero_le _⟩ dX0_mixBlock_112 (fun r_2 _ H locs hw hP hD hS => ?_)
    have hw : r_2 = (tn (xe) ((11 : Int32))) := hw
    subst hw
    have hP : va_P D vwCl (wk q cB cI tl lv lb ln tp ll id ms sc st) H := hP
    have hD : va_D A (wk q cB cI tl lv lb ln tp ll id ms sc st) := hD
    refine lv_ixor hx hb dX0_mixBlock_115 ?_
    refine lv_iload hx hb dX0_mixBlock_116 (lv_at hl 7 rfl) ?_
    refine lv_bipush (v := ((25 : Int32))) hx hb dX0_mixBlock_118 (by decide) ?_
    refine kcs_i (As := [.int xe, .int ((25 : Int32))]) (rest := [.int ((tn (xe) ((6 : Int32))) ^^^ (tn (xe) ((11 : Int32))))]) ⟨hx, hb, hml, hown, hts⟩ (c_D_turn l D A q cB cI (wk q cB cI tl lv lb ln tp ll id ms sc st) ((xe)) (((25 : Int32)))) (cwS 2 hts gX0_mixBlock_X0_turn rfl rfl rfl (by decide +kernel) ⟨Nat.le_of_ble_eq_true rfl, Nat.le_of_ble_eq_true rfl⟩) hK hP hD hS hZ rfl hl.1 rfl (Nat.le_of_ble_eq_true rfl) ⟨Nat.zero_le _, Nat.zero_le _⟩ dX0_mixBlock_120 (fun r_3 _ H locs hw hP hD hS => ?_)
    have hw : r_3 = (tn (xe) ((25 : Int32))) := hw
    subst hw
    have hP : va_P D vwCl (wk q cB cI tl lv lb ln tp ll id ms sc st) H := hP
    have hD : va_D A (wk q cB cI tl lv lb ln tp ll id ms sc st) := hD
    refine lv_ixor hx hb dX0_mixBlock_123 ?_
    refine lv_istore (lv' := [(12, .int (((tn (xe) ((6 : Int32))) ^^^ (tn (xe) ((11 : Int32)))) ^^^ (tn (xe) ((25 : Int32))))), (11, .int ((((xa) &&& (xb)) ^^^ ((xa) &&& (xc))) ^^^ ((xb) &&& (xc)))), (10, .int (((xe) &&& (xf)) ^^^ (((xe) ^^^ ((-1 : Int32))) &&& (xg)))), (0, .ref (q 4)), (1, .int xa), (2, .int xb), (3, .int xc), (4, .int xd), (5, .int xe), (6, .int xf), (7, .int xg), (8, .int xh), (9, .int (nI i))]) hx hb dX0_mixBlock_124 hl (by decide) rfl (fun ls hl => ?_)
    refine lv_iload_n hx hb dX0_mixBlock_126 rfl (lv_at hl 4 rfl) ?_
    refine lv_iconst (v := ((2 : Int32))) hx hb dX0_mixBlock_127 (by decide) ?_
    refine kcs_i (As := [.int xa, .int ((2 : Int32))]) (rest := []) ⟨hx, hb, hml, hown, hts⟩ (c_D_turn l D A q cB cI (wk q cB cI tl lv lb ln tp ll id ms sc st) ((xa)) (((2 : Int32)))) (cwS 2 hts gX0_mixBlock_X0_turn rfl rfl rfl (by decide +kernel) ⟨Nat.le_of_ble_eq_true rfl, Nat.le_of_ble_eq_true rfl⟩) hK hP hD hS hZ rfl hl.1 rfl (Nat.le_of_ble_eq_true rfl) ⟨Nat.zero_le _, Nat.zero_le _⟩ dX0_mixBlock_128 (fun r_4 _ H locs hw hP hD hS => ?_)
    have hw : r_4 = (tn (xa) ((2 : Int32))) := hw
    subst hw
    have hP : va_P D vwCl (wk q cB cI tl lv lb ln tp ll id ms sc st) H := hP
    have hD : va_D A (wk q cB cI tl lv lb ln tp ll id ms sc st) := hD
    refine lv_iload_n hx hb dX0_mixBlock_131 rfl (lv_at hl 4 rfl) ?_
    refine lv_bipush (v := ((13 : Int32))) hx hb dX0_mixBlock_132 (by decide) ?_
    refine kcs_i (As := [.int xa, .int ((13 : Int32))]) (rest := [.int (tn (xa) ((2 : Int32)))]) ⟨hx, hb, hml, hown, hts⟩ (c_D_turn l D A q cB cI (wk q cB cI tl lv lb ln tp ll id ms sc st) ((xa)) (((13 : Int32)))) (cwS 2 hts gX0_mixBlock_X0_turn rfl rfl rfl (by decide +kernel) ⟨Nat.le_of_ble_eq_true rfl, Nat.le_of_ble_eq_true rfl⟩) hK hP hD hS hZ rfl hl.1 rfl (Nat.le_of_ble_eq_true rfl) ⟨Nat.zero_le _, Nat.zero_le _⟩ dX0_mixBlock_134 (fun r_5 _ H locs hw hP hD hS => ?_)
    have hw : r_5 = (tn (xa) ((13 : Int32))) := hw
    subst hw
    have hP : va_P D vwCl (wk q cB cI tl lv lb ln tp ll id ms sc st) H := hP
    have hD : va_D A (wk q cB cI tl lv lb ln tp ll id ms sc st) := hD
    refine lv_ixor hx hb dX0_mixBlock_137 ?_
    refine lv_iload_n hx hb dX0_mixBlock_138 rfl (lv_at hl 4 rfl) ?_
    refine lv_bipush (v := ((22 : Int32))) hx hb dX0_mixBlock_139 (by decide) ?_
    refine kcs_i (As := [.int xa, .int ((22 : Int32))]) (rest := [.int ((tn (xa) ((2 : Int32))) ^^^ (tn (xa) ((13 : Int32))))]) ⟨hx, hb, hml, hown, hts⟩ (c_D_turn l D A q cB cI (wk q cB cI tl lv lb ln tp ll id ms sc st) ((xa)) (((22 : Int32)))) (cwS 2 hts gX0_mixBlock_X0_turn rfl rfl rfl (by decide +kernel) ⟨Nat.le_of_ble_eq_true rfl, Nat.le_of_ble_eq_true rfl⟩) hK hP hD hS hZ rfl hl.1 rfl (Nat.le_of_ble_eq_true rfl) ⟨Nat.zero_le _, Nat.zero_le _⟩ dX0_mixBlock_141 (fun r_6 _ H locs hw hP hD hS => ?_)
    have hw : r_6 = (tn (xa) ((22 : Int32))) := hw
    subst hw
    have hP : va_P D vwCl (wk q cB cI tl lv lb ln tp ll id ms sc st) H := hP
    have hD : va_D A (wk q cB cI tl lv lb ln tp ll id ms sc st) := hD
    refine lv_ixor hx hb dX0_mixBlock_144 ?_
    refine lv_istore (lv' := [(13, .int (((tn (xa) ((2 : Int32))) ^^^ (tn (xa) ((13 : Int32)))) ^^^ (tn (xa) ((22 : Int32))))), (12, .int (((tn (xe) ((6 : Int32))) ^^^ (tn (xe) ((11 : Int32)))) ^^^ (tn (xe) ((25 : Int32))))), (11, .int ((((xa) &&& (xb)) ^^^ ((xa) &&& (xc))) ^^^ ((xb) &&& (xc)))), (10, .int (((xe) &&& (xf)) ^^^ (((xe) ^^^ ((-1 : Int32))) &&& (xg)))), (0, .ref (q 4)), (1, .int xa), (2, .int xb), (3, .int xc), (4, .int xd), (5, .int xe), (6, .int xf), (7, .int xg), (8, .int xh), (9, .int (nI i))]) hx hb dX0_mixBlock_145 hl (by decide) rfl (fun ls hl => ?_)
    refine lv_iload hx hb dX0_mixBlock_147 (lv_at hl 12 rfl) ?_
    refine lv_iload hx hb dX0_mixBlock_149 (lv_at hl 1 rfl) ?_
    refine lv_iadd hx hb dX0_mixBlock_151 ?_
    refine lv_iload hx hb dX0_mixBlock_152 (lv_at hl 3 rfl) ?_
    refine lv_iadd hx hb dX0_mixBlock_154 ?_
    refine kz_get hx hb hZ hS 2 rfl hown lk_51 dX0_mixBlock_155 ?_
    refine lv_iload hx hb dX0_mixBlock_158 (lv_at hl 13 rfl) ?_
    refine kz_ld hx hb hZ hS 2 rfl (i) (rfl) (by omega) (by decide) dX0_mixBlock_160 ?_
    refine lv_iadd hx hb dX0_mixBlock_161 ?_
    refine lv_aload_n hx hb dX0_mixBlock_162 rfl (lv_at hl 4 rfl) ?_
    refine va_get (D := D) (ci := 0) (v := .ref (q 6)) (C := RX0) (T := TX0) (N := 4) hx hb hts hin_0 hown hK hP 4 rfl rfl 1 (by decide) lk_15 (fun _ h9 => h9) rfl dX0_mixBlock_163 ?_
    refine lv_iload hx hb dX0_mixBlock_166 (lv_at hl 13 rfl) ?_
    refine kb_iald hx hb hK hP 6 1 rfl rfl (i) (rfl) (by omega) (by decide) dX0_mixBlock_168 ?_
    refine lv_iadd hx hb dX0_mixBlock_169 ?_
    refine lv_istore (lv' := [(14, .int (((((xh) + (((tn (xe) ((6 : Int32))) ^^^ (tn (xe) ((11 : Int32)))) ^^^ (tn (xe) ((25 : Int32))))) + (((xe) &&& (xf)) ^^^ (((xe) ^^^ ((-1 : Int32))) &&& (xg)))) + (rwv (i))) + (sc (i)))), (13, .int (((tn (xa) ((2 : Int32))) ^^^ (tn (xa) ((13 : Int32)))) ^^^ (tn (xa) ((22 : Int32))))), (12, .int (((tn (xe) ((6 : Int32))) ^^^ (tn (xe) ((11 : Int32)))) ^^^ (tn (xe) ((25 : Int32))))), (11, .int ((((xa) &&& (xb)) ^^^ ((xa) &&& (xc))) ^^^ ((xb) &&& (xc)))), (10, .int (((xe) &&& (xf)) ^^^ (((xe) ^^^ ((-1 : Int32))) &&& (xg)))), (0, .ref (q 4)), (1, .int xa), (2, .int xb), (3, .int xc), (4, .int xd), (5, .int xe), (6, .int xf), (7, .int xg), (8, .int xh), (9, .int (nI i))]) hx hb dX0_mixBlock_170 hl (by decide) rfl (fun ls hl => ?_)
    refine lv_iload hx hb dX0_mixBlock_172 (lv_at hl 12 rfl) ?_
    refine lv_istore (lv' := [(8, .int xg), (14, .int (((((xh) + (((tn (xe) ((6 : Int32))) ^^^ (tn (xe) ((11 : Int32)))) ^^^ (tn (xe) ((25 : Int32))))) + (((xe) &&& (xf)) ^^^ (((xe) ^^^ ((-1 : Int32))) &&& (xg)))) + (rwv (i))) + (sc (i)))), (13, .int (((tn (xa) ((2 : Int32))) ^^^ (tn (xa) ((13 : Int32)))) ^^^ (tn (xa) ((22 : Int32))))), (12, .int (((tn (xe) ((6 : Int32))) ^^^ (tn (xe) ((11 : Int32)))) ^^^ (tn (xe) ((25 : Int32))))), (11, .int ((((xa) &&& (xb)) ^^^ ((xa) &&& (xc))) ^^^ ((xb) &&& (xc)))), (10, .int (((xe) &&& (xf)) ^^^ (((xe) ^^^ ((-1 : Int32))) &&& (xg)))), (0, .ref (q 4)), (1, .int xa), (2, .int xb), (3, .int xc), (4, .int xd), (5, .int xe), (6, .int xf), (7, .int xg), (9, .int (nI i))]) hx hb dX0_mixBlock_174 hl (by decide) rfl (fun ls hl => ?_)
    refine lv_iload hx hb dX0_mixBlock_176 (lv_at hl 12 rfl) ?_
    refine lv_istore (lv' := [(7, .int xf), (8, .int xg), (14, .int (((((xh) + (((tn (xe) ((6 : Int32))) ^^^ (tn (xe) ((11 : Int32)))) ^^^ (tn (xe) ((25 : Int32))))) + (((xe) &&& (xf)) ^^^ (((xe) ^^^ ((-1 : Int32))) &&& (xg)))) + (rwv (i))) + (sc (i)))), (13, .int (((tn (xa) ((2 : Int32))) ^^^ (tn (xa) ((13 : Int32)))) ^^^ (tn (xa) ((22 : Int32))))), (12, .int (((tn (xe) ((6 : Int32))) ^^^ (tn (xe) ((11 : Int32)))) ^^^ (tn (xe) ((25 : Int32))))), (11, .int ((((xa) &&& (xb)) ^^^ ((xa) &&& (xc))) ^^^ ((xb) &&& (xc)))), (10, .int (((xe) &&& (xf)) ^^^ (((xe) ^^^ ((-1 : Int32))) &&& (xg)))), (0, .ref (q 4)), (1, .int xa), (2, .int xb), (3, .int xc), (4, .int xd), (5, .int xe), (6, .int xf), (9, .int (nI i))]) hx hb dX0_mixBlock_178 hl (by decide) rfl (fun ls hl => ?_)
    refine lv_iload hx hb dX0_mixBlock_180 (lv_at hl 12 rfl) ?_
    refine lv_istore (lv' := [(6, .int xe), (7, .int xf), (8, .int xg), (14, .int (((((xh) + (((tn (xe) ((6 : Int32))) ^^^ (tn (xe) ((11 : Int32)))) ^^^ (tn (xe) ((25 : Int32))))) + (((xe) &&& (xf)) ^^^ (((xe) ^^^ ((-1 : Int32))) &&& (xg)))) + (rwv (i))) + (sc (i)))), (13, .int (((tn (xa) ((2 : Int32))) ^^^ (tn (xa) ((13 : Int32)))) ^^^ (tn (xa) ((22 : Int32))))), (12, .int (((tn (xe) ((6 : Int32))) ^^^ (tn (xe) ((11 : Int32)))) ^^^ (tn (xe) ((25 : Int32))))), (11, .int ((((xa) &&& (xb)) ^^^ ((xa) &&& (xc))) ^^^ ((xb) &&& (xc)))), (10, .int (((xe) &&& (xf)) ^^^ (((xe) ^^^ ((-1 : Int32))) &&& (xg)))), (0, .ref (q 4)), (1, .int xa), (2, .int xb), (3, .int xc), (4, .int xd), (5, .int xe), (9, .int (nI i))]) hx hb dX0_mixBlock_182 hl (by decide) rfl (fun ls hl => ?_)
    refine lv_iload hx hb dX0_mixBlock_184 (lv_at hl 12 rfl) ?_
    refine lv_iload hx hb dX0_mixBlock_186 (lv_at hl 3 rfl) ?_
    refine lv_iadd hx hb dX0_mixBlock_188 ?_
    refine lv_istore (lv' := [(5, .int ((xd) + (((((xh) + (((tn (xe) ((6 : Int32))) ^^^ (tn (xe) ((11 : Int32)))) ^^^ (tn (xe) ((25 : Int32))))) + (((xe) &&& (xf)) ^^^ (((xe) ^^^ ((-1 : Int32))) &&& (xg)))) + (rwv (i))) + (sc (i))))), (6, .int xe), (7, .int xf), (8, .int xg), (14, .int (((((xh) + (((tn (xe) ((6 : Int32))) ^^^ (tn (xe) ((11 : Int32)))) ^^^ (tn (xe) ((25 : Int32))))) + (((xe) &&& (xf)) ^^^ (((xe) ^^^ ((-1 : Int32))) &&& (xg)))) + (rwv (i))) + (sc (i)))), (13, .int (((tn (xa) ((2 : Int32))) ^^^ (tn (xa) ((13 : Int32)))) ^^^ (tn (xa) ((22 : Int32))))), (12, .int (((tn (xe) ((6 : Int32))) ^^^ (tn (xe) ((11 : Int32)))) ^^^ (tn (xe) ((25 : Int32))))), (11, .int ((((xa) &&& (xb)) ^^^ ((xa) &&& (xc))) ^^^ ((xb) &&& (xc)))), (10, .int (((xe) &&& (xf)) ^^^ (((xe) ^^^ ((-1 : Int32))) &&& (xg)))), (0, .ref (q 4)), (1, .int xa), (2, .int xb), (3, .int xc), (4, .int xd), (9, .int (nI i))]) hx hb dX0_mixBlock_189 hl (by decide) rfl (fun ls hl => ?_)
    refine lv_iload_n hx hb dX0_mixBlock_191 rfl (lv_at hl 12 rfl) ?_
    refine lv_istore (lv' := [(4, .int xc), (5, .int ((xd) + (((((xh) + (((tn (xe) ((6 : Int32))) ^^^ (tn (xe) ((11 : Int32)))) ^^^ (tn (xe) ((25 : Int32))))) + (((xe) &&& (xf)) ^^^ (((xe) ^^^ ((-1 : Int32))) &&& (xg)))) + (rwv (i))) + (sc (i))))), (6, .int xe), (7, .int xf), (8, .int xg), (14, .int (((((xh) + (((tn (xe) ((6 : Int32))) ^^^ (tn (xe) ((11 : Int32)))) ^^^ (tn (xe) ((25 : Int32))))) + (((xe) &&& (xf)) ^^^ (((xe) ^^^ ((-1 : Int32))) &&& (xg)))) + (rwv (i))) + (sc (i)))), (13, .int (((tn (xa) ((2 : Int32))) ^^^ (tn (xa) ((13 : Int32)))) ^^^ (tn (xa) ((22 : Int32))))), (12, .int (((tn (xe) ((6 : Int32))) ^^^ (tn (xe) ((11 : Int32)))) ^^^ (tn (xe) ((25 : Int32))))), (11, .int ((((xa) &&& (xb)) ^^^ ((xa) &&& (xc))) ^^^ ((xb) &&& (xc)))), (10, .int (((xe) &&& (xf)) ^^^ (((xe) ^^^ ((-1 : Int32))) &&& (xg)))), (0, .ref (q 4)), (1, .int xa), (2, .int xb), (3, .int xc), (9, .int (nI i))]) hx hb dX0_mixBlock_192 hl (by decide) rfl (fun ls hl => ?_)
    refine lv_iload_n hx hb dX0_mixBlock_194 rfl (lv_at hl 12 rfl) ?_
    refine lv_istore_n (lv' := [(3, .int xb), (4, .int xc), (5, .int ((xd) + (((((xh) + (((tn (xe) ((6 : Int32))) ^^^ (tn (xe) ((11 : Int32)))) ^^^ (tn (xe) ((25 : Int32))))) + (((xe) &&& (xf)) ^^^ (((xe) ^^^ ((-1 : Int32))) &&& (xg)))) + (rwv (i))) + (sc (i))))), (6, .int xe), (7, .int xf), (8, .int xg), (14, .int (((((xh) + (((tn (xe) ((6 : Int32))) ^^^ (tn (xe) ((11 : Int32)))) ^^^ (tn (xe) ((25 : Int32))))) + (((xe) &&& (xf)) ^^^ (((xe) ^^^ ((-1 : Int32))) &&& (xg)))) + (rwv (i))) + (sc (i)))), (13, .int (((tn (xa) ((2 : Int32))) ^^^ (tn (xa) ((13 : Int32)))) ^^^ (tn (xa) ((22 : Int32))))), (12, .int (((tn (xe) ((6 : Int32))) ^^^ (tn (xe) ((11 : Int32)))) ^^^ (tn (xe) ((25 : Int32))))), (11, .int ((((xa) &&& (xb)) ^^^ ((xa) &&& (xc))) ^^^ ((xb) &&& (xc)))), (10, .int (((xe) &&& (xf)) ^^^ (((xe) ^^^ ((-1 : Int32))) &&& (xg)))), (0, .ref (q 4)), (1, .int xa), (2, .int xb), (9, .int (nI i))]) hx hb dX0_mixBlock_195 rfl hl (by decide) rfl (fun ls hl => ?_)
    refine lv_iload_n hx hb dX0_mixBlock_196 rfl (lv_at hl 12 rfl) ?_
    refine lv_istore_n (lv' := [(2, .int xa), (3, .int xb), (4, .int xc), (5, .int ((xd) + (((((xh) + (((tn (xe) ((6 : Int32))) ^^^ (tn (xe) ((11 : Int32)))) ^^^ (tn (xe) ((25 : Int32))))) + (((xe) &&& (xf)) ^^^ (((xe) ^^^ ((-1 : Int32))) &&& (xg)))) + (rwv (i))) + (sc (i))))), (6, .int xe), (7, .int xf), (8, .int xg), (14, .int (((((xh) + (((tn (xe) ((6 : Int32))) ^^^ (tn (xe) ((11 : Int32)))) ^^^ (tn (xe) ((25 : Int32))))) + (((xe) &&& (xf)) ^^^ (((xe) ^^^ ((-1 : Int32))) &&& (xg)))) + (rwv (i))) + (sc (i)))), (13, .int (((tn (xa) ((2 : Int32))) ^^^ (tn (xa) ((13 : Int32)))) ^^^ (tn (xa) ((22 : Int32))))), (12, .int (((tn (xe) ((6 : Int32))) ^^^ (tn (xe) ((11 : Int32)))) ^^^ (tn (xe) ((25 : Int32))))), (11, .int ((((xa) &&& (xb)) ^^^ ((xa) &&& (xc))) ^^^ ((xb) &&& (xc)))), (10, .int (((xe) &&& (xf)) ^^^ (((xe) ^^^ ((-1 : Int32))) &&& (xg)))), (0, .ref (q 4)), (1, .int xa), (9, .int (nI i))]) hx hb dX0_mixBlock_197 rfl hl (by decide) rfl (fun ls hl => ?_)
    refine lv_iload hx hb dX0_mixBlock_198 (lv_at hl 7 rfl) ?_
    refine lv_iload hx hb dX0_mixBlock_200 (lv_at hl 8 rfl) ?_
    refine lv_iadd hx hb dX0_mixBlock_202 ?_
    refine lv_iload hx hb dX0_mixBlock_203 (lv_at hl 10 rfl) ?_
    refine lv_iadd hx hb dX0_mixBlock_205 ?_
    refine lv_istore_n (lv' := [(1, .int (((((((xh) + (((tn (xe) ((6 : Int32))) ^^^ (tn (xe) ((11 : Int32)))) ^^^ (tn (xe) ((25 : Int32))))) + (((xe) &&& (xf)) ^^^ (((xe) ^^^ ((-1 : Int32))) &&& (xg)))) + (rwv (i))) + (sc (i))) + (((tn (xa) ((2 : Int32))) ^^^ (tn (xa) ((13 : Int32)))) ^^^ (tn (xa) ((22 : Int32))))) + ((((xa) &&& (xb)) ^^^ ((xa) &&& (xc))) ^^^ ((xb) &&& (xc))))), (2, .int xa), (3, .int xb), (4, .int xc), (5, .int ((xd) + (((((xh) + (((tn (xe) ((6 : Int32))) ^^^ (tn (xe) ((11 : Int32)))) ^^^ (tn (xe) ((25 : Int32))))) + (((xe) &&& (xf)) ^^^ (((xe) ^^^ ((-1 : Int32))) &&& (xg)))) + (rwv (i))) + (sc (i))))), (6, .int xe), (7, .int xf), (8, .int xg), (14, .int (((((xh) + (((tn (xe) ((6 : Int32))) ^^^ (tn (xe) ((11 : Int32)))) ^^^ (tn (xe) ((25 : Int32))))) + (((xe) &&& (xf)) ^^^ (((xe) ^^^ ((-1 : Int32))) &&& (xg)))) + (rwv (i))) + (sc (i)))), (13, .int (((tn (xa) ((2 : Int32))) ^^^ (tn (xa) ((13 : Int32)))) ^^^ (tn (xa) ((22 : Int32))))), (12, .int (((tn (xe) ((6 : Int32))) ^^^ (tn (xe) ((11 : Int32)))) ^^^ (tn (xe) ((25 : Int32))))), (11, .int ((((xa) &&& (xb)) ^^^ ((xa) &&& (xc))) ^^^ ((xb) &&& (xc)))), (10, .int (((xe) &&& (xf)) ^^^ (((xe) ^^^ ((-1 : Int32))) &&& (xg)))), (0, .ref (q 4)), (9, .int (nI i))]) hx hb dX0_mixBlock_206 rfl hl (by decide) rfl (fun ls hl => ?_)
    refine lv_iinc (v := (nI (i + 1))) (lv' := [(9, .int (nI (i + 1))), (1, .int (((((((xh) + (((tn (xe) ((6 : Int32))) ^^^ (tn (xe) ((11 : Int32)))) ^^^ (tn (xe) ((25 : Int32))))) + (((xe) &&& (xf)) ^^^ (((xe) ^^^ ((-1 : Int32))) &&& (xg)))) + (rwv (i))) + (sc (i))) + (((tn (xa) ((2 : Int32))) ^^^ (tn (xa) ((13 : Int32)))) ^^^ (tn (xa) ((22 : Int32))))) + ((((xa) &&& (xb)) ^^^ ((xa) &&& (xc))) ^^^ ((xb) &&& (xc))))), (2, .int xa), (3, .int xb), (4, .int xc), (5, .int ((xd) + (((((xh) + (((tn (xe) ((6 : Int32))) ^^^ (tn (xe) ((11 : Int32)))) ^^^ (tn (xe) ((25 : Int32))))) + (((xe) &&& (xf)) ^^^ (((xe) ^^^ ((-1 : Int32))) &&& (xg)))) + (rwv (i))) + (sc (i))))), (6, .int xe), (7, .int xf), (8, .int xg), (14, .int (((((xh) + (((tn (xe) ((6 : Int32))) ^^^ (tn (xe) ((11 : Int32)))) ^^^ (tn (xe) ((25 : Int32))))) + (((xe) &&& (xf)) ^^^ (((xe) ^^^ ((-1 : Int32))) &&& (xg)))) + (rwv (i))) + (sc (i)))), (13, .int (((tn (xa) ((2 : Int32))) ^^^ (tn (xa) ((13 : Int32)))) ^^^ (tn (xa) ((22 : Int32))))), (12, .int (((tn (xe) ((6 : Int32))) ^^^ (tn (xe) ((11 : Int32)))) ^^^ (tn (xe) ((25 : Int32))))), (11, .int ((((xa) &&& (xb)) ^^^ ((xa) &&& (xc))) ^^^ ((xb) &&& (xc)))), (10, .int (((xe) &&& (xf)) ^^^ (((xe) ^^^ ((-1 : Int32))) &&& (xg)))), (0, .ref (q 4))]) hx hb dX0_mixBlock_207 hl (k := 14) rfl (kn_inc _ _ 1 rfl) (by decide) rfl (fun ls hl => ?_)
    refine lv_goto (tgt := 66) hx hb dX0_mixBlock_210 (by decide) ?_
    exact ih hlt _ _ _ ⟨_, _, _, _, _, _, _, _, rds_s hI_0, hP, hD, hS, (lv_sub hl [14, 1, 2, 3, 4, 5, 6, 7, 8, 0] rfl)⟩

set_option maxHeartbeats 4000000 in
set_option maxRecDepth 100000 in
/-- finishInto: the eight words of the digest come at a -/
theorem c_D_finishInto (l : Launch) (D : va_G) (A : Nat → Prop) (q : Nat → Nat) (cB cI : ClassId) (tl lv lb ln : Nat) (tp : Nat → Int32) (ll : Nat → Nat) (id ms sc st : Nat → Int32) (a : Nat) (h1 : a + 8 ≤ 1624) (h2 : ln + pl ln ≤ 192) : Kv (S := (Nat × (Nat → Int32) × (Nat → Int32) × (Nat → Int32))) l yX0_finishInto wsX0_finishInto { frames := 2, cells := 0, slots := 0, locals := 55 } D vwCl [(cB, .byte), (cI, .int)] A (zk q) [.ref (q 4), .ref (q 3), .int (nI a)] (wk q cB cI tl lv lb ln tp ll id ms sc st) (fun _ => True) (fun u => wk q cB cI tl lv lb u.1 tp ll (cat id a (hm ms ln) 8) u.2.1 u.2.2.1 u.2.2.2) := by
  refine Met.ofW (cc := cX0_finishInto) (maxL := 4) (ret := none) (by decide) rfl ?_
  intro p e s m args below meth c s₁ B hml hv
  obtain ⟨rfl, hP, hK, hD, hZ⟩ := hv
  have hx := B.exec
  have hb := B.bytes
  have hr := B.returns
  have hts := atoms_spec (ws := wsX0_finishInto) B.pre
  have hown : s.vm.findClass RX0 = some m.cls := findClass_of_methodNamed B.named
  have hlocks := B.notSynchronized
  have hS : va_S A s.heap s.heap [] := va_S.rf
  have hin_0 : ∀ w ∈ u_ws RX0 TX0 4, w ∈ wsX0_finishInto := by decide +kernel
  have lk_19 := hts (.fieldLink RX0 19 "RootDesk$Digest" "state" "[I") (by decide +kernel)
  have lk_22 := hts (.fieldLink RX0 22 "RootDesk$Digest" "length" "I") (by decide +kernel)
  have lk_36 := hts (.fieldLink RX0 36 "RootDesk$Digest" "FIRST_STATE" "[I") (by decide +kernel)
  have hl := lv_entry ([.ref (q 4), .ref (q 3), .int (nI a)]) (n := 4) (Nat.le_of_ble_eq_true rfl)
  rw [lg_entry_eq]
  generalize (lg_sl ([.ref (q 4), .ref (q 3), .int (nI a)]) ++ List.replicate (4 - (lg_sl ([.ref (q 4), .ref (q 3), .int (nI a)])).length) Slot.unset).toArray = ls at hl ⊢
  have hl : lv_has ls 4 [(0, .ref (q 4)), (1, .ref (q 3)), (2, .int (nI a))] := hl
  refine lv_aload_n hx hb dX0_finishInto_0 rfl (lv_at hl 0 rfl) ?_
  refine kc_v (As := []) (rest := []) ⟨hx, hb, hml, hown, hts⟩ (c_D_pad l D A q cB cI tl lv lb ln tp ll id ms sc st (by omega)) (cwV 0 hts gX0_finishInto_X0_pad rfl rfl rfl (by decide +kernel) ⟨Nat.le_of_ble_eq_true rfl, Nat.le_of_ble_eq_true rfl⟩) (va_recv hK hP (ci := 0) (q0 := 4) rfl rfl) hK hP hD hS hZ rfl hl.1 rfl (Nat.le_of_ble_eq_true rfl) ⟨Nat.zero_le _, Nat.zero_le _⟩ dX0_finishInto_1 (fun _ H locs _ hP hD hS => ?_)
  have hP : va_P D vwCl (wk q cB cI tl lv lb (ln + pl ln) tp ll id (cat ms ln (pd ln) (pl ln)) sc st) H := hP
  have hD : va_D A (wk q cB cI tl lv lb (ln + pl ln) tp ll id (cat ms ln (pd ln) (pl ln)) sc st) := hD
  refine lv_iconst (v := (nI (0))) hx hb dX0_finishInto_4 (by decide) ?_
  refine lv_istore_n (lv' := [(3, .int (nI 0)), (0, .ref (q 4)), (1, .ref (q 3)), (2, .int (nI a))]) hx hb dX0_finishInto_5 rfl hl (by decide) rfl (fun ls hl => ?_)
  refine kp_lp (hd := 6) (nn := 8) (fun (i : Nat) (H : Heap) (locs : List Loc) (ls : Array Slot) => ∃ (st1 : Nat → Int32), (∀ j, j < i → st1 j = fsv j) ∧ va_P D vwCl (wk q cB cI tl lv lb (ln + pl ln) tp ll id (cat ms ln (pd ln) (pl ln)) sc st1) H ∧ va_D A (wk q cB cI tl lv lb (ln + pl ln) tp ll id (cat ms ln (pd ln) (pl ln)) sc st1) ∧ va_S A s.heap H locs ∧ lv_has ls 4 [(0, .ref (q 4)), (1, .ref (q 3)), (2, .int (nI a)), (3, .int (nI i))]) ?_ 0 (by omega) _ _ _ ⟨st, fun j hj => absurd hj (Nat.not_lt_zero j), hP, hD, hS, (lv_sub hl [1, 2, 3, 0] rfl)⟩
  intro i hiN H locs ls hI ih
  obtain ⟨st1, hI_0, hP, hD, hS, hl⟩ := hI
  refine lv_iload_n hx hb dX0_finishInto_6 rfl (lv_at hl 3 rfl) ?_
  refine lv_bipush (v := (nI (8))) hx hb dX0_finishInto_7 (by decide) ?_
  refine lv_icmp_ge (tgt := 29) hx hb dX0_finishInto_9 (by decide) (fun c_9 => ?_) (fun c_9 => ?_)
  · have c_9 : 8 ≤ i := kn_le c_9 (by omega) (by omega)
    have e9 : 8 = i := by omega
    subst e9
    refine lv_iconst (v := (nI (0))) hx hb dX0_finishInto_29 (by decide) ?_
    refine lv_istore_n (lv' := [(3, .int (nI 0)), (0, .ref (q 4)), (1, .ref (q 3)), (2, .int (nI a))]) hx hb dX0_finishInto_30 rfl hl (by decide) rfl (fun ls hl => ?_)
    refine kp_lp (hd := 31) (nn := (ln + pl ln) / 64) (fun (i : Nat) (H : Heap) (locs : List Loc) (ls : Array Slot) => ∃ (sc1 : Nat → Int32), ∃ (st1 : Nat → Int32), (∀ j, j < 8 → st1 j = shs (cat ms ln (pd ln) (pl ln)) i j) ∧ va_P D vwCl (wk q cB cI tl lv lb (ln + pl ln) tp ll id (cat ms ln (pd ln) (pl ln)) sc1 st1) H ∧ va_D A (wk q cB cI tl lv lb (ln + pl ln) tp ll id (cat ms ln (pd ln) (pl ln)) sc1 st1) ∧ va_S A s.heap H locs ∧ lv_has ls 4 [(0, .ref (q 4)), (1, .ref (q 3)), (2, .int (nI a)), (3, .int (nI (64 * i)))]) ?_ 0 (by omega) _ _ _ ⟨sc, st1, hI_0, hP, hD, hS, (lv_sub hl [1, 2, 3, 0] rfl)⟩
    intro i hiN H locs ls hI ih
    obtain ⟨sc1, st1, hI_0, hP, hD, hS, hl⟩ := hI
    refine lv_iload_n hx hb dX0_finishInto_31 rfl (lv_at hl 3 rfl) ?_
    refine lv_bipush (v := (nI (64))) hx hb dX0_finishInto_32 (by decide) ?_
    refine lv_iadd hx hb dX0_finishInto_34 ?_
    refine kp_i (nI_add _ _) ?_
    refine lv_aload_n hx hb dX0_finishInto_35 rfl (lv_at hl 0 rfl) ?_
    refine va_get (D := D) (ci := 0) (v := .int (nI (ln + pl ln))) (C := RX0) (T := TX0) (N := 4) hx hb hts hin_0 hown hK hP 4 rfl rfl 3 (by decide) lk_22 (fun _ h9 => h9) rfl dX0_finishInto_36 ?_
    refine lv_icmp_gt (tgt := 57) hx hb dX0_finishInto_39 (by decide) (fun c_39 => ?_) (fun c_39 => ?_)
    · have c_39 : (ln + pl ln) < ((64 * i) + 64) := kn_lt c_39 (by omega) (by omega)
      have e9 : (ln + pl ln) / 64 = i := by omega
      subst e9
      have hst : ∀ j, j < 8 → st1 j = hm ms ln j := hI_0
      refine lv_iload_n hx hb dX0_finishInto_57 rfl (lv_at hl 2 rfl) ?_
      refine lv_if_lt (tgt := 70) hx hb dX0_finishInto_58 (by decide) (fun c_58 => absurd c_58 (nI_pos (by omega))) (fun c_58 => ?_)
      refine lv_iload_n hx hb dX0_finishInto_61 rfl (lv_at hl 2 rfl) ?_
      refine lv_bipush (v := (nI (8))) hx hb dX0_finishInto_62 (by decide) ?_
      refine lv_iadd hx hb dX0_finishInto_64 ?_
      refine kp_i (nI_add _ _) ?_
      refine lv_aload_n hx hb dX0_finishInto_65 rfl (lv_at hl 1 rfl) ?_
      refine va_alen (v := nI 1624) hx hb hK hP 3 1 rfl rfl rfl dX0_finishInto_66 ?_
      refine lv_icmp_le (tgt := 71) hx hb dX0_finishInto_67 (by decide) (fun c_67 => ?_) (fun c_67 => absurd (kn_nle c_67 (by omega) (by omega)) (by omega))
      have c_67 : (a + 8) ≤ 1624 := kn_le c_67 (by omega) (by omega)
      rw [← cat_0 id a (hm ms ln)] at hP hD
      refine lv_iconst (v := (nI (0))) hx hb dX0_finishInto_71 (by decide) ?_
      refine lv_istore_n (lv' := [(3, .int (nI 0)), (0, .ref (q 4)), (1, .ref (q 3)), (2, .int (nI a))]) hx hb dX0_finishInto_72 rfl hl (by decide) rfl (fun ls hl => ?_)
      refine kp_lp (hd := 73) (nn := 8) (fun (i : Nat) (H : Heap) (locs : List Loc) (ls : Array Slot) => va_P D vwCl (wk q cB cI tl lv lb (ln + pl ln) tp ll (cat id a (hm ms ln) i) (cat ms ln (pd ln) (pl ln)) sc1 st1) H ∧ va_D A (wk q cB cI tl lv lb (ln + pl ln) tp ll (cat id a (hm ms ln) i) (cat ms ln (pd ln) (pl ln)) sc1 st1) ∧ va_S A s.heap H locs ∧ lv_has ls 4 [(0, .ref (q 4)), (1, .ref (q 3)), (2, .int (nI a)), (3, .int (nI i))]) ?_ 0 (by omega) _ _ _ ⟨hP, hD, hS, (lv_sub hl [1, 2, 3, 0] rfl)⟩
      intro i hiN H locs ls hI ih
      obtain ⟨hP, hD, hS, hl⟩ := hI
      refine lv_iload_n hx hb dX0_finishInto_73 rfl (lv_at hl 3 rfl) ?_
      refine lv_bipush (v := (nI (8))) hx hb dX0_finishInto_74 (by decide) ?_
      refine lv_icmp_ge (tgt := 96) hx hb dX0_finishInto_76 (by decide) (fun c_76 => ?_) (fun c_76 => ?_)
      · have c_76 : 8 ≤ i := kn_le c_76 (by omega) (by omega)
        have e9 : 8 = i := by omega
        subst e9
        exact kr_v ((ln + pl ln, cat ms ln (pd ln) (pl ln), sc1, st1)) hx hb hr hlocks hK hP hD hS (trivial) dX0_finishInto_96
      · have c_76 : i < 8 := kn_nle c_76 (by omega) (by omega)
        have hlt : i < 8 := c_76
        refine lv_aload_n hx hb dX0_finishInto_79 rfl (lv_at hl 1 rfl) ?_
        refine lv_iload_n hx hb dX0_finishInto_80 rfl (lv_at hl 2 rfl) ?_
        refine lv_iload_n hx hb dX0_finishInto_81 rfl (lv_at hl 3 rfl) ?_
        refine lv_iadd hx hb dX0_finishInto_82 ?_
        refine kp_i (nI_add _ _) ?_
        refine lv_aload_n hx hb dX0_finishInto_83 rfl (lv_at hl 0 rfl) ?_
        refine va_get (D := D) (ci := 0) (v := .ref (q 7)) (C := RX0) (T := TX0) (N := 4) hx hb hts hin_0 hown hK hP 4 rfl rfl 2 (by decide) lk_19 (fun _ h9 => h9) rfl dX0_finishInto_84 ?_
        refine lv_iload_n hx hb dX0_finishInto_87 rfl (lv_at hl 3 rfl) ?_
        refine kb_iald hx hb hK hP 7 1 rfl rfl (i) (rfl) (by omega) (by decide) dX0_finishInto_88 ?_
        refine kb_iast hx hb hK hP hD hS 3 1 rfl rfl (a + i) (rfl) (by omega) (by decide) dX0_finishInto_89 (fun H locs hP hD hS => ?_)
        have hP : va_P D vwCl (wk q cB cI tl lv lb (ln + pl ln) tp ll (upd (cat id a (hm ms ln) i) (a + i) ((st1 (i)))) (cat ms ln (pd ln) (pl ln)) sc1 st1) H := hP
        have hD : va_D A (wk q cB cI tl lv lb (ln + pl ln) tp ll (upd (cat id a (hm ms ln) i) (a + i) ((st1 (i)))) (cat ms ln (pd ln) (pl ln)) sc1 st1) := hD
        rw [cat_s _ _ _ _ (hst _ hlt)] at hP hD
        have hP : va_P D vwCl (wk q cB cI tl lv lb (ln + pl ln) tp ll (cat id a (hm ms ln) (i + 1)) (cat ms ln (pd ln) (pl ln)) sc1 st1) H := hP
        have hD : va_D A (wk q cB cI tl lv lb (ln + pl ln) tp ll (cat id a (hm ms ln) (i + 1)) (cat ms ln (pd ln) (pl ln)) sc1 st1) := hD
        refine lv_iinc (v := (nI (i + 1))) (lv' := [(3, .int (nI (i + 1))), (0, .ref (q 4)), (1, .ref (q 3)), (2, .int (nI a))]) hx hb dX0_finishInto_90 hl (k := 3) rfl (kn_inc _ _ 1 rfl) (by decide) rfl (fun ls hl => ?_)
        refine lv_goto (tgt := 73) hx hb dX0_finishInto_93 (by decide) ?_
        exact ih hlt _ _ _ ⟨hP, hD, hS, (lv_sub hl [1, 2, 3, 0] rfl)⟩
    · have c_39 : ((64 * i) + 64) ≤ (ln + pl ln) := kn_nlt c_39 (by omega) (by omega)
      have hlt : i < (ln + pl ln) / 64 := by omega
      refine lv_aload_n hx hb dX0_finishInto_42 rfl (lv_at hl 0 rfl) ?_
      refine lv_iload_n hx hb dX0_finishInto_43 rfl (lv_at hl 3 rfl) ?_
      refine kc_v (As := [.int (nI (64 * i))]) (rest := []) ⟨hx, hb, hml, hown, hts⟩ (c_D_fillSchedule l D A q cB cI tl lv lb (ln + pl ln) tp ll id (cat ms ln (pd ln) (pl ln)) sc1 st1 (64 * i) (by omega)) (cwV 1 hts gX0_finishInto_X0_fillSchedule rfl rfl rfl (by decide +kernel) ⟨Nat.le_of_ble_eq_true rfl, Nat.le_of_ble_eq_true rfl⟩) (va_recv hK hP (ci := 0) (q0 := 4) rfl rfl) hK hP hD hS hZ rfl hl.1 rfl (Nat.le_of_ble_eq_true rfl) ⟨Nat.zero_le _, Nat.zero_le _⟩ dX0_finishInto_44 (fun sc2 H locs hw_sc2 hP hD hS => ?_)
      have hP : va_P D vwCl (wk q cB cI tl lv lb (ln + pl ln) tp ll id (cat ms ln (pd ln) (pl ln)) sc2 st1) H := hP
      have hD : va_D A (wk q cB cI tl lv lb (ln + pl ln) tp ll id (cat ms ln (pd ln) (pl ln)) sc2 st1) := hD
      refine lv_aload_n hx hb dX0_finishInto_47 rfl (lv_at hl 0 rfl) ?_
      refine kc_v (As := []) (rest := []) ⟨hx, hb, hml, hown, hts⟩ (c_D_mixBlock l D A q cB cI tl lv lb (ln + pl ln) tp ll id (cat ms ln (pd ln) (pl ln)) sc2 st1) (cwV 0 hts gX0_finishInto_X0_mixBlock rfl rfl rfl (by decide +kernel) ⟨Nat.le_of_ble_eq_true rfl, Nat.le_of_ble_eq_true rfl⟩) (va_recv hK hP (ci := 0) (q0 := 4) rfl rfl) hK hP hD hS hZ rfl hl.1 rfl (Nat.le_of_ble_eq_true rfl) ⟨Nat.zero_le _, Nat.zero_le _⟩ dX0_finishInto_48 (fun st2 H locs hw_st2 hP hD hS => ?_)
      have hP : va_P D vwCl (wk q cB cI tl lv lb (ln + pl ln) tp ll id (cat ms ln (pd ln) (pl ln)) sc2 st2) H := hP
      have hD : va_D A (wk q cB cI tl lv lb (ln + pl ln) tp ll id (cat ms ln (pd ln) (pl ln)) sc2 st2) := hD
      refine lv_iinc (v := (nI (64 * (i + 1)))) (lv' := [(3, .int (nI (64 * (i + 1)))), (0, .ref (q 4)), (1, .ref (q 3)), (2, .int (nI a))]) hx hb dX0_finishInto_51 hl (k := 3) rfl (kn_inc _ _ 64 (by omega)) (by decide) rfl (fun ls hl => ?_)
      refine lv_goto (tgt := 31) hx hb dX0_finishInto_54 (by decide) ?_
      exact ih hlt _ _ _ ⟨_, _, shs_back hI_0 hw_sc2 hw_st2, hP, hD, hS, (lv_sub hl [1, 2, 3, 0] rfl)⟩
  · have c_9 : i < 8 := kn_nle c_9 (by omega) (by omega)
    have hlt : i < 8 := c_9
    refine lv_aload_n hx hb dX0_finishInto_12 rfl (lv_at hl 0 rfl) ?_
    refine va_get (D := D) (ci := 0) (v := .ref (q 7)) (C := RX0) (T := TX0) (N := 4) hx hb hts hin_0 hown hK hP 4 rfl rfl 2 (by decide) lk_19 (fun _ h9 => h9) rfl dX0_finishInto_13 ?_
    refine lv_iload_n hx hb dX0_finishInto_16 rfl (lv_at hl 3 rfl) ?_
    refine kz_get hx hb hZ hS 1 rfl hown lk_36 dX0_finishInto_17 ?_
    refine lv_iload_n hx hb dX0_finishInto_20 rfl (lv_at hl 3 rfl) ?_
    refine kz_ld hx hb hZ hS 1 rfl (i) (rfl) (by omega) (by decide) dX0_finishInto_21 ?_
    refine kb_iast hx hb hK hP hD hS 7 1 rfl rfl (i) (rfl) (by omega) (by decide) dX0_finishInto_22 (fun H locs hP hD hS => ?_)
    have hP : va_P D vwCl (wk q cB cI tl lv lb (ln + pl ln) tp ll id (cat ms ln (pd ln) (pl ln)) sc (upd st1 (i) ((fsv (i))))) H := hP
    have hD : va_D A (wk q cB cI tl lv lb (ln + pl ln) tp ll id (cat ms ln (pd ln) (pl ln)) sc (upd st1 (i) ((fsv (i))))) := hD
    refine lv_iinc (v := (nI (i + 1))) (lv' := [(3, .int (nI (i + 1))), (0, .ref (q 4)), (1, .ref (q 3)), (2, .int (nI a))]) hx hb dX0_finishInto_23 hl (k := 3) rfl (kn_inc _ _ 1 rfl) (by decide) rfl (fun ls hl => ?_)
    refine lv_goto (tgt := 6) hx hb dX0_finishInto_26 (by decide) ?_
    exact ih hlt _ _ _ ⟨_, upd_s hI_0 rfl, hP, hD, hS, (lv_sub hl [1, 2, 3, 0] rfl)⟩
end
section
set_option maxHeartbeats 4000000 in
set_option maxRecDepth 100000 in
theorem c_widthAbove (l : Launch) (D : va_G) (A : Nat → Prop) (q : Nat → Nat) (cB cI : ClassId) (ws : va_W) (w : Nat) (h1 : w < 256) : Ki (S := Unit) l yX1_widthAbove wsX1_widthAbove { frames := 0, cells := 0, slots := 0, locals := 0 } D vwCl [(cB, .byte), (cI, .int)] A (zk q) [.int (nI w)] ws (fun r _ => r = (nI ((w + 1) / 2))) (fun _ => ws) := by
  refine Met.ofW (cc := cX1_widthAbove) (maxL := 1) (ret := (some .int)) (by decide) rfl ?_
  intro p e s m args below meth c s₁ B hml hv
  obtain ⟨rfl, hP, hK, hD, hZ⟩ := hv
  have hx := B.exec
  have hb := B.bytes
  have hr := B.returns
  have hts := atoms_spec (ws := wsX1_widthAbove) B.pre
  have hown : s.vm.findClass RX1 = some m.cls := findClass_of_methodNamed B.named
  have hlocks := B.notSynchronized
  have hS : va_S A s.heap s.heap [] := va_S.rf
  have hl := lv_entry ([.int (nI w)]) (n := 1) (Nat.le_of_ble_eq_true rfl)
  rw [lg_entry_eq]
  generalize (lg_sl ([.int (nI w)]) ++ List.replicate (1 - (lg_sl ([.int (nI w)])).length) Slot.unset).toArray = ls at hl ⊢
  have hl : lv_has ls 1 [(0, .int (nI w))] := hl
  refine lv_iload_n hx hb dX1_widthAbove_0 rfl (lv_at hl 0 rfl) ?_
  refine lv_iconst (v := (nI (1))) hx hb dX1_widthAbove_1 (by decide) ?_
  refine lv_iadd hx hb dX1_widthAbove_2 ?_
  refine kp_i (nI_add _ _) ?_
  refine lv_iconst (v := (nI (1))) hx hb dX1_widthAbove_3 (by decide) ?_
  refine lv_ishr hx hb dX1_widthAbove_4 ?_
  refine kp_i (y := (nI ((w + 1) / 2))) (nt_hf (by omega)) ?_
  exact kr_i (()) hx hb hr hlocks hK hP hD hS (rfl) dX1_widthAbove_5

set_option maxHeartbeats 4000000 in
set_option maxRecDepth 100000 in
theorem c_hasOneBeside (l : Launch) (D : va_G) (A : Nat → Prop) (q : Nat → Nat) (cB cI : ClassId) (ws : va_W) (x : Nat) (w : Nat) (h1 : x < 256) (h2 : w < 256) : Ki (S := Unit) l yX1_hasOneBeside wsX1_hasOneBeside { frames := 0, cells := 0, slots := 0, locals := 0 } D vwCl [(cB, .byte), (cI, .int)] A (zk q) [.int (nI x), .int (nI w)] ws (fun r _ => r = (bz (decide (xo x < w)))) (fun _ => ws) := by
  refine Met.ofW (cc := cX1_hasOneBeside) (maxL := 2) (ret := (some .boolean)) (by decide) rfl ?_
  intro p e s m args below meth c s₁ B hml hv
  obtain ⟨rfl, hP, hK, hD, hZ⟩ := hv
  have hx := B.exec
  have hb := B.bytes
  have hr := B.returns
  have hts := atoms_spec (ws := wsX1_hasOneBeside) B.pre
  have hown : s.vm.findClass RX1 = some m.cls := findClass_of_methodNamed B.named
  have hlocks := B.notSynchronized
  have hS : va_S A s.heap s.heap [] := va_S.rf
  have hl := lv_entry ([.int (nI x), .int (nI w)]) (n := 2) (Nat.le_of_ble_eq_true rfl)
  rw [lg_entry_eq]
  generalize (lg_sl ([.int (nI x), .int (nI w)]) ++ List.replicate (2 - (lg_sl ([.int (nI x), .int (nI w)])).length) Slot.unset).toArray = ls at hl ⊢
  have hl : lv_has ls 2 [(0, .int (nI x)), (1, .int (nI w))] := hl
  have hxo := xo_le x
  refine lv_iload_n hx hb dX1_hasOneBeside_0 rfl (lv_at hl 0 rfl) ?_
  refine lv_iconst (v := (nI (1))) hx hb dX1_hasOneBeside_1 (by decide) ?_
  refine lv_ixor hx hb dX1_hasOneBeside_2 ?_
  refine kp_i (y := (nI (xo x))) (nt_xo x h1) ?_
  refine lv_iload_n hx hb dX1_hasOneBeside_3 rfl (lv_at hl 1 rfl) ?_
  refine lv_icmp_ge (tgt := 11) hx hb dX1_hasOneBeside_4 (by decide) (fun c_4 => ?_) (fun c_4 => ?_)
  · have c_4 : w ≤ (xo x) := kn_le c_4 (by omega) (by omega)
    refine lv_iconst (v := ((0 : Int32))) hx hb dX1_hasOneBeside_11 (by decide) ?_
    exact kr_z (()) hx hb hr hlocks hK hP hD hS (rfl) (by first | (rw [decide_eq_true (p := xo x < w) (by omega)]; rfl) | (rw [decide_eq_false (p := xo x < w) (by omega)]; rfl)) dX1_hasOneBeside_12
  · have c_4 : (xo x) < w := kn_nle c_4 (by omega) (by omega)
    refine lv_iconst (v := ((1 : Int32))) hx hb dX1_hasOneBeside_7 (by decide) ?_
    refine lv_goto (tgt := 12) hx hb dX1_hasOneBeside_8 (by decide) ?_
    exact kr_z (()) hx hb hr hlocks hK hP hD hS (rfl) (by first | (rw [decide_eq_true (p := xo x < w) (by omega)]; rfl) | (rw [decide_eq_false (p := xo x < w) (by omega)]; rfl)) dX1_hasOneBeside_12

set_option maxHeartbeats 4000000 in
set_option maxRecDepth 100000 in
theorem c_nodeBeside (l : Launch) (D : va_G) (A : Nat → Prop) (q : Nat → Nat) (cB cI : ClassId) (ws : va_W) (t : Nat) (x : Nat) (h1 : t < 8) (h2 : x < 256) : Ki (S := Unit) l yX1_nodeBeside wsX1_nodeBeside { frames := 0, cells := 0, slots := 0, locals := 0 } D vwCl [(cB, .byte), (cI, .int)] A (zk q) [.int (nI t), .int (nI x)] ws (fun r _ => r = (nI (lsv t + xo x))) (fun _ => ws) := by
  refine Met.ofW (cc := cX1_nodeBeside) (maxL := 2) (ret := (some .int)) (by decide) rfl ?_
  intro p e s m args below meth c s₁ B hml hv
  obtain ⟨rfl, hP, hK, hD, hZ⟩ := hv
  have hx := B.exec
  have hb := B.bytes
  have hr := B.returns
  have hts := atoms_spec (ws := wsX1_nodeBeside) B.pre
  have hown : s.vm.findClass RX1 = some m.cls := findClass_of_methodNamed B.named
  have hlocks := B.notSynchronized
  have hS : va_S A s.heap s.heap [] := va_S.rf
  have lk_63 := hts (.fieldLink RX1 63 "RootDesk" "LEVEL_START" "[I") (by decide +kernel)
  have hl := lv_entry ([.int (nI t), .int (nI x)]) (n := 2) (Nat.le_of_ble_eq_true rfl)
  rw [lg_entry_eq]
  generalize (lg_sl ([.int (nI t), .int (nI x)]) ++ List.replicate (2 - (lg_sl ([.int (nI t), .int (nI x)])).length) Slot.unset).toArray = ls at hl ⊢
  have hl : lv_has ls 2 [(0, .int (nI t)), (1, .int (nI x))] := hl
  refine kz_get hx hb hZ hS 0 rfl hown lk_63 dX1_nodeBeside_0 ?_
  refine lv_iload_n hx hb dX1_nodeBeside_3 rfl (lv_at hl 0 rfl) ?_
  refine kz_ld hx hb hZ hS 0 rfl (t) (rfl) (by omega) (by decide) dX1_nodeBeside_4 ?_
  refine lv_iload_n hx hb dX1_nodeBeside_5 rfl (lv_at hl 1 rfl) ?_
  refine lv_iconst (v := (nI (1))) hx hb dX1_nodeBeside_6 (by decide) ?_
  refine lv_ixor hx hb dX1_nodeBeside_7 ?_
  refine kp_i (y := (nI (xo x))) (nt_xo x h2) ?_
  refine lv_iadd hx hb dX1_nodeBeside_8 ?_
  refine kp_i (nI_add _ _) ?_
  exact kr_i (()) hx hb hr hlocks hK hP hD hS (rfl) dX1_nodeBeside_9

set_option maxHeartbeats 4000000 in
set_option maxRecDepth 100000 in
theorem c_isLeaf (l : Launch) (D : va_G) (A : Nat → Prop) (q : Nat → Nat) (cB cI : ClassId) (tl lv lb ln : Nat) (tp : Nat → Int32) (ll : Nat → Nat) (id ms sc st : Nat → Int32) (x : Int32) : Ki (S := Unit) l yX1_isLeaf wsX1_isLeaf { frames := 0, cells := 0, slots := 0, locals := 0 } D vwCl [(cB, .byte), (cI, .int)] A (zk q) [.ref (q 0), .int x] (wk q cB cI tl lv lb ln tp ll id ms sc st) (fun r _ => r = (bz (lf (x) lv))) (fun _ => (wk q cB cI tl lv lb ln tp ll id ms sc st)) := by
  refine Met.ofW (cc := cX1_isLeaf) (maxL := 2) (ret := (some .boolean)) (by decide) rfl ?_
  intro p e s m args below meth c s₁ B hml hv
  obtain ⟨rfl, hP, hK, hD, hZ⟩ := hv
  have hx := B.exec
  have hb := B.bytes
  have hr := B.returns
  have hts := atoms_spec (ws := wsX1_isLeaf) B.pre
  have hown : s.vm.findClass RX1 = some m.cls := findClass_of_methodNamed B.named
  have hlocks := B.notSynchronized
  have hS : va_S A s.heap s.heap [] := va_S.rf
  have hin_1 : ∀ w ∈ u_ws RX1 TX1 7, w ∈ wsX1_isLeaf := by decide +kernel
  have lk_31 := hts (.fieldLink RX1 31 "RootDesk" "leaves" "I") (by decide +kernel)
  have hl := lv_entry ([.ref (q 0), .int x]) (n := 2) (Nat.le_of_ble_eq_true rfl)
  rw [lg_entry_eq]
  generalize (lg_sl ([.ref (q 0), .int x]) ++ List.replicate (2 - (lg_sl ([.ref (q 0), .int x])).length) Slot.unset).toArray = ls at hl ⊢
  have hl : lv_has ls 2 [(0, .ref (q 0)), (1, .int x)] := hl
  refine lv_iload_n hx hb dX1_isLeaf_0 rfl (lv_at hl 1 rfl) ?_
  refine lv_if_lt (tgt := 16) hx hb dX1_isLeaf_1 (by decide) (fun c_1 => ?_) (fun c_1 => ?_)
  · refine lv_iconst (v := ((0 : Int32))) hx hb dX1_isLeaf_16 (by decide) ?_
    exact kr_z (()) hx hb hr hlocks hK hP hD hS (rfl) (by first | exact lf_c c_1 c_9 | exact lf_b c_9 | exact lf_a c_1) dX1_isLeaf_17
  · refine lv_iload_n hx hb dX1_isLeaf_4 rfl (lv_at hl 1 rfl) ?_
    refine lv_aload_n hx hb dX1_isLeaf_5 rfl (lv_at hl 0 rfl) ?_
    refine va_get (D := D) (ci := 1) (v := .int (nI lv)) (C := RX1) (T := TX1) (N := 7) hx hb hts hin_1 hown hK hP 0 rfl rfl 3 (by decide) lk_31 (fun _ h9 => h9) rfl dX1_isLeaf_6 ?_
    refine lv_icmp_ge (tgt := 16) hx hb dX1_isLeaf_9 (by decide) (fun c_9 => ?_) (fun c_9 => ?_)
    · refine lv_iconst (v := ((0 : Int32))) hx hb dX1_isLeaf_16 (by decide) ?_
      exact kr_z (()) hx hb hr hlocks hK hP hD hS (rfl) (by first | exact lf_c c_1 c_9 | exact lf_b c_9 | exact lf_a c_1) dX1_isLeaf_17
    · refine lv_iconst (v := ((1 : Int32))) hx hb dX1_isLeaf_12 (by decide) ?_
      refine lv_goto (tgt := 17) hx hb dX1_isLeaf_13 (by decide) ?_
      exact kr_z (()) hx hb hr hlocks hK hP hD hS (rfl) (by first | exact lf_c c_1 c_9 | exact lf_b c_9 | exact lf_a c_1) dX1_isLeaf_17

set_option maxHeartbeats 4000000 in
set_option maxRecDepth 100000 in
theorem c_eightBytes (l : Launch) (D : va_G) (A : Nat → Prop) (q : Nat → Nat) (cB cI : ClassId) (tl lv lb ln : Nat) (tp : Nat → Int32) (ll : Nat → Nat) (id ms sc st : Nat → Int32) (k : Nat) (x : Int32) (h1 : k < 203) : Kl (S := Unit) l yX1_eightBytes wsX1_eightBytes { frames := 0, cells := 0, slots := 0, locals := 0 } D vwCl [(cB, .byte), (cI, .int)] A (zk q) [.ref (q 0), .int (nI k), .int x] (wk q cB cI tl lv lb ln tp ll id ms sc st) (fun r _ => r = (e8 (nd id k) (x))) (fun _ => (wk q cB cI tl lv lb ln tp ll id ms sc st)) := by
  refine Met.ofW (cc := cX1_eightBytes) (maxL := 4) (ret := (some .long)) (by decide) rfl ?_
  intro p e s m args below meth c s₁ B hml hv
  obtain ⟨rfl, hP, hK, hD, hZ⟩ := hv
  have hx := B.exec
  have hb := B.bytes
  have hr := B.returns
  have hts := atoms_spec (ws := wsX1_eightBytes) B.pre
  have hown : s.vm.findClass RX1 = some m.cls := findClass_of_methodNamed B.named
  have hlocks := B.notSynchronized
  have hS : va_S A s.heap s.heap [] := va_S.rf
  have hin_1 : ∀ w ∈ u_ws RX1 TX1 7, w ∈ wsX1_eightBytes := by decide +kernel
  have lk_17 := hts (.fieldLink RX1 17 "RootDesk" "ids" "[I") (by decide +kernel)
  have hl := lv_entry ([.ref (q 0), .int (nI k), .int x]) (n := 4) (Nat.le_of_ble_eq_true rfl)
  rw [lg_entry_eq]
  generalize (lg_sl ([.ref (q 0), .int (nI k), .int x]) ++ List.replicate (4 - (lg_sl ([.ref (q 0), .int (nI k), .int x])).length) Slot.unset).toArray = ls at hl ⊢
  have hl : lv_has ls 4 [(0, .ref (q 0)), (1, .int (nI k)), (2, .int x)] := hl
  refine lv_iload_n hx hb dX1_eightBytes_0 rfl (lv_at hl 2 rfl) ?_
  refine lv_if_lt (tgt := 9) hx hb dX1_eightBytes_1 (by decide) (fun c_1 => ?_) (fun c_1 => ?_)
  · refine lv_lconst (v := 0) hx hb dX1_eightBytes_9 (by decide) ?_
    exact kr_l (()) hx hb hr hlocks hK hP hD hS (by first | exact e8_hi c_6 | exact e8_lo c_1) dX1_eightBytes_10
  · refine lv_iload_n hx hb dX1_eightBytes_4 rfl (lv_at hl 2 rfl) ?_
    refine lv_iconst (v := ((3 : Int32))) hx hb dX1_eightBytes_5 (by decide) ?_
    refine lv_icmp_le (tgt := 11) hx hb dX1_eightBytes_6 (by decide) (fun c_6 => ?_) (fun c_6 => ?_)
    · obtain ⟨j, hj, rfl⟩ := nI_of2 (n := 3) (M := 3) (by decide) c_1 c_6
      refine lv_iload_n hx hb dX1_eightBytes_11 rfl (lv_at hl 1 rfl) ?_
      refine lv_bipush (v := (nI (8))) hx hb dX1_eightBytes_12 (by decide) ?_
      refine lv_imul hx hb dX1_eightBytes_14 ?_
      refine kp_i (pk_mul _ _) ?_
      refine lv_iconst (v := (nI (2))) hx hb dX1_eightBytes_15 (by decide) ?_
      refine lv_iload_n hx hb dX1_eightBytes_16 rfl (lv_at hl 2 rfl) ?_
      refine lv_imul hx hb dX1_eightBytes_17 ?_
      refine kp_i (pk_mul _ _) ?_
      refine lv_iadd hx hb dX1_eightBytes_18 ?_
      refine kp_i (nI_add _ _) ?_
      refine lv_istore_n (lv' := [(3, .int (nI ((k * 8) + (2 * j)))), (0, .ref (q 0)), (1, .int (nI k)), (2, .int (nI j))]) hx hb dX1_eightBytes_19 rfl hl (by decide) rfl (fun ls hl => ?_)
      refine lv_aload_n hx hb dX1_eightBytes_20 rfl (lv_at hl 1 rfl) ?_
      refine va_get (D := D) (ci := 1) (v := .ref (q 3)) (C := RX1) (T := TX1) (N := 7) hx hb hts hin_1 hown hK hP 0 rfl rfl 5 (by decide) lk_17 (fun _ h9 => h9) rfl dX1_eightBytes_21 ?_
      refine lv_iload_n hx hb dX1_eightBytes_24 rfl (lv_at hl 0 rfl) ?_
      refine kb_iald hx hb hK hP 3 1 rfl rfl ((k * 8) + (2 * j)) (rfl) (by omega) (by decide) dX1_eightBytes_25 ?_
      refine lv_i2l hx hb dX1_eightBytes_26 rfl ?_
      refine lv_bipush (v := ((32 : Int32))) hx hb dX1_eightBytes_27 (by decide) ?_
      refine lv_lshl hx hb dX1_eightBytes_29 rfl ?_
      refine lv_aload_n hx hb dX1_eightBytes_30 rfl (lv_at hl 1 rfl) ?_
      refine va_get (D := D) (ci := 1) (v := .ref (q 3)) (C := RX1) (T := TX1) (N := 7) hx hb hts hin_1 hown hK hP 0 rfl rfl 5 (by decide) lk_17 (fun _ h9 => h9) rfl dX1_eightBytes_31 ?_
      refine lv_iload_n hx hb dX1_eightBytes_34 rfl (lv_at hl 0 rfl) ?_
      refine lv_iconst (v := (nI (1))) hx hb dX1_eightBytes_35 (by decide) ?_
      refine lv_iadd hx hb dX1_eightBytes_36 ?_
      refine kp_i (nI_add _ _) ?_
      refine kb_iald hx hb hK hP 3 1 rfl rfl (((k * 8) + (2 * j)) + 1) (rfl) (by omega) (by decide) dX1_eightBytes_37 ?_
      refine lv_i2l hx hb dX1_eightBytes_38 rfl ?_
      refine lv_ldc2 (v := 4294967295) hx hb hown (hts (.constantLong RX1 105 (4294967295)) (by decide +kernel)) dX1_eightBytes_39 ?_
      refine lv_land hx hb dX1_eightBytes_42 ?_
      refine lv_lor hx hb dX1_eightBytes_43 ?_
      exact kr_l (()) hx hb hr hlocks hK hP hD hS (e8_nd hj) dX1_eightBytes_44
    · refine lv_lconst (v := 0) hx hb dX1_eightBytes_9 (by decide) ?_
      exact kr_l (()) hx hb hr hlocks hK hP hD hS (by first | exact e8_hi c_6 | exact e8_lo c_1) dX1_eightBytes_10

set_option maxHeartbeats 4000000 in
set_option maxRecDepth 100000 in
theorem c_rootLevel (l : Launch) (D : va_G) (A : Nat → Prop) (q : Nat → Nat) (cB cI : ClassId) (tl lv lb ln : Nat) (tp : Nat → Int32) (ll : Nat → Nat) (id ms sc st : Nat → Int32) (h1 : lv ≤ 100) : Ki (S := Unit) l yX1_rootLevel wsX1_rootLevel { frames := 1, cells := 0, slots := 0, locals := 20 } D vwCl [(cB, .byte), (cI, .int)] A (zk q) [.ref (q 0)] (wk q cB cI tl lv lb ln tp ll id ms sc st) (fun r _ => r = (nI (rl lv))) (fun _ => (wk q cB cI tl lv lb ln tp ll id ms sc st)) := by
  refine Met.ofW (cc := cX1_rootLevel) (maxL := 3) (ret := (some .int)) (by decide) rfl ?_
  intro p e s m args below meth c s₁ B hml hv
  obtain ⟨rfl, hP, hK, hD, hZ⟩ := hv
  have hx := B.exec
  have hb := B.bytes
  have hr := B.returns
  have hts := atoms_spec (ws := wsX1_rootLevel) B.pre
  have hown : s.vm.findClass RX1 = some m.cls := findClass_of_methodNamed B.named
  have hlocks := B.notSynchronized
  have hS : va_S A s.heap s.heap [] := va_S.rf
  have hin_1 : ∀ w ∈ u_ws RX1 TX1 7, w ∈ wsX1_rootLevel := by decide +kernel
  have lk_31 := hts (.fieldLink RX1 31 "RootDesk" "leaves" "I") (by decide +kernel)
  have hl := lv_entry ([.ref (q 0)]) (n := 3) (Nat.le_of_ble_eq_true rfl)
  rw [lg_entry_eq]
  generalize (lg_sl ([.ref (q 0)]) ++ List.replicate (3 - (lg_sl ([.ref (q 0)])).length) Slot.unset).toArray = ls at hl ⊢
  have hl : lv_has ls 3 [(0, .ref (q 0))] := hl
  refine lv_iconst (v := (nI (0))) hx hb dX1_rootLevel_0 (by decide) ?_
  refine lv_istore_n (lv' := [(1, .int (nI 0)), (0, .ref (q 0))]) hx hb dX1_rootLevel_1 rfl hl (by decide) rfl (fun ls hl => ?_)
  refine lv_aload_n hx hb dX1_rootLevel_2 rfl (lv_at hl 1 rfl) ?_
  refine va_get (D := D) (ci := 1) (v := .int (nI lv)) (C := RX1) (T := TX1) (N := 7) hx hb hts hin_1 hown hK hP 0 rfl rfl 3 (by decide) lk_31 (fun _ h9 => h9) rfl dX1_rootLevel_3 ?_
  refine lv_istore_n (lv' := [(2, .int (nI lv)), (1, .int (nI 0)), (0, .ref (q 0))]) hx hb dX1_rootLevel_6 rfl hl (by decide) rfl (fun ls hl => ?_)
  refine kp_lp (hd := 7) (nn := rl lv) (fun (i : Nat) (H : Heap) (locs : List Loc) (ls : Array Slot) => va_P D vwCl (wk q cB cI tl lv lb ln tp ll id ms sc st) H ∧ va_D A (wk q cB cI tl lv lb ln tp ll id ms sc st) ∧ va_S A s.heap H locs ∧ lv_has ls 3 [(0, .ref (q 0)), (1, .int (nI i)), (2, .int (nI (wdl lv i)))]) ?_ 0 (by omega) _ _ _ ⟨hP, hD, hS, (lv_sub hl [2, 1, 0] rfl)⟩
  intro i hiN H locs ls hI ih
  obtain ⟨hP, hD, hS, hl⟩ := hI
  have hwi := wdl_le lv i
  have hr8 := rl_lt lv
  refine lv_iload_n hx hb dX1_rootLevel_7 rfl (lv_at hl 2 rfl) ?_
  refine lv_iconst (v := (nI (1))) hx hb dX1_rootLevel_8 (by decide) ?_
  refine lv_icmp_le (tgt := 31) hx hb dX1_rootLevel_9 (by decide) (fun c_9 => ?_) (fun c_9 => ?_)
  · have c_9 : (wdl lv i) ≤ 1 := kn_le c_9 (by omega) (by omega)
    have e9 : rl lv = i := (rl_at (by omega) hiN c_9).symm
    subst e9
    refine lv_iload_n hx hb dX1_rootLevel_31 rfl (lv_at hl 1 rfl) ?_
    exact kr_i (()) hx hb hr hlocks hK hP hD hS (rfl) dX1_rootLevel_32
  · have c_9 : 1 < (wdl lv i) := kn_nle c_9 (by omega) (by omega)
    have hlt : i < rl lv := rl_nat (by omega) hiN c_9
    refine lv_iload_n hx hb dX1_rootLevel_12 rfl (lv_at hl 1 rfl) ?_
    refine lv_iconst (v := (nI (1))) hx hb dX1_rootLevel_13 (by decide) ?_
    refine lv_iadd hx hb dX1_rootLevel_14 ?_
    refine kp_i (nI_add _ _) ?_
    refine lv_bipush (v := (nI (8))) hx hb dX1_rootLevel_15 (by decide) ?_
    refine lv_icmp_ge (tgt := 31) hx hb dX1_rootLevel_17 (by decide) (fun c_17 => absurd (kn_le c_17 (by omega) (by omega)) (by omega)) (fun c_17 => ?_)
    have c_17 : (i + 1) < 8 := kn_nle c_17 (by omega) (by omega)
    refine lv_iload_n hx hb dX1_rootLevel_20 rfl (lv_at hl 2 rfl) ?_
    refine kcs_i (As := [.int (nI (wdl lv i))]) (rest := []) ⟨hx, hb, hml, hown, hts⟩ (c_widthAbove l D A q cB cI (wk q cB cI tl lv lb ln tp ll id ms sc st) (wdl lv i) (by omega)) (cwS 1 hts gX1_rootLevel_X1_widthAbove rfl rfl rfl (by decide +kernel) ⟨Nat.le_of_ble_eq_true rfl, Nat.le_of_ble_eq_true rfl⟩) hK hP hD hS hZ rfl hl.1 rfl (Nat.le_of_ble_eq_true rfl) ⟨Nat.zero_le _, Nat.zero_le _⟩ dX1_rootLevel_21 (fun r_1 _ H locs hw hP hD hS => ?_)
    have hw : r_1 = (nI (((wdl lv i) + 1) / 2)) := hw
    subst hw
    have hP : va_P D vwCl (wk q cB cI tl lv lb ln tp ll id ms sc st) H := hP
    have hD : va_D A (wk q cB cI tl lv lb ln tp ll id ms sc st) := hD
    refine lv_istore_n (lv' := [(2, .int (nI (((wdl lv i) + 1) / 2))), (0, .ref (q 0)), (1, .int (nI i))]) hx hb dX1_rootLevel_24 rfl hl (by decide) rfl (fun ls hl => ?_)
    refine lv_iinc (v := (nI (i + 1))) (lv' := [(1, .int (nI (i + 1))), (2, .int (nI (((wdl lv i) + 1) / 2))), (0, .ref (q 0))]) hx hb dX1_rootLevel_25 hl (k := 2) rfl (kn_inc _ _ 1 rfl) (by decide) rfl (fun ls hl => ?_)
    refine lv_goto (tgt := 7) hx hb dX1_rootLevel_28 (by decide) ?_
    exact ih hlt _ _ _ ⟨hP, hD, hS, (lv_sub hl [2, 0, 1] rfl)⟩

set_option maxHeartbeats 4000000 in
set_option maxRecDepth 100000 in
theorem c_copyId (l : Launch) (D : va_G) (A : Nat → Prop) (q : Nat → Nat) (cB cI : ClassId) (tl lv lb ln : Nat) (tp : Nat → Int32) (ll : Nat → Nat) (id ms sc st : Nat → Int32) (f : Nat) (t : Nat) (h1 : f < 203) (h2 : t < 203) (h3 : f ≠ t) : Kv (S := Unit) l yX1_copyId wsX1_copyId { frames := 0, cells := 0, slots := 0, locals := 0 } D vwCl [(cB, .byte), (cI, .int)] A (zk q) [.ref (q 0), .int (nI f), .int (nI t)] (wk q cB cI tl lv lb ln tp ll id ms sc st) (fun _ => True) (fun _ => (wk q cB cI tl lv lb ln tp ll (pn id t (nd id f)) ms sc st)) := by
  refine Met.ofW (cc := cX1_copyId) (maxL := 4) (ret := none) (by decide) rfl ?_
  intro p e s m args below meth c s₁ B hml hv
  obtain ⟨rfl, hP, hK, hD, hZ⟩ := hv
  have hx := B.exec
  have hb := B.bytes
  have hr := B.returns
  have hts := atoms_spec (ws := wsX1_copyId) B.pre
  have hown : s.vm.findClass RX1 = some m.cls := findClass_of_methodNamed B.named
  have hlocks := B.notSynchronized
  have hS : va_S A s.heap s.heap [] := va_S.rf
  have hin_1 : ∀ w ∈ u_ws RX1 TX1 7, w ∈ wsX1_copyId := by decide +kernel
  have lk_17 := hts (.fieldLink RX1 17 "RootDesk" "ids" "[I") (by decide +kernel)
  have hl := lv_entry ([.ref (q 0), .int (nI f), .int (nI t)]) (n := 4) (Nat.le_of_ble_eq_true rfl)
  rw [lg_entry_eq]
  generalize (lg_sl ([.ref (q 0), .int (nI f), .int (nI t)]) ++ List.replicate (4 - (lg_sl ([.ref (q 0), .int (nI f), .int (nI t)])).length) Slot.unset).toArray = ls at hl ⊢
  have hl : lv_has ls 4 [(0, .ref (q 0)), (1, .int (nI f)), (2, .int (nI t))] := hl
  rw [← cat_0 id (t * 8) (nd id f)] at hP hD
  refine lv_iconst (v := (nI (0))) hx hb dX1_copyId_0 (by decide) ?_
  refine lv_istore_n (lv' := [(3, .int (nI 0)), (0, .ref (q 0)), (1, .int (nI f)), (2, .int (nI t))]) hx hb dX1_copyId_1 rfl hl (by decide) rfl (fun ls hl => ?_)
  refine kp_lp (hd := 2) (nn := 8) (fun (i : Nat) (H : Heap) (locs : List Loc) (ls : Array Slot) => va_P D vwCl (wk q cB cI tl lv lb ln tp ll (cat id (t * 8) (nd id f) i) ms sc st) H ∧ va_D A (wk q cB cI tl lv lb ln tp ll (cat id (t * 8) (nd id f) i) ms sc st) ∧ va_S A s.heap H locs ∧ lv_has ls 4 [(0, .ref (q 0)), (1, .int (nI f)), (2, .int (nI t)), (3, .int (nI i))]) ?_ 0 (by omega) _ _ _ ⟨hP, hD, hS, (lv_sub hl [1, 2, 3, 0] rfl)⟩
  intro i hiN H locs ls hI ih
  obtain ⟨hP, hD, hS, hl⟩ := hI
  refine lv_iload_n hx hb dX1_copyId_2 rfl (lv_at hl 3 rfl) ?_
  refine lv_bipush (v := (nI (8))) hx hb dX1_copyId_3 (by decide) ?_
  refine lv_icmp_ge (tgt := 36) hx hb dX1_copyId_5 (by decide) (fun c_5 => ?_) (fun c_5 => ?_)
  · have c_5 : 8 ≤ i := kn_le c_5 (by omega) (by omega)
    have e9 : 8 = i := by omega
    subst e9
    exact kr_v (()) hx hb hr hlocks hK hP hD hS (trivial) dX1_copyId_36
  · have c_5 : i < 8 := kn_nle c_5 (by omega) (by omega)
    have hlt : i < 8 := c_5
    refine lv_aload_n hx hb dX1_copyId_8 rfl (lv_at hl 0 rfl) ?_
    refine va_get (D := D) (ci := 1) (v := .ref (q 3)) (C := RX1) (T := TX1) (N := 7) hx hb hts hin_1 hown hK hP 0 rfl rfl 5 (by decide) lk_17 (fun _ h9 => h9) rfl dX1_copyId_9 ?_
    refine lv_iload_n hx hb dX1_copyId_12 rfl (lv_at hl 2 rfl) ?_
    refine lv_bipush (v := (nI (8))) hx hb dX1_copyId_13 (by decide) ?_
    refine lv_imul hx hb dX1_copyId_15 ?_
    refine kp_i (pk_mul _ _) ?_
    refine lv_iload_n hx hb dX1_copyId_16 rfl (lv_at hl 3 rfl) ?_
    refine lv_iadd hx hb dX1_copyId_17 ?_
    refine kp_i (nI_add _ _) ?_
    refine lv_aload_n hx hb dX1_copyId_18 rfl (lv_at hl 0 rfl) ?_
    refine va_get (D := D) (ci := 1) (v := .ref (q 3)) (C := RX1) (T := TX1) (N := 7) hx hb hts hin_1 hown hK hP 0 rfl rfl 5 (by decide) lk_17 (fun _ h9 => h9) rfl dX1_copyId_19 ?_
    refine lv_iload_n hx hb dX1_copyId_22 rfl (lv_at hl 1 rfl) ?_
    refine lv_bipush (v := (nI (8))) hx hb dX1_copyId_23 (by decide) ?_
    refine lv_imul hx hb dX1_copyId_25 ?_
    refine kp_i (pk_mul _ _) ?_
    refine lv_iload_n hx hb dX1_copyId_26 rfl (lv_at hl 3 rfl) ?_
    refine lv_iadd hx hb dX1_copyId_27 ?_
    refine kp_i (nI_add _ _) ?_
    refine kb_iald hx hb hK hP 3 1 rfl rfl ((f * 8) + i) (rfl) (by omega) (by decide) dX1_copyId_28 ?_
    refine kb_iast hx hb hK hP hD hS 3 1 rfl rfl ((t * 8) + i) (rfl) (by omega) (by decide) dX1_copyId_29 (fun H locs hP hD hS => ?_)
    have hP : va_P D vwCl (wk q cB cI tl lv lb ln tp ll (upd (cat id (t * 8) (nd id f) i) ((t * 8) + i) (((cat id (t * 8) (nd id f) i) ((f * 8) + i)))) ms sc st) H := hP
    have hD : va_D A (wk q cB cI tl lv lb ln tp ll (upd (cat id (t * 8) (nd id f) i) ((t * 8) + i) (((cat id (t * 8) (nd id f) i) ((f * 8) + i)))) ms sc st) := hD
    rw [cat_s _ _ _ _ (cp_at h3 hlt)] at hP hD
    have hP : va_P D vwCl (wk q cB cI tl lv lb ln tp ll (cat id (t * 8) (nd id f) (i + 1)) ms sc st) H := hP
    have hD : va_D A (wk q cB cI tl lv lb ln tp ll (cat id (t * 8) (nd id f) (i + 1)) ms sc st) := hD
    refine lv_iinc (v := (nI (i + 1))) (lv' := [(3, .int (nI (i + 1))), (0, .ref (q 0)), (1, .int (nI f)), (2, .int (nI t))]) hx hb dX1_copyId_30 hl (k := 3) rfl (kn_inc _ _ 1 rfl) (by decide) rfl (fun ls hl => ?_)
    refine lv_goto (tgt := 2) hx hb dX1_copyId_33 (by decide) ?_
    exact ih hlt _ _ _ ⟨hP, hD, hS, (lv_sub hl [1, 2, 3, 0] rfl)⟩

set_option maxHeartbeats 4000000 in
set_option maxRecDepth 100000 in
theorem c_sameIds (l : Launch) (D : va_G) (A : Nat → Prop) (q : Nat → Nat) (cB cI : ClassId) (tl lv lb ln : Nat) (tp : Nat → Int32) (ll : Nat → Nat) (id ms sc st : Nat → Int32) (f : Nat) (t : Nat) (h1 : f < 203) (h2 : t < 203) : Ki (S := Unit) l yX1_sameIds wsX1_sameIds { frames := 0, cells := 0, slots := 0, locals := 0 } D vwCl [(cB, .byte), (cI, .int)] A (zk q) [.ref (q 0), .int (nI f), .int (nI t)] (wk q cB cI tl lv lb ln tp ll id ms sc st) (fun r _ => r = (bz (sm (nd id f) (nd id t) 8))) (fun _ => (wk q cB cI tl lv lb ln tp ll id ms sc st)) := by
  refine Met.ofW (cc := cX1_sameIds) (maxL := 4) (ret := (some .boolean)) (by decide) rfl ?_
  intro p e s m args below meth c s₁ B hml hv
  obtain ⟨rfl, hP, hK, hD, hZ⟩ := hv
  have hx := B.exec
  have hb := B.bytes
  have hr := B.returns
  have hts := atoms_spec (ws := wsX1_sameIds) B.pre
  have hown : s.vm.findClass RX1 = some m.cls := findClass_of_methodNamed B.named
  have hlocks := B.notSynchronized
  have hS : va_S A s.heap s.heap [] := va_S.rf
  have hin_1 : ∀ w ∈ u_ws RX1 TX1 7, w ∈ wsX1_sameIds := by decide +kernel
  have lk_17 := hts (.fieldLink RX1 17 "RootDesk" "ids" "[I") (by decide +kernel)
  have hl := lv_entry ([.ref (q 0), .int (nI f), .int (nI t)]) (n := 4) (Nat.le_of_ble_eq_true rfl)
  rw [lg_entry_eq]
  generalize (lg_sl ([.ref (q 0), .int (nI f), .int (nI t)]) ++ List.replicate (4 - (lg_sl ([.ref (q 0), .int (nI f), .int (nI t)])).length) Slot.unset).toArray = ls at hl ⊢
  have hl : lv_has ls 4 [(0, .ref (q 0)), (1, .int (nI f)), (2, .int (nI t))] := hl
  refine lv_iconst (v := (nI (0))) hx hb dX1_sameIds_0 (by decide) ?_
  refine lv_istore_n (lv' := [(3, .int (nI 0)), (0, .ref (q 0)), (1, .int (nI f)), (2, .int (nI t))]) hx hb dX1_sameIds_1 rfl hl (by decide) rfl (fun ls hl => ?_)
  refine kp_lp (hd := 2) (nn := 8) (fun (i : Nat) (H : Heap) (locs : List Loc) (ls : Array Slot) => (sm (nd id f) (nd id t) i = true) ∧ va_P D vwCl (wk q cB cI tl lv lb ln tp ll id ms sc st) H ∧ va_D A (wk q cB cI tl lv lb ln tp ll id ms sc st) ∧ va_S A s.heap H locs ∧ lv_has ls 4 [(0, .ref (q 0)), (1, .int (nI f)), (2, .int (nI t)), (3, .int (nI i))]) ?_ 0 (by omega) _ _ _ ⟨rfl, hP, hD, hS, (lv_sub hl [1, 2, 3, 0] rfl)⟩
  intro i hiN H locs ls hI ih
  obtain ⟨hI_0, hP, hD, hS, hl⟩ := hI
  refine lv_iload_n hx hb dX1_sameIds_2 rfl (lv_at hl 3 rfl) ?_
  refine lv_bipush (v := (nI (8))) hx hb dX1_sameIds_3 (by decide) ?_
  refine lv_icmp_ge (tgt := 41) hx hb dX1_sameIds_5 (by decide) (fun c_5 => ?_) (fun c_5 => ?_)
  · have c_5 : 8 ≤ i := kn_le c_5 (by omega) (by omega)
    have e9 : 8 = i := by omega
    subst e9
    refine lv_iconst (v := ((1 : Int32))) hx hb dX1_sameIds_41 (by decide) ?_
    exact kr_z (()) hx hb hr hlocks hK hP hD hS (rfl) (by rw [hI_0]; rfl) dX1_sameIds_42
  · have c_5 : i < 8 := kn_nle c_5 (by omega) (by omega)
    have hlt : i < 8 := c_5
    refine lv_aload_n hx hb dX1_sameIds_8 rfl (lv_at hl 0 rfl) ?_
    refine va_get (D := D) (ci := 1) (v := .ref (q 3)) (C := RX1) (T := TX1) (N := 7) hx hb hts hin_1 hown hK hP 0 rfl rfl 5 (by decide) lk_17 (fun _ h9 => h9) rfl dX1_sameIds_9 ?_
    refine lv_iload_n hx hb dX1_sameIds_12 rfl (lv_at hl 1 rfl) ?_
    refine lv_bipush (v := (nI (8))) hx hb dX1_sameIds_13 (by decide) ?_
    refine lv_imul hx hb dX1_sameIds_15 ?_
    refine kp_i (pk_mul _ _) ?_
    refine lv_iload_n hx hb dX1_sameIds_16 rfl (lv_at hl 3 rfl) ?_
    refine lv_iadd hx hb dX1_sameIds_17 ?_
    refine kp_i (nI_add _ _) ?_
    refine kb_iald hx hb hK hP 3 1 rfl rfl ((f * 8) + i) (rfl) (by omega) (by decide) dX1_sameIds_18 ?_
    refine lv_aload_n hx hb dX1_sameIds_19 rfl (lv_at hl 0 rfl) ?_
    refine va_get (D := D) (ci := 1) (v := .ref (q 3)) (C := RX1) (T := TX1) (N := 7) hx hb hts hin_1 hown hK hP 0 rfl rfl 5 (by decide) lk_17 (fun _ h9 => h9) rfl dX1_sameIds_20 ?_
    refine lv_iload_n hx hb dX1_sameIds_23 rfl (lv_at hl 2 rfl) ?_
    refine lv_bipush (v := (nI (8))) hx hb dX1_sameIds_24 (by decide) ?_
    refine lv_imul hx hb dX1_sameIds_26 ?_
    refine kp_i (pk_mul _ _) ?_
    refine lv_iload_n hx hb dX1_sameIds_27 rfl (lv_at hl 3 rfl) ?_
    refine lv_iadd hx hb dX1_sameIds_28 ?_
    refine kp_i (nI_add _ _) ?_
    refine kb_iald hx hb hK hP 3 1 rfl rfl ((t * 8) + i) (rfl) (by omega) (by decide) dX1_sameIds_29 ?_
    refine lv_icmp_eq (tgt := 35) hx hb dX1_sameIds_30 (by decide) (fun c_30 => ?_) (fun c_30 => ?_)
    · refine lv_iinc (v := (nI (i + 1))) (lv' := [(3, .int (nI (i + 1))), (0, .ref (q 0)), (1, .int (nI f)), (2, .int (nI t))]) hx hb dX1_sameIds_35 hl (k := 3) rfl (kn_inc _ _ 1 rfl) (by decide) rfl (fun ls hl => ?_)
      refine lv_goto (tgt := 2) hx hb dX1_sameIds_38 (by decide) ?_
      exact ih hlt _ _ _ ⟨sm_s hI_0 c_30, hP, hD, hS, (lv_sub hl [1, 2, 3, 0] rfl)⟩
    · refine lv_iconst (v := ((0 : Int32))) hx hb dX1_sameIds_33 (by decide) ?_
      exact kr_z (()) hx hb hr hlocks hK hP hD hS (rfl) (sm_no hlt c_30) dX1_sameIds_34

set_option maxHeartbeats 4000000 in
set_option maxRecDepth 100000 in
theorem c_makeLeafId (l : Launch) (D : va_G) (A : Nat → Prop) (q : Nat → Nat) (cB cI : ClassId) (tl lv lb ln : Nat) (tp : Nat → Int32) (ll : Nat → Nat) (id ms sc st : Nat → Int32) (k : Nat) (h1 : k < 203) (h2 : tl ≤ 150) : Kv (S := (Nat × (Nat → Int32) × (Nat → Int32) × (Nat → Int32))) l yX1_makeLeafId wsX1_makeLeafId { frames := 3, cells := 0, slots := 0, locals := 78 } D vwCl [(cB, .byte), (cI, .int)] A (zk q) [.ref (q 0), .int (nI k)] (wk q cB cI tl lv lb ln tp ll id ms sc st) (fun _ => True) (fun u => (wk q cB cI tl lv lb u.1 tp ll (pn id k (lfh tp tl)) u.2.1 u.2.2.1 u.2.2.2)) := by
  refine Met.ofW (cc := cX1_makeLeafId) (maxL := 2) (ret := none) (by decide) rfl ?_
  intro p e s m args below meth c s₁ B hml hv
  obtain ⟨rfl, hP, hK, hD, hZ⟩ := hv
  have hx := B.exec
  have hb := B.bytes
  have hr := B.returns
  have hts := atoms_spec (ws := wsX1_makeLeafId) B.pre
  have hown : s.vm.findClass RX1 = some m.cls := findClass_of_methodNamed B.named
  have hlocks := B.notSynchronized
  have hS : va_S A s.heap s.heap [] := va_S.rf
  have hin_1 : ∀ w ∈ u_ws RX1 TX1 7, w ∈ wsX1_makeLeafId := by decide +kernel
  have lk_9 := hts (.fieldLink RX1 9 "RootDesk" "tape" "[B") (by decide +kernel)
  have lk_17 := hts (.fieldLink RX1 17 "RootDesk" "ids" "[I") (by decide +kernel)
  have lk_23 := hts (.fieldLink RX1 23 "RootDesk" "digest" "LRootDesk$Digest;") (by decide +kernel)
  have lk_27 := hts (.fieldLink RX1 27 "RootDesk" "tapeLength" "I") (by decide +kernel)
  have hl := lv_entry ([.ref (q 0), .int (nI k)]) (n := 2) (Nat.le_of_ble_eq_true rfl)
  rw [lg_entry_eq]
  generalize (lg_sl ([.ref (q 0), .int (nI k)]) ++ List.replicate (2 - (lg_sl ([.ref (q 0), .int (nI k)])).length) Slot.unset).toArray = ls at hl ⊢
  have hl : lv_has ls 2 [(0, .ref (q 0)), (1, .int (nI k))] := hl
  refine lv_aload_n hx hb dX1_makeLeafId_0 rfl (lv_at hl 0 rfl) ?_
  refine va_get (D := D) (ci := 1) (v := .ref (q 4)) (C := RX1) (T := TX1) (N := 7) hx hb hts hin_1 hown hK hP 0 rfl rfl 6 (by decide) lk_23 (fun _ h9 => h9) rfl dX1_makeLeafId_1 ?_
  refine kc_v (As := []) (rest := []) ⟨hx, hb, hml, hown, hts⟩ (c_D_begin l D A q cB cI tl lv lb ln tp ll id ms sc st) (cwV 0 hts gX1_makeLeafId_X0_begin rfl rfl rfl (by decide +kernel) ⟨Nat.le_of_ble_eq_true rfl, Nat.le_of_ble_eq_true rfl⟩) (va_recv hK hP (ci := 0) (q0 := 4) rfl rfl) hK hP hD hS hZ rfl hl.1 rfl (Nat.le_of_ble_eq_true rfl) ⟨Nat.zero_le _, Nat.zero_le _⟩ dX1_makeLeafId_4 (fun _ H locs _ hP hD hS => ?_)
  have hP : va_P D vwCl (wk q cB cI tl lv lb 0 tp ll id ms sc st) H := hP
  have hD : va_D A (wk q cB cI tl lv lb 0 tp ll id ms sc st) := hD
  refine lv_aload_n hx hb dX1_makeLeafId_7 rfl (lv_at hl 0 rfl) ?_
  refine va_get (D := D) (ci := 1) (v := .ref (q 4)) (C := RX1) (T := TX1) (N := 7) hx hb hts hin_1 hown hK hP 0 rfl rfl 6 (by decide) lk_23 (fun _ h9 => h9) rfl dX1_makeLeafId_8 ?_
  refine lv_iconst (v := ((0 : Int32))) hx hb dX1_makeLeafId_11 (by decide) ?_
  refine kc_v (As := [.int ((0 : Int32))]) (rest := []) ⟨hx, hb, hml, hown, hts⟩ (c_D_takeByte l D A q cB cI tl lv lb 0 tp ll id ms sc st (((0 : Int32))) (by omega)) (cwV 1 hts gX1_makeLeafId_X0_takeByte rfl rfl rfl (by decide +kernel) ⟨Nat.le_of_ble_eq_true rfl, Nat.le_of_ble_eq_true rfl⟩) (va_recv hK hP (ci := 0) (q0 := 4) rfl rfl) hK hP hD hS hZ rfl hl.1 rfl (Nat.le_of_ble_eq_true rfl) ⟨Nat.zero_le _, Nat.zero_le _⟩ dX1_makeLeafId_12 (fun _ H locs _ hP hD hS => ?_)
  have hP : va_P D vwCl (wk q cB cI tl lv lb (0 + 1) tp ll id (upd ms 0 ((((0 : Int32))).toInt8.toInt32)) sc st) H := hP
  have hD : va_D A (wk q cB cI tl lv lb (0 + 1) tp ll id (upd ms 0 ((((0 : Int32))).toInt8.toInt32)) sc st) := hD
  refine lv_aload_n hx hb dX1_makeLeafId_15 rfl (lv_at hl 0 rfl) ?_
  refine va_get (D := D) (ci := 1) (v := .ref (q 4)) (C := RX1) (T := TX1) (N := 7) hx hb hts hin_1 hown hK hP 0 rfl rfl 6 (by decide) lk_23 (fun _ h9 => h9) rfl dX1_makeLeafId_16 ?_
  refine lv_aload_n hx hb dX1_makeLeafId_19 rfl (lv_at hl 0 rfl) ?_
  refine va_get (D := D) (ci := 1) (v := .ref (q 1)) (C := RX1) (T := TX1) (N := 7) hx hb hts hin_1 hown hK hP 0 rfl rfl 0 (by decide) lk_9 (fun _ h9 => h9) rfl dX1_makeLeafId_20 ?_
  refine lv_aload_n hx hb dX1_makeLeafId_23 rfl (lv_at hl 0 rfl) ?_
  refine va_get (D := D) (ci := 1) (v := .int (nI tl)) (C := RX1) (T := TX1) (N := 7) hx hb hts hin_1 hown hK hP 0 rfl rfl 1 (by decide) lk_27 (fun _ h9 => h9) rfl dX1_makeLeafId_24 ?_
  refine kc_v (As := [.ref (q 1), .int (nI tl)]) (rest := []) ⟨hx, hb, hml, hown, hts⟩ (c_D_takeBytes l D A q cB cI tl lv lb (0 + 1) tp ll id (upd ms 0 ((((0 : Int32))).toInt8.toInt32)) sc st tl (by omega) (by omega)) (cwV 2 hts gX1_makeLeafId_X0_takeBytes rfl rfl rfl (by decide +kernel) ⟨Nat.le_of_ble_eq_true rfl, Nat.le_of_ble_eq_true rfl⟩) (va_recv hK hP (ci := 0) (q0 := 4) rfl rfl) hK hP hD hS hZ rfl hl.1 rfl (Nat.le_of_ble_eq_true rfl) ⟨Nat.zero_le _, Nat.zero_le _⟩ dX1_makeLeafId_27 (fun _ H locs _ hP hD hS => ?_)
  have hP : va_P D vwCl (wk q cB cI tl lv lb ((0 + 1) + tl) tp ll id (cat (upd ms 0 ((((0 : Int32))).toInt8.toInt32)) (0 + 1) (fun j => (tp j).toInt8.toInt32) tl) sc st) H := hP
  have hD : va_D A (wk q cB cI tl lv lb ((0 + 1) + tl) tp ll id (cat (upd ms 0 ((((0 : Int32))).toInt8.toInt32)) (0 + 1) (fun j => (tp j).toInt8.toInt32) tl) sc st) := hD
  refine lv_aload_n hx hb dX1_makeLeafId_30 rfl (lv_at hl 0 rfl) ?_
  refine va_get (D := D) (ci := 1) (v := .ref (q 4)) (C := RX1) (T := TX1) (N := 7) hx hb hts hin_1 hown hK hP 0 rfl rfl 6 (by decide) lk_23 (fun _ h9 => h9) rfl dX1_makeLeafId_31 ?_
  refine lv_aload_n hx hb dX1_makeLeafId_34 rfl (lv_at hl 0 rfl) ?_
  refine va_get (D := D) (ci := 1) (v := .ref (q 3)) (C := RX1) (T := TX1) (N := 7) hx hb hts hin_1 hown hK hP 0 rfl rfl 5 (by decide) lk_17 (fun _ h9 => h9) rfl dX1_makeLeafId_35 ?_
  refine lv_iload_n hx hb dX1_makeLeafId_38 rfl (lv_at hl 1 rfl) ?_
  refine lv_bipush (v := (nI (8))) hx hb dX1_makeLeafId_39 (by decide) ?_
  refine lv_imul hx hb dX1_makeLeafId_41 ?_
  refine kp_i (pk_mul _ _) ?_
  refine kc_v (As := [.ref (q 3), .int (nI (k * 8))]) (rest := []) ⟨hx, hb, hml, hown, hts⟩ (c_D_finishInto l D A q cB cI tl lv lb ((0 + 1) + tl) tp ll id (cat (upd ms 0 ((((0 : Int32))).toInt8.toInt32)) (0 + 1) (fun j => (tp j).toInt8.toInt32) tl) sc st (k * 8) (by omega) (pl_fit (by omega))) (cwV 2 hts gX1_makeLeafId_X0_finishInto rfl rfl rfl (by decide +kernel) ⟨Nat.le_of_ble_eq_true rfl, Nat.le_of_ble_eq_true rfl⟩) (va_recv hK hP (ci := 0) (q0 := 4) rfl rfl) hK hP hD hS hZ rfl hl.1 rfl (Nat.le_of_ble_eq_true rfl) ⟨Nat.zero_le _, Nat.zero_le _⟩ dX1_makeLeafId_42 (fun u_4 H locs _ hP hD hS => ?_)
  have hP : va_P D vwCl (wk q cB cI tl lv lb u_4.1 tp ll (cat id (k * 8) (hm (cat (upd ms 0 ((((0 : Int32))).toInt8.toInt32)) (0 + 1) (fun j => (tp j).toInt8.toInt32) tl) ((0 + 1) + tl)) 8) u_4.2.1 u_4.2.2.1 u_4.2.2.2) H := hP
  have hD : va_D A (wk q cB cI tl lv lb u_4.1 tp ll (cat id (k * 8) (hm (cat (upd ms 0 ((((0 : Int32))).toInt8.toInt32)) (0 + 1) (fun j => (tp j).toInt8.toInt32) tl) ((0 + 1) + tl)) 8) u_4.2.1 u_4.2.2.1 u_4.2.2.2) := hD
  rw [leaf_eq] at hP hD
  have hP : va_P D vwCl (wk q cB cI tl lv lb u_4.1 tp ll (pn id k (lfh tp tl)) u_4.2.1 u_4.2.2.1 u_4.2.2.2) H := hP
  have hD : va_D A (wk q cB cI tl lv lb u_4.1 tp ll (pn id k (lfh tp tl)) u_4.2.1 u_4.2.2.1 u_4.2.2.2) := hD
  exact kr_v (u_4) hx hb hr hlocks hK hP hD hS (trivial) dX1_makeLeafId_45

set_option maxHeartbeats 4000000 in
set_option maxRecDepth 100000 in
theorem c_join (l : Launch) (D : va_G) (A : Nat → Prop) (q : Nat → Nat) (cB cI : ClassId) (tl lv lb ln : Nat) (tp : Nat → Int32) (ll : Nat → Nat) (id ms sc st : Nat → Int32) (a : Nat) (b : Nat) (k : Nat) (h1 : a < 203) (h2 : b < 203) (h3 : k < 203) : Kv (S := (Nat × (Nat → Int32) × (Nat → Int32) × (Nat → Int32))) l yX1_join wsX1_join { frames := 3, cells := 0, slots := 0, locals := 78 } D vwCl [(cB, .byte), (cI, .int)] A (zk q) [.ref (q 0), .int (nI a), .int (nI b), .int (nI k)] (wk q cB cI tl lv lb ln tp ll id ms sc st) (fun _ => True) (fun u => (wk q cB cI tl lv lb u.1 tp ll (pn id k (ndh (nd id a) (nd id b))) u.2.1 u.2.2.1 u.2.2.2)) := by
  refine Met.ofW (cc := cX1_join) (maxL := 4) (ret := none) (by decide) rfl ?_
  intro p e s m args below meth c s₁ B hml hv
  obtain ⟨rfl, hP, hK, hD, hZ⟩ := hv
  have hx := B.exec
  have hb := B.bytes
  have hr := B.returns
  have hts := atoms_spec (ws := wsX1_join) B.pre
  have hown : s.vm.findClass RX1 = some m.cls := findClass_of_methodNamed B.named
  have hlocks := B.notSynchronized
  have hS : va_S A s.heap s.heap [] := va_S.rf
  have hin_1 : ∀ w ∈ u_ws RX1 TX1 7, w ∈ wsX1_join := by decide +kernel
  have lk_17 := hts (.fieldLink RX1 17 "RootDesk" "ids" "[I") (by decide +kernel)
  have lk_23 := hts (.fieldLink RX1 23 "RootDesk" "digest" "LRootDesk$Digest;") (by decide +kernel)
  have hl := lv_entry ([.ref (q 0), .int (nI a), .int (nI b), .int (nI k)]) (n := 4) (Nat.le_of_ble_eq_true rfl)
  rw [lg_entry_eq]
  generalize (lg_sl ([.ref (q 0), .int (nI a), .int (nI b), .int (nI k)]) ++ List.replicate (4 - (lg_sl ([.ref (q 0), .int (nI a), .int (nI b), .int (nI k)])).length) Slot.unset).toArray = ls at hl ⊢
  have hl : lv_has ls 4 [(0, .ref (q 0)), (1, .int (nI a)), (2, .int (nI b)), (3, .int (nI k))] := hl
  refine lv_aload_n hx hb dX1_join_0 rfl (lv_at hl 0 rfl) ?_
  refine va_get (D := D) (ci := 1) (v := .ref (q 4)) (C := RX1) (T := TX1) (N := 7) hx hb hts hin_1 hown hK hP 0 rfl rfl 6 (by decide) lk_23 (fun _ h9 => h9) rfl dX1_join_1 ?_
  refine kc_v (As := []) (rest := []) ⟨hx, hb, hml, hown, hts⟩ (c_D_begin l D A q cB cI tl lv lb ln tp ll id ms sc st) (cwV 0 hts gX1_join_X0_begin rfl rfl rfl (by decide +kernel) ⟨Nat.le_of_ble_eq_true rfl, Nat.le_of_ble_eq_true rfl⟩) (va_recv hK hP (ci := 0) (q0 := 4) rfl rfl) hK hP hD hS hZ rfl hl.1 rfl (Nat.le_of_ble_eq_true rfl) ⟨Nat.zero_le _, Nat.zero_le _⟩ dX1_join_4 (fun _ H locs _ hP hD hS => ?_)
  have hP : va_P D vwCl (wk q cB cI tl lv lb 0 tp ll id ms sc st) H := hP
  have hD : va_D A (wk q cB cI tl lv lb 0 tp ll id ms sc st) := hD
  refine lv_aload_n hx hb dX1_join_7 rfl (lv_at hl 0 rfl) ?_
  refine va_get (D := D) (ci := 1) (v := .ref (q 4)) (C := RX1) (T := TX1) (N := 7) hx hb hts hin_1 hown hK hP 0 rfl rfl 6 (by decide) lk_23 (fun _ h9 => h9) rfl dX1_join_8 ?_
  refine lv_iconst (v := ((1 : Int32))) hx hb dX1_join_11 (by decide) ?_
  refine kc_v (As := [.int ((1 : Int32))]) (rest := []) ⟨hx, hb, hml, hown, hts⟩ (c_D_takeByte l D A q cB cI tl lv lb 0 tp ll id ms sc st (((1 : Int32))) (by omega)) (cwV 1 hts gX1_join_X0_takeByte rfl rfl rfl (by decide +kernel) ⟨Nat.le_of_ble_eq_true rfl, Nat.le_of_ble_eq_true rfl⟩) (va_recv hK hP (ci := 0) (q0 := 4) rfl rfl) hK hP hD hS hZ rfl hl.1 rfl (Nat.le_of_ble_eq_true rfl) ⟨Nat.zero_le _, Nat.zero_le _⟩ dX1_join_12 (fun _ H locs _ hP hD hS => ?_)
  have hP : va_P D vwCl (wk q cB cI tl lv lb (0 + 1) tp ll id (upd ms 0 ((((1 : Int32))).toInt8.toInt32)) sc st) H := hP
  have hD : va_D A (wk q cB cI tl lv lb (0 + 1) tp ll id (upd ms 0 ((((1 : Int32))).toInt8.toInt32)) sc st) := hD
  refine lv_aload_n hx hb dX1_join_15 rfl (lv_at hl 0 rfl) ?_
  refine va_get (D := D) (ci := 1) (v := .ref (q 4)) (C := RX1) (T := TX1) (N := 7) hx hb hts hin_1 hown hK hP 0 rfl rfl 6 (by decide) lk_23 (fun _ h9 => h9) rfl dX1_join_16 ?_
  refine lv_aload_n hx hb dX1_join_19 rfl (lv_at hl 0 rfl) ?_
  refine va_get (D := D) (ci := 1) (v := .ref (q 3)) (C := RX1) (T := TX1) (N := 7) hx hb hts hin_1 hown hK hP 0 rfl rfl 5 (by decide) lk_17 (fun _ h9 => h9) rfl dX1_join_20 ?_
  refine lv_iload_n hx hb dX1_join_23 rfl (lv_at hl 1 rfl) ?_
  refine lv_bipush (v := (nI (8))) hx hb dX1_join_24 (by decide) ?_
  refine lv_imul hx hb dX1_join_26 ?_
  refine kp_i (pk_mul _ _) ?_
  refine kc_v (As := [.ref (q 3), .int (nI (a * 8))]) (rest := []) ⟨hx, hb, hml, hown, hts⟩ (c_D_takeId l D A q cB cI tl lv lb (0 + 1) tp ll id (upd ms 0 ((((1 : Int32))).toInt8.toInt32)) sc st (a * 8) (by omega) (by omega)) (cwV 2 hts gX1_join_X0_takeId rfl rfl rfl (by decide +kernel) ⟨Nat.le_of_ble_eq_true rfl, Nat.le_of_ble_eq_true rfl⟩) (va_recv hK hP (ci := 0) (q0 := 4) rfl rfl) hK hP hD hS hZ rfl hl.1 rfl (Nat.le_of_ble_eq_true rfl) ⟨Nat.zero_le _, Nat.zero_le _⟩ dX1_join_27 (fun _ H locs _ hP hD hS => ?_)
  have hP : va_P D vwCl (wk q cB cI tl lv lb ((0 + 1) + 32) tp ll id (cat (upd ms 0 ((((1 : Int32))).toInt8.toInt32)) (0 + 1) (fun j => wb (id ((a * 8) + j / 4)) (j % 4)) 32) sc st) H := hP
  have hD : va_D A (wk q cB cI tl lv lb ((0 + 1) + 32) tp ll id (cat (upd ms 0 ((((1 : Int32))).toInt8.toInt32)) (0 + 1) (fun j => wb (id ((a * 8) + j / 4)) (j % 4)) 32) sc st) := hD
  refine lv_aload_n hx hb dX1_join_30 rfl (lv_at hl 0 rfl) ?_
  refine va_get (D := D) (ci := 1) (v := .ref (q 4)) (C := RX1) (T := TX1) (N := 7) hx hb hts hin_1 hown hK hP 0 rfl rfl 6 (by decide) lk_23 (fun _ h9 => h9) rfl dX1_join_31 ?_
  refine lv_aload_n hx hb dX1_join_34 rfl (lv_at hl 0 rfl) ?_
  refine va_get (D := D) (ci := 1) (v := .ref (q 3)) (C := RX1) (T := TX1) (N := 7) hx hb hts hin_1 hown hK hP 0 rfl rfl 5 (by decide) lk_17 (fun _ h9 => h9) rfl dX1_join_35 ?_
  refine lv_iload_n hx hb dX1_join_38 rfl (lv_at hl 2 rfl) ?_
  refine lv_bipush (v := (nI (8))) hx hb dX1_join_39 (by decide) ?_
  refine lv_imul hx hb dX1_join_41 ?_
  refine kp_i (pk_mul _ _) ?_
  refine kc_v (As := [.ref (q 3), .int (nI (b * 8))]) (rest := []) ⟨hx, hb, hml, hown, hts⟩ (c_D_takeId l D A q cB cI tl lv lb ((0 + 1) + 32) tp ll id (cat (upd ms 0 ((((1 : Int32))).toInt8.toInt32)) (0 + 1) (fun j => wb (id ((a * 8) + j / 4)) (j % 4)) 32) sc st (b * 8) (by omega) (by omega)) (cwV 2 hts gX1_join_X0_takeId rfl rfl rfl (by decide +kernel) ⟨Nat.le_of_ble_eq_true rfl, Nat.le_of_ble_eq_true rfl⟩) (va_recv hK hP (ci := 0) (q0 := 4) rfl rfl) hK hP hD hS hZ rfl hl.1 rfl (Nat.le_of_ble_eq_true rfl) ⟨Nat.zero_le _, Nat.zero_le _⟩ dX1_join_42 (fun _ H locs _ hP hD hS => ?_)
  have hP : va_P D vwCl (wk q cB cI tl lv lb (((0 + 1) + 32) + 32) tp ll id (cat (cat (upd ms 0 ((((1 : Int32))).toInt8.toInt32)) (0 + 1) (fun j => wb (id ((a * 8) + j / 4)) (j % 4)) 32) ((0 + 1) + 32) (fun j => wb (id ((b * 8) + j / 4)) (j % 4)) 32) sc st) H := hP
  have hD : va_D A (wk q cB cI tl lv lb (((0 + 1) + 32) + 32) tp ll id (cat (cat (upd ms 0 ((((1 : Int32))).toInt8.toInt32)) (0 + 1) (fun j => wb (id ((a * 8) + j / 4)) (j % 4)) 32) ((0 + 1) + 32) (fun j => wb (id ((b * 8) + j / 4)) (j % 4)) 32) sc st) := hD
  refine lv_aload_n hx hb dX1_join_45 rfl (lv_at hl 0 rfl) ?_
  refine va_get (D := D) (ci := 1) (v := .ref (q 4)) (C := RX1) (T := TX1) (N := 7) hx hb hts hin_1 hown hK hP 0 rfl rfl 6 (by decide) lk_23 (fun _ h9 => h9) rfl dX1_join_46 ?_
  refine lv_aload_n hx hb dX1_join_49 rfl (lv_at hl 0 rfl) ?_
  refine va_get (D := D) (ci := 1) (v := .ref (q 3)) (C := RX1) (T := TX1) (N := 7) hx hb hts hin_1 hown hK hP 0 rfl rfl 5 (by decide) lk_17 (fun _ h9 => h9) rfl dX1_join_50 ?_
  refine lv_iload_n hx hb dX1_join_53 rfl (lv_at hl 3 rfl) ?_
  refine lv_bipush (v := (nI (8))) hx hb dX1_join_54 (by decide) ?_
  refine lv_imul hx hb dX1_join_56 ?_
  refine kp_i (pk_mul _ _) ?_
  refine kc_v (As := [.ref (q 3), .int (nI (k * 8))]) (rest := []) ⟨hx, hb, hml, hown, hts⟩ (c_D_finishInto l D A q cB cI tl lv lb (((0 + 1) + 32) + 32) tp ll id (cat (cat (upd ms 0 ((((1 : Int32))).toInt8.toInt32)) (0 + 1) (fun j => wb (id ((a * 8) + j / 4)) (j % 4)) 32) ((0 + 1) + 32) (fun j => wb (id ((b * 8) + j / 4)) (j % 4)) 32) sc st (k * 8) (by omega) (by decide)) (cwV 2 hts gX1_join_X0_finishInto rfl rfl rfl (by decide +kernel) ⟨Nat.le_of_ble_eq_true rfl, Nat.le_of_ble_eq_true rfl⟩) (va_recv hK hP (ci := 0) (q0 := 4) rfl rfl) hK hP hD hS hZ rfl hl.1 rfl (Nat.le_of_ble_eq_true rfl) ⟨Nat.zero_le _, Nat.zero_le _⟩ dX1_join_57 (fun u_5 H locs _ hP hD hS => ?_)
  have hP : va_P D vwCl (wk q cB cI tl lv lb u_5.1 tp ll (cat id (k * 8) (hm (cat (cat (upd ms 0 ((((1 : Int32))).toInt8.toInt32)) (0 + 1) (fun j => wb (id ((a * 8) + j / 4)) (j % 4)) 32) ((0 + 1) + 32) (fun j => wb (id ((b * 8) + j / 4)) (j % 4)) 32) (((0 + 1) + 32) + 32)) 8) u_5.2.1 u_5.2.2.1 u_5.2.2.2) H := hP
  have hD : va_D A (wk q cB cI tl lv lb u_5.1 tp ll (cat id (k * 8) (hm (cat (cat (upd ms 0 ((((1 : Int32))).toInt8.toInt32)) (0 + 1) (fun j => wb (id ((a * 8) + j / 4)) (j % 4)) 32) ((0 + 1) + 32) (fun j => wb (id ((b * 8) + j / 4)) (j % 4)) 32) (((0 + 1) + 32) + 32)) 8) u_5.2.1 u_5.2.2.1 u_5.2.2.2) := hD
  rw [node_eq] at hP hD
  have hP : va_P D vwCl (wk q cB cI tl lv lb u_5.1 tp ll (pn id k (ndh (nd id a) (nd id b))) u_5.2.1 u_5.2.2.1 u_5.2.2.2) H := hP
  have hD : va_D A (wk q cB cI tl lv lb u_5.1 tp ll (pn id k (ndh (nd id a) (nd id b))) u_5.2.1 u_5.2.2.1 u_5.2.2.2) := hD
  exact kr_v (u_5) hx hb hr hlocks hK hP hD hS (trivial) dX1_join_60
end
section
set_option maxHeartbeats 4000000 in
set_option maxRecDepth 100000 in
theorem c_refreshAbove (l : Launch) (D : va_G) (A : Nat → Prop) (q : Nat → Nat) (cB cI : ClassId) (tl lv lb ln : Nat) (tp : Nat → Int32) (ll : Nat → Nat) (id ms sc st : Nat → Int32) (i0 : Nat) (h1 : i0 < lv) (h2 : lv ≤ 100) : Kv (S := (Nat × (Nat → Int32) × (Nat → Int32) × (Nat → Int32))) l yX1_refreshAbove wsX1_refreshAbove { frames := 4, cells := 0, slots := 0, locals := 101 } D vwCl [(cB, .byte), (cI, .int)] A (zk q) [.ref (q 0), .int (nI i0)] (wk q cB cI tl lv lb ln tp ll id ms sc st) (fun _ => True) (fun u => (wk q cB cI tl lv lb u.1 tp ll (rfa lv i0 id (rl lv)) u.2.1 u.2.2.1 u.2.2.2)) := by
  refine Met.ofW (cc := cX1_refreshAbove) (maxL := 7) (ret := none) (by decide) rfl ?_
  intro p e s m args below meth c s₁ B hml hv
  obtain ⟨rfl, hP, hK, hD, hZ⟩ := hv
  have hx := B.exec
  have hb := B.bytes
  have hr := B.returns
  have hts := atoms_spec (ws := wsX1_refreshAbove) B.pre
  have hown : s.vm.findClass RX1 = some m.cls := findClass_of_methodNamed B.named
  have hlocks := B.notSynchronized
  have hS : va_S A s.heap s.heap [] := va_S.rf
  have hin_1 : ∀ w ∈ u_ws RX1 TX1 7, w ∈ wsX1_refreshAbove := by decide +kernel
  have lk_31 := hts (.fieldLink RX1 31 "RootDesk" "leaves" "I") (by decide +kernel)
  have lk_63 := hts (.fieldLink RX1 63 "RootDesk" "LEVEL_START" "[I") (by decide +kernel)
  have hl := lv_entry ([.ref (q 0), .int (nI i0)]) (n := 7) (Nat.le_of_ble_eq_true rfl)
  rw [lg_entry_eq]
  generalize (lg_sl ([.ref (q 0), .int (nI i0)]) ++ List.replicate (7 - (lg_sl ([.ref (q 0), .int (nI i0)])).length) Slot.unset).toArray = ls at hl ⊢
  have hl : lv_has ls 7 [(0, .ref (q 0)), (1, .int (nI i0))] := hl
  refine lv_aload_n hx hb dX1_refreshAbove_0 rfl (lv_at hl 0 rfl) ?_
  refine va_get (D := D) (ci := 1) (v := .int (nI lv)) (C := RX1) (T := TX1) (N := 7) hx hb hts hin_1 hown hK hP 0 rfl rfl 3 (by decide) lk_31 (fun _ h9 => h9) rfl dX1_refreshAbove_1 ?_
  refine lv_istore_n (lv' := [(2, .int (nI lv)), (0, .ref (q 0)), (1, .int (nI i0))]) hx hb dX1_refreshAbove_4 rfl hl (by decide) rfl (fun ls hl => ?_)
  refine lv_iconst (v := (nI (0))) hx hb dX1_refreshAbove_5 (by decide) ?_
  refine lv_istore_n (lv' := [(3, .int (nI 0)), (2, .int (nI lv)), (0, .ref (q 0)), (1, .int (nI i0))]) hx hb dX1_refreshAbove_6 rfl hl (by decide) rfl (fun ls hl => ?_)
  refine kp_lp (hd := 7) (nn := rl lv) (fun (i : Nat) (H : Heap) (locs : List Loc) (ls : Array Slot) => ∃ (u : Nat × (Nat → Int32) × (Nat → Int32) × (Nat → Int32)), va_P D vwCl (wk q cB cI tl lv lb u.1 tp ll (rfa lv i0 id i) u.2.1 u.2.2.1 u.2.2.2) H ∧ va_D A (wk q cB cI tl lv lb u.1 tp ll (rfa lv i0 id i) u.2.1 u.2.2.1 u.2.2.2) ∧ va_S A s.heap H locs ∧ lv_has ls 7 [(0, .ref (q 0)), (1, .int (nI i0)), (2, .int (nI (wdl lv i))), (3, .int (nI i))]) ?_ 0 (by omega) _ _ _ ⟨(ln, ms, sc, st), hP, hD, hS, (lv_sub hl [2, 3, 1, 0] rfl)⟩
  intro i hiN H locs ls hI ih
  obtain ⟨u, hP, hD, hS, hl⟩ := hI
  have hwi := wdl_le lv i
  have hr8 := rl_lt lv
  have hdv : i0 / 2 ^ i ≤ i0 := Nat.div_le_self _ _
  refine lv_iload_n hx hb dX1_refreshAbove_7 rfl (lv_at hl 3 rfl) ?_
  refine lv_iconst (v := (nI (1))) hx hb dX1_refreshAbove_8 (by decide) ?_
  refine lv_iadd hx hb dX1_refreshAbove_9 ?_
  refine kp_i (nI_add _ _) ?_
  refine lv_bipush (v := (nI (8))) hx hb dX1_refreshAbove_10 (by decide) ?_
  refine lv_icmp_ge (tgt := 95) hx hb dX1_refreshAbove_12 (by decide) (fun c_12 => ?_) (fun c_12 => ?_)
  · have c_12 : 8 ≤ (i + 1) := kn_le c_12 (by omega) (by omega)
    have e9 : rl lv = i := by omega
    subst e9
    exact kr_v (u) hx hb hr hlocks hK hP hD hS (trivial) dX1_refreshAbove_95
  · have c_12 : (i + 1) < 8 := kn_nle c_12 (by omega) (by omega)
    refine lv_iload_n hx hb dX1_refreshAbove_15 rfl (lv_at hl 2 rfl) ?_
    refine lv_iconst (v := (nI (1))) hx hb dX1_refreshAbove_16 (by decide) ?_
    refine lv_icmp_le (tgt := 95) hx hb dX1_refreshAbove_17 (by decide) (fun c_17 => ?_) (fun c_17 => ?_)
    · have c_17 : (wdl lv i) ≤ 1 := kn_le c_17 (by omega) (by omega)
      have e9 : rl lv = i := (rl_at (by omega) hiN c_17).symm
      subst e9
      exact kr_v (u) hx hb hr hlocks hK hP hD hS (trivial) dX1_refreshAbove_95
    · have c_17 : 1 < (wdl lv i) := kn_nle c_17 (by omega) (by omega)
      have hlt : i < rl lv := rl_nat (by omega) hiN c_17
      have hft := fit_f h1 h2 hlt
      have hfa := fit_a h1 h2 hlt
      refine lv_iload_n hx hb dX1_refreshAbove_20 rfl (lv_at hl 1 rfl) ?_
      refine lv_iload_n hx hb dX1_refreshAbove_21 rfl (lv_at hl 3 rfl) ?_
      refine lv_ishr hx hb dX1_refreshAbove_22 ?_
      refine kp_i (y := (nI (i0 / 2 ^ i))) (nt_sh (by omega) (by omega)) ?_
      refine lv_istore (lv' := [(4, .int (nI (i0 / 2 ^ i))), (0, .ref (q 0)), (1, .int (nI i0)), (2, .int (nI (wdl lv i))), (3, .int (nI i))]) hx hb dX1_refreshAbove_23 hl (by decide) rfl (fun ls hl => ?_)
      refine kz_get hx hb hZ hS 0 rfl hown lk_63 dX1_refreshAbove_25 ?_
      refine lv_iload_n hx hb dX1_refreshAbove_28 rfl (lv_at hl 4 rfl) ?_
      refine kz_ld hx hb hZ hS 0 rfl (i) (rfl) (by omega) (by decide) dX1_refreshAbove_29 ?_
      refine lv_iload hx hb dX1_refreshAbove_30 (lv_at hl 0 rfl) ?_
      refine lv_bipush (v := ((-2 : Int32))) hx hb dX1_refreshAbove_32 (by decide) ?_
      refine lv_iand hx hb dX1_refreshAbove_34 ?_
      refine kp_i (y := (nI (i0 / 2 ^ i / 2 * 2))) (nt_ev _ (by omega)) ?_
      refine lv_iadd hx hb dX1_refreshAbove_35 ?_
      refine kp_i (nI_add _ _) ?_
      refine lv_istore (lv' := [(5, .int (nI ((lsv (i)) + (i0 / 2 ^ i / 2 * 2)))), (4, .int (nI (i0 / 2 ^ i))), (0, .ref (q 0)), (1, .int (nI i0)), (2, .int (nI (wdl lv i))), (3, .int (nI i))]) hx hb dX1_refreshAbove_36 hl (by decide) rfl (fun ls hl => ?_)
      refine kz_get hx hb hZ hS 0 rfl hown lk_63 dX1_refreshAbove_38 ?_
      refine lv_iload_n hx hb dX1_refreshAbove_41 rfl (lv_at hl 5 rfl) ?_
      refine lv_iconst (v := (nI (1))) hx hb dX1_refreshAbove_42 (by decide) ?_
      refine lv_iadd hx hb dX1_refreshAbove_43 ?_
      refine kp_i (nI_add _ _) ?_
      refine kz_ld hx hb hZ hS 0 rfl (i + 1) (rfl) (by omega) (by decide) dX1_refreshAbove_44 ?_
      refine lv_iload hx hb dX1_refreshAbove_45 (lv_at hl 1 rfl) ?_
      refine lv_iconst (v := (nI (1))) hx hb dX1_refreshAbove_47 (by decide) ?_
      refine lv_ishr hx hb dX1_refreshAbove_48 ?_
      refine kp_i (y := (nI (i0 / 2 ^ (i + 1)))) (nt_hf2 (by omega)) ?_
      refine lv_iadd hx hb dX1_refreshAbove_49 ?_
      refine kp_i (nI_add _ _) ?_
      refine lv_istore (lv' := [(6, .int (nI ((lsv (i + 1)) + (i0 / 2 ^ (i + 1))))), (5, .int (nI ((lsv (i)) + (i0 / 2 ^ i / 2 * 2)))), (4, .int (nI (i0 / 2 ^ i))), (0, .ref (q 0)), (1, .int (nI i0)), (2, .int (nI (wdl lv i))), (3, .int (nI i))]) hx hb dX1_refreshAbove_50 hl (by decide) rfl (fun ls hl => ?_)
      refine lv_iload hx hb dX1_refreshAbove_52 (lv_at hl 2 rfl) ?_
      refine lv_iload_n hx hb dX1_refreshAbove_54 rfl (lv_at hl 5 rfl) ?_
      refine kcs_i (As := [.int (nI (i0 / 2 ^ i)), .int (nI (wdl lv i))]) (rest := []) ⟨hx, hb, hml, hown, hts⟩ (c_hasOneBeside l D A q cB cI (wk q cB cI tl lv lb u.1 tp ll (rfa lv i0 id i) u.2.1 u.2.2.1 u.2.2.2) (i0 / 2 ^ i) (wdl lv i) (by omega) (by omega)) (cwS 2 hts gX1_refreshAbove_X1_hasOneBeside rfl rfl rfl (by decide +kernel) ⟨Nat.le_of_ble_eq_true rfl, Nat.le_of_ble_eq_true rfl⟩) hK hP hD hS hZ rfl hl.1 rfl (Nat.le_of_ble_eq_true rfl) ⟨Nat.zero_le _, Nat.zero_le _⟩ dX1_refreshAbove_55 (fun r_1 _ H locs hw hP hD hS => ?_)
      have hw : r_1 = (bz (decide (xo (i0 / 2 ^ i) < (wdl lv i)))) := hw
      subst hw
      have hP : va_P D vwCl (wk q cB cI tl lv lb u.1 tp ll (rfa lv i0 id i) u.2.1 u.2.2.1 u.2.2.2) H := hP
      have hD : va_D A (wk q cB cI tl lv lb u.1 tp ll (rfa lv i0 id i) u.2.1 u.2.2.1 u.2.2.2) := hD
      refine lv_if_eq (tgt := 76) hx hb dX1_refreshAbove_58 (by decide) (fun c_58 => ?_) (fun c_58 => ?_)
      · have c_58 : (decide (xo (i0 / 2 ^ i) < (wdl lv i))) = false := bz_0 c_58
        have c_58 : hbt lv i0 i = false := c_58
        refine lv_aload_n hx hb dX1_refreshAbove_76 rfl (lv_at hl 3 rfl) ?_
        refine lv_iload hx hb dX1_refreshAbove_77 (lv_at hl 1 rfl) ?_
        refine lv_iload hx hb dX1_refreshAbove_79 (lv_at hl 0 rfl) ?_
        refine kc_v (As := [.int (nI ((lsv (i)) + (i0 / 2 ^ i / 2 * 2))), .int (nI ((lsv (i + 1)) + (i0 / 2 ^ (i + 1))))]) (rest := []) ⟨hx, hb, hml, hown, hts⟩ (c_copyId l D A q cB cI tl lv lb u.1 tp ll (rfa lv i0 id i) u.2.1 u.2.2.1 u.2.2.2 ((lsv (i)) + (i0 / 2 ^ i / 2 * 2)) ((lsv (i + 1)) + (i0 / 2 ^ (i + 1))) (by omega) (by omega) (by omega)) (cwV 2 hts gX1_refreshAbove_X1_copyId rfl rfl rfl (by decide +kernel) ⟨Nat.le_of_ble_eq_true rfl, Nat.le_of_ble_eq_true rfl⟩) (va_recv hK hP (ci := 1) (q0 := 0) rfl rfl) hK hP hD hS hZ rfl hl.1 rfl (Nat.le_of_ble_eq_true rfl) ⟨Nat.zero_le _, Nat.zero_le _⟩ dX1_refreshAbove_81 (fun _ H locs _ hP hD hS => ?_)
        have hP : va_P D vwCl (wk q cB cI tl lv lb u.1 tp ll (pn (rfa lv i0 id i) ((lsv (i + 1)) + (i0 / 2 ^ (i + 1))) (nd (rfa lv i0 id i) ((lsv (i)) + (i0 / 2 ^ i / 2 * 2)))) u.2.1 u.2.2.1 u.2.2.2) H := hP
        have hD : va_D A (wk q cB cI tl lv lb u.1 tp ll (pn (rfa lv i0 id i) ((lsv (i + 1)) + (i0 / 2 ^ (i + 1))) (nd (rfa lv i0 id i) ((lsv (i)) + (i0 / 2 ^ i / 2 * 2)))) u.2.1 u.2.2.1 u.2.2.2) := hD
        rw [← rfa_f c_58] at hP hD
        have hP : va_P D vwCl (wk q cB cI tl lv lb u.1 tp ll (rfa lv i0 id (i + 1)) u.2.1 u.2.2.1 u.2.2.2) H := hP
        have hD : va_D A (wk q cB cI tl lv lb u.1 tp ll (rfa lv i0 id (i + 1)) u.2.1 u.2.2.1 u.2.2.2) := hD
        refine lv_iload_n hx hb dX1_refreshAbove_84 rfl (lv_at hl 5 rfl) ?_
        refine kcs_i (As := [.int (nI (wdl lv i))]) (rest := []) ⟨hx, hb, hml, hown, hts⟩ (c_widthAbove l D A q cB cI (wk q cB cI tl lv lb u.1 tp ll (rfa lv i0 id (i + 1)) u.2.1 u.2.2.1 u.2.2.2) (wdl lv i) (by omega)) (cwS 1 hts gX1_refreshAbove_X1_widthAbove rfl rfl rfl (by decide +kernel) ⟨Nat.le_of_ble_eq_true rfl, Nat.le_of_ble_eq_true rfl⟩) hK hP hD hS hZ rfl hl.1 rfl (Nat.le_of_ble_eq_true rfl) ⟨Nat.zero_le _, Nat.zero_le _⟩ dX1_refreshAbove_85 (fun r_3 _ H locs hw hP hD hS => ?_)
        have hw : r_3 = (nI (((wdl lv i) + 1) / 2)) := hw
        subst hw
        have hP : va_P D vwCl (wk q cB cI tl lv lb u.1 tp ll (rfa lv i0 id (i + 1)) u.2.1 u.2.2.1 u.2.2.2) H := hP
        have hD : va_D A (wk q cB cI tl lv lb u.1 tp ll (rfa lv i0 id (i + 1)) u.2.1 u.2.2.1 u.2.2.2) := hD
        refine lv_istore_n (lv' := [(2, .int (nI (((wdl lv i) + 1) / 2))), (6, .int (nI ((lsv (i + 1)) + (i0 / 2 ^ (i + 1))))), (5, .int (nI ((lsv (i)) + (i0 / 2 ^ i / 2 * 2)))), (4, .int (nI (i0 / 2 ^ i))), (0, .ref (q 0)), (1, .int (nI i0)), (3, .int (nI i))]) hx hb dX1_refreshAbove_88 rfl hl (by decide) rfl (fun ls hl => ?_)
        refine lv_iinc (v := (nI (i + 1))) (lv' := [(3, .int (nI (i + 1))), (2, .int (nI (((wdl lv i) + 1) / 2))), (6, .int (nI ((lsv (i + 1)) + (i0 / 2 ^ (i + 1))))), (5, .int (nI ((lsv (i)) + (i0 / 2 ^ i / 2 * 2)))), (4, .int (nI (i0 / 2 ^ i))), (0, .ref (q 0)), (1, .int (nI i0))]) hx hb dX1_refreshAbove_89 hl (k := 6) rfl (kn_inc _ _ 1 rfl) (by decide) rfl (fun ls hl => ?_)
        refine lv_goto (tgt := 7) hx hb dX1_refreshAbove_92 (by decide) ?_
        exact ih hlt _ _ _ ⟨u, hP, hD, hS, (lv_sub hl [5, 6, 1, 0] rfl)⟩
      · have c_58 : (decide (xo (i0 / 2 ^ i) < (wdl lv i))) = true := bz_1 c_58
        have c_58 : hbt lv i0 i = true := c_58
        refine lv_aload_n hx hb dX1_refreshAbove_61 rfl (lv_at hl 3 rfl) ?_
        refine lv_iload hx hb dX1_refreshAbove_62 (lv_at hl 1 rfl) ?_
        refine lv_iload hx hb dX1_refreshAbove_64 (lv_at hl 1 rfl) ?_
        refine lv_iconst (v := (nI (1))) hx hb dX1_refreshAbove_66 (by decide) ?_
        refine lv_iadd hx hb dX1_refreshAbove_67 ?_
        refine kp_i (nI_add _ _) ?_
        refine lv_iload hx hb dX1_refreshAbove_68 (lv_at hl 0 rfl) ?_
        refine kc_v (As := [.int (nI ((lsv (i)) + (i0 / 2 ^ i / 2 * 2))), .int (nI (((lsv (i)) + (i0 / 2 ^ i / 2 * 2)) + 1)), .int (nI ((lsv (i + 1)) + (i0 / 2 ^ (i + 1))))]) (rest := []) ⟨hx, hb, hml, hown, hts⟩ (c_join l D A q cB cI tl lv lb u.1 tp ll (rfa lv i0 id i) u.2.1 u.2.2.1 u.2.2.2 ((lsv (i)) + (i0 / 2 ^ i / 2 * 2)) (((lsv (i)) + (i0 / 2 ^ i / 2 * 2)) + 1) ((lsv (i + 1)) + (i0 / 2 ^ (i + 1))) (by omega) (by omega) (by omega)) (cwV 3 hts gX1_refreshAbove_X1_join rfl rfl rfl (by decide +kernel) ⟨Nat.le_of_ble_eq_true rfl, Nat.le_of_ble_eq_true rfl⟩) (va_recv hK hP (ci := 1) (q0 := 0) rfl rfl) hK hP hD hS hZ rfl hl.1 rfl (Nat.le_of_ble_eq_true rfl) ⟨Nat.zero_le _, Nat.zero_le _⟩ dX1_refreshAbove_70 (fun u_4 H locs _ hP hD hS => ?_)
        have hP : va_P D vwCl (wk q cB cI tl lv lb u_4.1 tp ll (pn (rfa lv i0 id i) ((lsv (i + 1)) + (i0 / 2 ^ (i + 1))) (ndh (nd (rfa lv i0 id i) ((lsv (i)) + (i0 / 2 ^ i / 2 * 2))) (nd (rfa lv i0 id i) (((lsv (i)) + (i0 / 2 ^ i / 2 * 2)) + 1)))) u_4.2.1 u_4.2.2.1 u_4.2.2.2) H := hP
        have hD : va_D A (wk q cB cI tl lv lb u_4.1 tp ll (pn (rfa lv i0 id i) ((lsv (i + 1)) + (i0 / 2 ^ (i + 1))) (ndh (nd (rfa lv i0 id i) ((lsv (i)) + (i0 / 2 ^ i / 2 * 2))) (nd (rfa lv i0 id i) (((lsv (i)) + (i0 / 2 ^ i / 2 * 2)) + 1)))) u_4.2.1 u_4.2.2.1 u_4.2.2.2) := hD
        rw [← rfa_t c_58] at hP hD
        have hP : va_P D vwCl (wk q cB cI tl lv lb u_4.1 tp ll (rfa lv i0 id (i + 1)) u_4.2.1 u_4.2.2.1 u_4.2.2.2) H := hP
        have hD : va_D A (wk q cB cI tl lv lb u_4.1 tp ll (rfa lv i0 id (i + 1)) u_4.2.1 u_4.2.2.1 u_4.2.2.2) := hD
        refine lv_goto (tgt := 84) hx hb dX1_refreshAbove_73 (by decide) ?_
        refine lv_iload_n hx hb dX1_refreshAbove_84 rfl (lv_at hl 5 rfl) ?_
        refine kcs_i (As := [.int (nI (wdl lv i))]) (rest := []) ⟨hx, hb, hml, hown, hts⟩ (c_widthAbove l D A q cB cI (wk q cB cI tl lv lb u_4.1 tp ll (rfa lv i0 id (i + 1)) u_4.2.1 u_4.2.2.1 u_4.2.2.2) (wdl lv i) (by omega)) (cwS 1 hts gX1_refreshAbove_X1_widthAbove rfl rfl rfl (by decide +kernel) ⟨Nat.le_of_ble_eq_true rfl, Nat.le_of_ble_eq_true rfl⟩) hK hP hD hS hZ rfl hl.1 rfl (Nat.le_of_ble_eq_true rfl) ⟨Nat.zero_le _, Nat.zero_le _⟩ dX1_refreshAbove_85 (fun r_5 _ H locs hw hP hD hS => ?_)
        have hw : r_5 = (nI (((wdl lv i) + 1) / 2)) := hw
        subst hw
        have hP : va_P D vwCl (wk q cB cI tl lv lb u_4.1 tp ll (rfa lv i0 id (i + 1)) u_4.2.1 u_4.2.2.1 u_4.2.2.2) H := hP
        have hD : va_D A (wk q cB cI tl lv lb u_4.1 tp ll (rfa lv i0 id (i + 1)) u_4.2.1 u_4.2.2.1 u_4.2.2.2) := hD
        refine lv_istore_n (lv' := [(2, .int (nI (((wdl lv i) + 1) / 2))), (6, .int (nI ((lsv (i + 1)) + (i0 / 2 ^ (i + 1))))), (5, .int (nI ((lsv (i)) + (i0 / 2 ^ i / 2 * 2)))), (4, .int (nI (i0 / 2 ^ i))), (0, .ref (q 0)), (1, .int (nI i0)), (3, .int (nI i))]) hx hb dX1_refreshAbove_88 rfl hl (by decide) rfl (fun ls hl => ?_)
        refine lv_iinc (v := (nI (i + 1))) (lv' := [(3, .int (nI (i + 1))), (2, .int (nI (((wdl lv i) + 1) / 2))), (6, .int (nI ((lsv (i + 1)) + (i0 / 2 ^ (i + 1))))), (5, .int (nI ((lsv (i)) + (i0 / 2 ^ i / 2 * 2)))), (4, .int (nI (i0 / 2 ^ i))), (0, .ref (q 0)), (1, .int (nI i0))]) hx hb dX1_refreshAbove_89 hl (k := 6) rfl (kn_inc _ _ 1 rfl) (by decide) rfl (fun ls hl => ?_)
        refine lv_goto (tgt := 7) hx hb dX1_refreshAbove_92 (by decide) ?_
        exact ih hlt _ _ _ ⟨u_4, hP, hD, hS, (lv_sub hl [5, 6, 1, 0] rfl)⟩

set_option maxHeartbeats 4000000 in
set_option maxRecDepth 100000 in
theorem c_levelOfStep (l : Launch) (D : va_G) (A : Nat → Prop) (q : Nat → Nat) (cB cI : ClassId) (tl lv lb ln : Nat) (tp : Nat → Int32) (ll : Nat → Nat) (id ms sc st : Nat → Int32) (x : Int32) (y : Int32) (h1 : lv ≤ 100) : Ki (S := Unit) l yX1_levelOfStep wsX1_levelOfStep { frames := 1, cells := 0, slots := 0, locals := 21 } D vwCl [(cB, .byte), (cI, .int)] A (zk q) [.ref (q 0), .int x, .int y] (wk q cB cI tl lv lb ln tp ll id ms sc st) (fun r _ => los lv x y r) (fun _ => (wk q cB cI tl lv lb ln tp ll id ms sc st)) := by
  refine Met.ofW (cc := cX1_levelOfStep) (maxL := 6) (ret := (some .int)) (by decide) rfl ?_
  intro p e s m args below meth c s₁ B hml hv
  obtain ⟨rfl, hP, hK, hD, hZ⟩ := hv
  have hx := B.exec
  have hb := B.bytes
  have hr := B.returns
  have hts := atoms_spec (ws := wsX1_levelOfStep) B.pre
  have hown : s.vm.findClass RX1 = some m.cls := findClass_of_methodNamed B.named
  have hlocks := B.notSynchronized
  have hS : va_S A s.heap s.heap [] := va_S.rf
  have hin_1 : ∀ w ∈ u_ws RX1 TX1 7, w ∈ wsX1_levelOfStep := by decide +kernel
  have lk_31 := hts (.fieldLink RX1 31 "RootDesk" "leaves" "I") (by decide +kernel)
  have hl := lv_entry ([.ref (q 0), .int x, .int y]) (n := 6) (Nat.le_of_ble_eq_true rfl)
  rw [lg_entry_eq]
  generalize (lg_sl ([.ref (q 0), .int x, .int y]) ++ List.replicate (6 - (lg_sl ([.ref (q 0), .int x, .int y])).length) Slot.unset).toArray = ls at hl ⊢
  have hl : lv_has ls 6 [(0, .ref (q 0)), (1, .int x), (2, .int y)] := hl
  refine lv_aload_n hx hb dX1_levelOfStep_0 rfl (lv_at hl 0 rfl) ?_
  refine lv_iload_n hx hb dX1_levelOfStep_1 rfl (lv_at hl 1 rfl) ?_
  refine kc_i (As := [.int x]) (rest := []) ⟨hx, hb, hml, hown, hts⟩ (c_isLeaf l D A q cB cI tl lv lb ln tp ll id ms sc st ((x))) (cwV 1 hts gX1_levelOfStep_X1_isLeaf rfl rfl rfl (by decide +kernel) ⟨Nat.le_of_ble_eq_true rfl, Nat.le_of_ble_eq_true rfl⟩) (va_recv hK hP (ci := 1) (q0 := 0) rfl rfl) hK hP hD hS hZ rfl hl.1 rfl (Nat.le_of_ble_eq_true rfl) ⟨Nat.zero_le _, Nat.zero_le _⟩ dX1_levelOfStep_2 (fun r_1 _ H locs hw hP hD hS => ?_)
  have hw : r_1 = (bz (lf (x) lv)) := hw
  subst hw
  have hP : va_P D vwCl (wk q cB cI tl lv lb ln tp ll id ms sc st) H := hP
  have hD : va_D A (wk q cB cI tl lv lb ln tp ll id ms sc st) := hD
  refine lv_if_eq (tgt := 12) hx hb dX1_levelOfStep_5 (by decide) (fun c_5 => ?_) (fun c_5 => ?_)
  · have c_5 : (lf (x) lv) = false := bz_0 c_5
    refine lv_iconst (v := ((-1 : Int32))) hx hb dX1_levelOfStep_12 (by decide) ?_
    exact kr_i (()) hx hb hr hlocks hK hP hD hS (by first | exact los_b c_9 | exact los_a (by omega) c_5) dX1_levelOfStep_13
  · have c_5 : (lf (x) lv) = true := bz_1 c_5
    refine lv_iload_n hx hb dX1_levelOfStep_8 rfl (lv_at hl 2 rfl) ?_
    refine lv_if_ge (tgt := 14) hx hb dX1_levelOfStep_9 (by decide) (fun c_9 => ?_) (fun c_9 => ?_)
    · obtain ⟨i0, hi0, rfl⟩ := lf_t (by omega) c_5
      obtain ⟨J, hJ, rfl⟩ := kn_of0 c_9
      refine lv_iconst (v := (nI (0))) hx hb dX1_levelOfStep_14 (by decide) ?_
      refine lv_istore_n (lv' := [(3, .int (nI 0)), (0, .ref (q 0)), (1, .int (nI i0)), (2, .int (nI J))]) hx hb dX1_levelOfStep_15 rfl hl (by decide) rfl (fun ls hl => ?_)
      refine lv_aload_n hx hb dX1_levelOfStep_16 rfl (lv_at hl 1 rfl) ?_
      refine va_get (D := D) (ci := 1) (v := .int (nI lv)) (C := RX1) (T := TX1) (N := 7) hx hb hts hin_1 hown hK hP 0 rfl rfl 3 (by decide) lk_31 (fun _ h9 => h9) rfl dX1_levelOfStep_17 ?_
      refine lv_istore (lv' := [(4, .int (nI lv)), (3, .int (nI 0)), (0, .ref (q 0)), (1, .int (nI i0)), (2, .int (nI J))]) hx hb dX1_levelOfStep_20 hl (by decide) rfl (fun ls hl => ?_)
      refine lv_iconst (v := (nI (0))) hx hb dX1_levelOfStep_22 (by decide) ?_
      refine lv_istore (lv' := [(5, .int (nI 0)), (4, .int (nI lv)), (3, .int (nI 0)), (0, .ref (q 0)), (1, .int (nI i0)), (2, .int (nI J))]) hx hb dX1_levelOfStep_23 hl (by decide) rfl (fun ls hl => ?_)
      refine kp_lp (hd := 25) (nn := 8) (fun (i : Nat) (H : Heap) (locs : List Loc) (ls : Array Slot) => (∀ t, t < i → hbt lv i0 t = true → stc lv i0 t ≠ J) ∧ va_P D vwCl (wk q cB cI tl lv lb ln tp ll id ms sc st) H ∧ va_D A (wk q cB cI tl lv lb ln tp ll id ms sc st) ∧ va_S A s.heap H locs ∧ lv_has ls 6 [(0, .ref (q 0)), (1, .int (nI i0)), (2, .int (nI J)), (3, .int (nI (stc lv i0 i))), (4, .int (nI (wdl lv i))), (5, .int (nI i))]) ?_ 0 (by omega) _ _ _ ⟨fun t ht => absurd ht (Nat.not_lt_zero t), hP, hD, hS, (lv_sub hl [3, 4, 5, 2, 1, 0] rfl)⟩
      intro i hiN H locs ls hI ih
      obtain ⟨hI_0, hP, hD, hS, hl⟩ := hI
      have hwi := wdl_le lv i
      have hst := stc_le lv i0 i
      have hdv : i0 / 2 ^ i ≤ i0 := Nat.div_le_self _ _
      refine lv_iload hx hb dX1_levelOfStep_25 (lv_at hl 5 rfl) ?_
      refine lv_bipush (v := (nI (8))) hx hb dX1_levelOfStep_27 (by decide) ?_
      refine lv_icmp_ge (tgt := 68) hx hb dX1_levelOfStep_29 (by decide) (fun c_29 => ?_) (fun c_29 => ?_)
      · have c_29 : 8 ≤ i := kn_le c_29 (by omega) (by omega)
        have e9 : 8 = i := by omega
        subst e9
        refine lv_iconst (v := ((-1 : Int32))) hx hb dX1_levelOfStep_68 (by decide) ?_
        exact kr_i (()) hx hb hr hlocks hK hP hD hS (los_n h1 hi0 hJ hI_0) dX1_levelOfStep_69
      · have c_29 : i < 8 := kn_nle c_29 (by omega) (by omega)
        have hlt : i < 8 := c_29
        refine lv_iload_n hx hb dX1_levelOfStep_32 rfl (lv_at hl 1 rfl) ?_
        refine lv_iload hx hb dX1_levelOfStep_33 (lv_at hl 5 rfl) ?_
        refine lv_ishr hx hb dX1_levelOfStep_35 ?_
        refine kp_i (y := (nI (i0 / 2 ^ i))) (nt_sh (by omega) (by omega)) ?_
        refine lv_iload hx hb dX1_levelOfStep_36 (lv_at hl 4 rfl) ?_
        refine kcs_i (As := [.int (nI (i0 / 2 ^ i)), .int (nI (wdl lv i))]) (rest := []) ⟨hx, hb, hml, hown, hts⟩ (c_hasOneBeside l D A q cB cI (wk q cB cI tl lv lb ln tp ll id ms sc st) (i0 / 2 ^ i) (wdl lv i) (by omega) (by omega)) (cwS 2 hts gX1_levelOfStep_X1_hasOneBeside rfl rfl rfl (by decide +kernel) ⟨Nat.le_of_ble_eq_true rfl, Nat.le_of_ble_eq_true rfl⟩) hK hP hD hS hZ rfl hl.1 rfl (Nat.le_of_ble_eq_true rfl) ⟨Nat.zero_le _, Nat.zero_le _⟩ dX1_levelOfStep_38 (fun r_2 _ H locs hw hP hD hS => ?_)
        have hw : r_2 = (bz (decide (xo (i0 / 2 ^ i) < (wdl lv i)))) := hw
        subst hw
        have hP : va_P D vwCl (wk q cB cI tl lv lb ln tp ll id ms sc st) H := hP
        have hD : va_D A (wk q cB cI tl lv lb ln tp ll id ms sc st) := hD
        refine lv_if_eq (tgt := 55) hx hb dX1_levelOfStep_41 (by decide) (fun c_41 => ?_) (fun c_41 => ?_)
        · have c_41 : (decide (xo (i0 / 2 ^ i) < (wdl lv i))) = false := bz_0 c_41
          have c_41 : hbt lv i0 i = false := c_41
          have hl : lv_has ls 6 [(0, .ref (q 0)), (1, .int (nI i0)), (2, .int (nI J)), (3, .int (nI (stc lv i0 (i + 1)))), (4, .int (nI (wdl lv i))), (5, .int (nI i))] := by rw [stc_f c_41]; exact hl
          refine lv_iload hx hb dX1_levelOfStep_55 (lv_at hl 4 rfl) ?_
          refine kcs_i (As := [.int (nI (wdl lv i))]) (rest := []) ⟨hx, hb, hml, hown, hts⟩ (c_widthAbove l D A q cB cI (wk q cB cI tl lv lb ln tp ll id ms sc st) (wdl lv i) (by omega)) (cwS 1 hts gX1_levelOfStep_X1_widthAbove rfl rfl rfl (by decide +kernel) ⟨Nat.le_of_ble_eq_true rfl, Nat.le_of_ble_eq_true rfl⟩) hK hP hD hS hZ rfl hl.1 rfl (Nat.le_of_ble_eq_true rfl) ⟨Nat.zero_le _, Nat.zero_le _⟩ dX1_levelOfStep_57 (fun r_3 _ H locs hw hP hD hS => ?_)
          have hw : r_3 = (nI (((wdl lv i) + 1) / 2)) := hw
          subst hw
          have hP : va_P D vwCl (wk q cB cI tl lv lb ln tp ll id ms sc st) H := hP
          have hD : va_D A (wk q cB cI tl lv lb ln tp ll id ms sc st) := hD
          refine lv_istore (lv' := [(4, .int (nI (((wdl lv i) + 1) / 2))), (0, .ref (q 0)), (1, .int (nI i0)), (2, .int (nI J)), (3, .int (nI (stc lv i0 (i + 1)))), (5, .int (nI i))]) hx hb dX1_levelOfStep_60 hl (by decide) rfl (fun ls hl => ?_)
          refine lv_iinc (v := (nI (i + 1))) (lv' := [(5, .int (nI (i + 1))), (4, .int (nI (((wdl lv i) + 1) / 2))), (0, .ref (q 0)), (1, .int (nI i0)), (2, .int (nI J)), (3, .int (nI (stc lv i0 (i + 1))))]) hx hb dX1_levelOfStep_62 hl (k := 5) rfl (kn_inc _ _ 1 rfl) (by decide) rfl (fun ls hl => ?_)
          refine lv_goto (tgt := 25) hx hb dX1_levelOfStep_65 (by decide) ?_
          exact ih hlt _ _ _ ⟨by first | exact los_bt hI_0 c_46 | exact los_bf hI_0 c_41, hP, hD, hS, (lv_sub hl [2, 3, 4, 5, 1, 0] rfl)⟩
        · have c_41 : (decide (xo (i0 / 2 ^ i) < (wdl lv i))) = true := bz_1 c_41
          have c_41 : hbt lv i0 i = true := c_41
          refine lv_iload_n hx hb dX1_levelOfStep_44 rfl (lv_at hl 3 rfl) ?_
          refine lv_iload_n hx hb dX1_levelOfStep_45 rfl (lv_at hl 2 rfl) ?_
          refine lv_icmp_ne (tgt := 52) hx hb dX1_levelOfStep_46 (by decide) (fun c_46 => ?_) (fun c_46 => ?_)
          · have c_46 : (stc lv i0 i) ≠ J := kn_ne c_46 (by omega) (by omega)
            refine lv_iinc (v := (nI (stc lv i0 (i + 1)))) (lv' := [(3, .int (nI (stc lv i0 (i + 1)))), (0, .ref (q 0)), (1, .int (nI i0)), (2, .int (nI J)), (4, .int (nI (wdl lv i))), (5, .int (nI i))]) hx hb dX1_levelOfStep_52 hl (k := 3) rfl (kn_inc _ _ 1 (stc_t c_41)) (by decide) rfl (fun ls hl => ?_)
            refine lv_iload hx hb dX1_levelOfStep_55 (lv_at hl 4 rfl) ?_
            refine kcs_i (As := [.int (nI (wdl lv i))]) (rest := []) ⟨hx, hb, hml, hown, hts⟩ (c_widthAbove l D A q cB cI (wk q cB cI tl lv lb ln tp ll id ms sc st) (wdl lv i) (by omega)) (cwS 1 hts gX1_levelOfStep_X1_widthAbove rfl rfl rfl (by decide +kernel) ⟨Nat.le_of_ble_eq_true rfl, Nat.le_of_ble_eq_true rfl⟩) hK hP hD hS hZ rfl hl.1 rfl (Nat.le_of_ble_eq_true rfl) ⟨Nat.zero_le _, Nat.zero_le _⟩ dX1_levelOfStep_57 (fun r_4 _ H locs hw hP hD hS => ?_)
            have hw : r_4 = (nI (((wdl lv i) + 1) / 2)) := hw
            subst hw
            have hP : va_P D vwCl (wk q cB cI tl lv lb ln tp ll id ms sc st) H := hP
            have hD : va_D A (wk q cB cI tl lv lb ln tp ll id ms sc st) := hD
            refine lv_istore (lv' := [(4, .int (nI (((wdl lv i) + 1) / 2))), (3, .int (nI (stc lv i0 (i + 1)))), (0, .ref (q 0)), (1, .int (nI i0)), (2, .int (nI J)), (5, .int (nI i))]) hx hb dX1_levelOfStep_60 hl (by decide) rfl (fun ls hl => ?_)
            refine lv_iinc (v := (nI (i + 1))) (lv' := [(5, .int (nI (i + 1))), (4, .int (nI (((wdl lv i) + 1) / 2))), (3, .int (nI (stc lv i0 (i + 1)))), (0, .ref (q 0)), (1, .int (nI i0)), (2, .int (nI J))]) hx hb dX1_levelOfStep_62 hl (k := 5) rfl (kn_inc _ _ 1 rfl) (by decide) rfl (fun ls hl => ?_)
            refine lv_goto (tgt := 25) hx hb dX1_levelOfStep_65 (by decide) ?_
            exact ih hlt _ _ _ ⟨by first | exact los_bt hI_0 c_46 | exact los_bf hI_0 c_41, hP, hD, hS, (lv_sub hl [3, 4, 5, 2, 1, 0] rfl)⟩
          · have c_46 : (stc lv i0 i) = J := kn_eq c_46 (by omega) (by omega)
            refine lv_iload hx hb dX1_levelOfStep_49 (lv_at hl 5 rfl) ?_
            exact kr_i (()) hx hb hr hlocks hK hP hD hS (los_y h1 hi0 hJ hlt c_41 c_46) dX1_levelOfStep_51
    · refine lv_iconst (v := ((-1 : Int32))) hx hb dX1_levelOfStep_12 (by decide) ?_
      exact kr_i (()) hx hb hr hlocks hK hP hD hS (by first | exact los_b c_9 | exact los_a (by omega) c_5) dX1_levelOfStep_13

set_option maxHeartbeats 4000000 in
set_option maxRecDepth 100000 in
theorem c_moveTapeTo (l : Launch) (D : va_G) (A : Nat → Prop) (q : Nat → Nat) (cB cI : ClassId) (tl lv lb ln : Nat) (tp : Nat → Int32) (ll : Nat → Nat) (id ms sc st : Nat → Int32) (i : Nat) (h1 : i < lv) (h2 : lv ≤ 100) (h3 : tl ≤ 150) (h4 : ll i ≤ lb + tl) : Kv (S := (Nat × (Nat → Int32) × (Nat → Int32) × (Nat → Int32))) l yX1_moveTapeTo wsX1_moveTapeTo { frames := 5, cells := 0, slots := 0, locals := 127 } D vwCl [(cB, .byte), (cI, .int)] A (zk q) [.ref (q 0), .int (nI i)] (wk q cB cI tl lv lb ln tp ll id ms sc st) (fun _ => True) (fun u => (wk q cB cI 0 lv (lb + tl - ll i) u.1 tp (va_up ll i tl) (rfa lv i (pn id i (lfh tp tl)) (rl lv)) u.2.1 u.2.2.1 u.2.2.2)) := by
  refine Met.ofW (cc := cX1_moveTapeTo) (maxL := 2) (ret := none) (by decide) rfl ?_
  intro p e s m args below meth c s₁ B hml hv
  obtain ⟨rfl, hP, hK, hD, hZ⟩ := hv
  have hx := B.exec
  have hb := B.bytes
  have hr := B.returns
  have hts := atoms_spec (ws := wsX1_moveTapeTo) B.pre
  have hown : s.vm.findClass RX1 = some m.cls := findClass_of_methodNamed B.named
  have hlocks := B.notSynchronized
  have hS : va_S A s.heap s.heap [] := va_S.rf
  have hin_1 : ∀ w ∈ u_ws RX1 TX1 7, w ∈ wsX1_moveTapeTo := by decide +kernel
  have lk_13 := hts (.fieldLink RX1 13 "RootDesk" "leafLengths" "[I") (by decide +kernel)
  have lk_27 := hts (.fieldLink RX1 27 "RootDesk" "tapeLength" "I") (by decide +kernel)
  have lk_34 := hts (.fieldLink RX1 34 "RootDesk" "leafBytes" "I") (by decide +kernel)
  have hl := lv_entry ([.ref (q 0), .int (nI i)]) (n := 2) (Nat.le_of_ble_eq_true rfl)
  rw [lg_entry_eq]
  generalize (lg_sl ([.ref (q 0), .int (nI i)]) ++ List.replicate (2 - (lg_sl ([.ref (q 0), .int (nI i)])).length) Slot.unset).toArray = ls at hl ⊢
  have hl : lv_has ls 2 [(0, .ref (q 0)), (1, .int (nI i))] := hl
  refine lv_aload_n hx hb dX1_moveTapeTo_0 rfl (lv_at hl 0 rfl) ?_
  refine lv_iload_n hx hb dX1_moveTapeTo_1 rfl (lv_at hl 1 rfl) ?_
  refine kc_v (As := [.int (nI i)]) (rest := []) ⟨hx, hb, hml, hown, hts⟩ (c_makeLeafId l D A q cB cI tl lv lb ln tp ll id ms sc st i (by omega) (by omega)) (cwV 1 hts gX1_moveTapeTo_X1_makeLeafId rfl rfl rfl (by decide +kernel) ⟨Nat.le_of_ble_eq_true rfl, Nat.le_of_ble_eq_true rfl⟩) (va_recv hK hP (ci := 1) (q0 := 0) rfl rfl) hK hP hD hS hZ rfl hl.1 rfl (Nat.le_of_ble_eq_true rfl) ⟨Nat.zero_le _, Nat.zero_le _⟩ dX1_moveTapeTo_2 (fun u_1 H locs _ hP hD hS => ?_)
  have hP : va_P D vwCl (wk q cB cI tl lv lb u_1.1 tp ll (pn id i (lfh tp tl)) u_1.2.1 u_1.2.2.1 u_1.2.2.2) H := hP
  have hD : va_D A (wk q cB cI tl lv lb u_1.1 tp ll (pn id i (lfh tp tl)) u_1.2.1 u_1.2.2.1 u_1.2.2.2) := hD
  refine lv_aload_n hx hb dX1_moveTapeTo_5 rfl (lv_at hl 0 rfl) ?_
  refine lv_dup hx hb dX1_moveTapeTo_6 rfl ?_
  refine va_get (D := D) (ci := 1) (v := .int (nI lb)) (C := RX1) (T := TX1) (N := 7) hx hb hts hin_1 hown hK hP 0 rfl rfl 4 (by decide) lk_34 (fun _ h9 => h9) rfl dX1_moveTapeTo_7 ?_
  refine lv_aload_n hx hb dX1_moveTapeTo_10 rfl (lv_at hl 0 rfl) ?_
  refine va_get (D := D) (ci := 1) (v := .int (nI tl)) (C := RX1) (T := TX1) (N := 7) hx hb hts hin_1 hown hK hP 0 rfl rfl 1 (by decide) lk_27 (fun _ h9 => h9) rfl dX1_moveTapeTo_11 ?_
  refine lv_aload_n hx hb dX1_moveTapeTo_14 rfl (lv_at hl 0 rfl) ?_
  refine va_get (D := D) (ci := 1) (v := .ref (q 2)) (C := RX1) (T := TX1) (N := 7) hx hb hts hin_1 hown hK hP 0 rfl rfl 2 (by decide) lk_13 (fun _ h9 => h9) rfl dX1_moveTapeTo_15 ?_
  refine lv_iload_n hx hb dX1_moveTapeTo_18 rfl (lv_at hl 1 rfl) ?_
  refine kb_iald hx hb hK hP 2 1 rfl rfl (i) (rfl) (by omega) (by decide) dX1_moveTapeTo_19 ?_
  refine lv_isub hx hb dX1_moveTapeTo_20 ?_
  refine lv_iadd hx hb dX1_moveTapeTo_21 ?_
  refine kp_i (y := (nI (lb + tl - ll i))) (kn_asub h4) ?_
  refine va_put (D := D) (ci := 1) (v := .int (nI (lb + tl - ll i))) (ty := .int) (C := RX1) (T := TX1) (N := 7) hx hb hts hin_1 tyX1 tyX1_ok nmX1 hown hK hP hD hS 0 rfl rfl 4 (by decide) lk_34 (fun _ h9 => h9) rfl (by decide +kernel) rfl rfl (Nat.le_of_ble_eq_true rfl) dX1_moveTapeTo_22 (fun H locs hP hD hS => ?_)
  have hP : va_P D vwCl (wk q cB cI tl lv (lb + tl - ll i) u_1.1 tp ll (pn id i (lfh tp tl)) u_1.2.1 u_1.2.2.1 u_1.2.2.2) H := hP
  have hD : va_D A (wk q cB cI tl lv (lb + tl - ll i) u_1.1 tp ll (pn id i (lfh tp tl)) u_1.2.1 u_1.2.2.1 u_1.2.2.2) := hD
  refine lv_aload_n hx hb dX1_moveTapeTo_25 rfl (lv_at hl 0 rfl) ?_
  refine va_get (D := D) (ci := 1) (v := .ref (q 2)) (C := RX1) (T := TX1) (N := 7) hx hb hts hin_1 hown hK hP 0 rfl rfl 2 (by decide) lk_13 (fun _ h9 => h9) rfl dX1_moveTapeTo_26 ?_
  refine lv_iload_n hx hb dX1_moveTapeTo_29 rfl (lv_at hl 1 rfl) ?_
  refine lv_aload_n hx hb dX1_moveTapeTo_30 rfl (lv_at hl 0 rfl) ?_
  refine va_get (D := D) (ci := 1) (v := .int (nI tl)) (C := RX1) (T := TX1) (N := 7) hx hb hts hin_1 hown hK hP 0 rfl rfl 1 (by decide) lk_27 (fun _ h9 => h9) rfl dX1_moveTapeTo_31 ?_
  refine kb_iast hx hb hK hP hD hS 2 1 rfl rfl (i) (rfl) (by omega) (by decide) dX1_moveTapeTo_34 (fun H locs hP hD hS => ?_)
  rw [kn_upd] at hP hD
  have hP : va_P D vwCl (wk q cB cI tl lv (lb + tl - ll i) u_1.1 tp (va_up ll (i) (tl)) (pn id i (lfh tp tl)) u_1.2.1 u_1.2.2.1 u_1.2.2.2) H := hP
  have hD : va_D A (wk q cB cI tl lv (lb + tl - ll i) u_1.1 tp (va_up ll (i) (tl)) (pn id i (lfh tp tl)) u_1.2.1 u_1.2.2.1 u_1.2.2.2) := hD
  refine lv_aload_n hx hb dX1_moveTapeTo_35 rfl (lv_at hl 0 rfl) ?_
  refine lv_iconst (v := (nI (0))) hx hb dX1_moveTapeTo_36 (by decide) ?_
  refine va_put (D := D) (ci := 1) (v := .int (nI 0)) (ty := .int) (C := RX1) (T := TX1) (N := 7) hx hb hts hin_1 tyX1 tyX1_ok nmX1 hown hK hP hD hS 0 rfl rfl 1 (by decide) lk_27 (fun _ h9 => h9) rfl (by decide +kernel) rfl rfl (Nat.le_of_ble_eq_true rfl) dX1_moveTapeTo_37 (fun H locs hP hD hS => ?_)
  have hP : va_P D vwCl (wk q cB cI 0 lv (lb + tl - ll i) u_1.1 tp (va_up ll (i) (tl)) (pn id i (lfh tp tl)) u_1.2.1 u_1.2.2.1 u_1.2.2.2) H := hP
  have hD : va_D A (wk q cB cI 0 lv (lb + tl - ll i) u_1.1 tp (va_up ll (i) (tl)) (pn id i (lfh tp tl)) u_1.2.1 u_1.2.2.1 u_1.2.2.2) := hD
  refine lv_aload_n hx hb dX1_moveTapeTo_40 rfl (lv_at hl 0 rfl) ?_
  refine lv_iload_n hx hb dX1_moveTapeTo_41 rfl (lv_at hl 1 rfl) ?_
  refine kc_v (As := [.int (nI i)]) (rest := []) ⟨hx, hb, hml, hown, hts⟩ (c_refreshAbove l D A q cB cI 0 lv (lb + tl - ll i) u_1.1 tp (va_up ll (i) (tl)) (pn id i (lfh tp tl)) u_1.2.1 u_1.2.2.1 u_1.2.2.2 i (by omega) (by omega)) (cwV 1 hts gX1_moveTapeTo_X1_refreshAbove rfl rfl rfl (by decide +kernel) ⟨Nat.le_of_ble_eq_true rfl, Nat.le_of_ble_eq_true rfl⟩) (va_recv hK hP (ci := 1) (q0 := 0) rfl rfl) hK hP hD hS hZ rfl hl.1 rfl (Nat.le_of_ble_eq_true rfl) ⟨Nat.zero_le _, Nat.zero_le _⟩ dX1_moveTapeTo_42 (fun u_2 H locs _ hP hD hS => ?_)
  have hP : va_P D vwCl (wk q cB cI 0 lv (lb + tl - ll i) u_2.1 tp (va_up ll (i) (tl)) (rfa lv i (pn id i (lfh tp tl)) (rl lv)) u_2.2.1 u_2.2.2.1 u_2.2.2.2) H := hP
  have hD : va_D A (wk q cB cI 0 lv (lb + tl - ll i) u_2.1 tp (va_up ll (i) (tl)) (rfa lv i (pn id i (lfh tp tl)) (rl lv)) u_2.2.1 u_2.2.2.1 u_2.2.2.2) := hD
  exact kr_v (u_2) hx hb hr hlocks hK hP hD hS (trivial) dX1_moveTapeTo_45
end
section
set_option maxHeartbeats 4000000 in
set_option maxRecDepth 100000 in
theorem c_put_y (l : Launch) (D : va_G) (A : Nat → Prop) (q : Nat → Nat) (cB cI : ClassId) (tl lv lb ln : Nat) (tp : Nat → Int32) (ll : Nat → Nat) (id ms sc st : Nat → Int32) (v : Int64) (n : Nat) (h1 : 1 ≤ n) (h2 : n ≤ 8) (h3 : tl + n ≤ 150) : Ki (S := Unit) l yX1_put wsX1_put { frames := 0, cells := 0, slots := 0, locals := 0 } D vwCl [(cB, .byte), (cI, .int)] A (zk q) [.ref (q 0), .long v, .int (nI n)] (wk q cB cI tl lv lb ln tp ll id ms sc st) (fun r _ => r = ((1 : Int32))) (fun _ => (wk q cB cI (tl + n) lv lb ln (cat tp tl (pb v n) n) ll id ms sc st)) := by
  refine Met.ofW (cc := cX1_put) (maxL := 5) (ret := (some .boolean)) (by decide) rfl ?_
  intro p e s m args below meth c s₁ B hml hv
  obtain ⟨rfl, hP, hK, hD, hZ⟩ := hv
  have hx := B.exec
  have hb := B.bytes
  have hr := B.returns
  have hts := atoms_spec (ws := wsX1_put) B.pre
  have hown : s.vm.findClass RX1 = some m.cls := findClass_of_methodNamed B.named
  have hlocks := B.notSynchronized
  have hS : va_S A s.heap s.heap [] := va_S.rf
  have hin_1 : ∀ w ∈ u_ws RX1 TX1 7, w ∈ wsX1_put := by decide +kernel
  have lk_9 := hts (.fieldLink RX1 9 "RootDesk" "tape" "[B") (by decide +kernel)
  have lk_27 := hts (.fieldLink RX1 27 "RootDesk" "tapeLength" "I") (by decide +kernel)
  have hl := lv_entry ([.ref (q 0), .long v, .int (nI n)]) (n := 5) (Nat.le_of_ble_eq_true rfl)
  rw [lg_entry_eq]
  generalize (lg_sl ([.ref (q 0), .long v, .int (nI n)]) ++ List.replicate (5 - (lg_sl ([.ref (q 0), .long v, .int (nI n)])).length) Slot.unset).toArray = ls at hl ⊢
  have hl : lv_has ls 5 [(0, .ref (q 0)), (1, .long v), (3, .int (nI n))] := hl
  rw [← cat_0 tp tl (pb v n)] at hP hD
  refine lv_iload_n hx hb dX1_put_0 rfl (lv_at hl 2 rfl) ?_
  refine lv_iconst (v := (nI (1))) hx hb dX1_put_1 (by decide) ?_
  refine lv_icmp_lt (tgt := 23) hx hb dX1_put_2 (by decide) (fun c_2 => absurd (kn_lt c_2 (by omega) (by omega)) (by omega)) (fun c_2 => ?_)
  have c_2 : 1 ≤ n := kn_nlt c_2 (by omega) (by omega)
  refine lv_iload_n hx hb dX1_put_5 rfl (lv_at hl 2 rfl) ?_
  refine lv_bipush (v := (nI (8))) hx hb dX1_put_6 (by decide) ?_
  refine lv_icmp_gt (tgt := 23) hx hb dX1_put_8 (by decide) (fun c_8 => absurd (kn_lt c_8 (by omega) (by omega)) (by omega)) (fun c_8 => ?_)
  have c_8 : n ≤ 8 := kn_nlt c_8 (by omega) (by omega)
  refine lv_aload_n hx hb dX1_put_11 rfl (lv_at hl 0 rfl) ?_
  refine va_get (D := D) (ci := 1) (v := .int (nI tl)) (C := RX1) (T := TX1) (N := 7) hx hb hts hin_1 hown hK hP 0 rfl rfl 1 (by decide) lk_27 (fun _ h9 => h9) rfl dX1_put_12 ?_
  refine lv_iload_n hx hb dX1_put_15 rfl (lv_at hl 2 rfl) ?_
  refine lv_iadd hx hb dX1_put_16 ?_
  refine kp_i (nI_add _ _) ?_
  refine lv_sipush (v := (nI (150))) hx hb dX1_put_17 (by decide) ?_
  refine lv_icmp_le (tgt := 25) hx hb dX1_put_20 (by decide) (fun c_20 => ?_) (fun c_20 => absurd (kn_nle c_20 (by omega) (by omega)) (by omega))
  have c_20 : (tl + n) ≤ 150 := kn_le c_20 (by omega) (by omega)
  refine lv_iconst (v := (nI (0))) hx hb dX1_put_25 (by decide) ?_
  refine lv_istore (lv' := [(4, .int (nI 0)), (0, .ref (q 0)), (1, .long v), (3, .int (nI n))]) hx hb dX1_put_26 hl (by decide) rfl (fun ls hl => ?_)
  refine kp_lp (hd := 28) (nn := n) (fun (i : Nat) (H : Heap) (locs : List Loc) (ls : Array Slot) => va_P D vwCl (wk q cB cI tl lv lb ln (cat tp tl (pb v n) i) ll id ms sc st) H ∧ va_D A (wk q cB cI tl lv lb ln (cat tp tl (pb v n) i) ll id ms sc st) ∧ va_S A s.heap H locs ∧ lv_has ls 5 [(0, .ref (q 0)), (1, .long v), (3, .int (nI n)), (4, .int (nI i))]) ?_ 0 (by omega) _ _ _ ⟨hP, hD, hS, (lv_sub hl [1, 2, 3, 0] rfl)⟩
  intro i hiN H locs ls hI ih
  obtain ⟨hP, hD, hS, hl⟩ := hI
  refine lv_iload hx hb dX1_put_28 (lv_at hl 3 rfl) ?_
  refine lv_iload_n hx hb dX1_put_30 rfl (lv_at hl 2 rfl) ?_
  refine lv_icmp_ge (tgt := 65) hx hb dX1_put_31 (by decide) (fun c_31 => ?_) (fun c_31 => ?_)
  · have c_31 : n ≤ i := kn_le c_31 (by omega) (by omega)
    have e9 : n = i := by omega
    subst e9
    refine lv_aload_n hx hb dX1_put_65 rfl (lv_at hl 0 rfl) ?_
    refine lv_dup hx hb dX1_put_66 rfl ?_
    refine va_get (D := D) (ci := 1) (v := .int (nI tl)) (C := RX1) (T := TX1) (N := 7) hx hb hts hin_1 hown hK hP 0 rfl rfl 1 (by decide) lk_27 (fun _ h9 => h9) rfl dX1_put_67 ?_
    refine lv_iload_n hx hb dX1_put_70 rfl (lv_at hl 2 rfl) ?_
    refine lv_iadd hx hb dX1_put_71 ?_
    refine kp_i (nI_add _ _) ?_
    refine va_put (D := D) (ci := 1) (v := .int (nI (tl + n))) (ty := .int) (C := RX1) (T := TX1) (N := 7) hx hb hts hin_1 tyX1 tyX1_ok nmX1 hown hK hP hD hS 0 rfl rfl 1 (by decide) lk_27 (fun _ h9 => h9) rfl (by decide +kernel) rfl rfl (Nat.le_of_ble_eq_true rfl) dX1_put_72 (fun H locs hP hD hS => ?_)
    have hP : va_P D vwCl (wk q cB cI (tl + n) lv lb ln (cat tp tl (pb v n) n) ll id ms sc st) H := hP
    have hD : va_D A (wk q cB cI (tl + n) lv lb ln (cat tp tl (pb v n) n) ll id ms sc st) := hD
    refine lv_iconst (v := ((1 : Int32))) hx hb dX1_put_75 (by decide) ?_
    exact kr_z (()) hx hb hr hlocks hK hP hD hS (rfl) (rfl) dX1_put_76
  · have c_31 : i < n := kn_nle c_31 (by omega) (by omega)
    have hlt : i < n := c_31
    refine lv_aload_n hx hb dX1_put_34 rfl (lv_at hl 0 rfl) ?_
    refine va_get (D := D) (ci := 1) (v := .ref (q 1)) (C := RX1) (T := TX1) (N := 7) hx hb hts hin_1 hown hK hP 0 rfl rfl 0 (by decide) lk_9 (fun _ h9 => h9) rfl dX1_put_35 ?_
    refine lv_aload_n hx hb dX1_put_38 rfl (lv_at hl 0 rfl) ?_
    refine va_get (D := D) (ci := 1) (v := .int (nI tl)) (C := RX1) (T := TX1) (N := 7) hx hb hts hin_1 hown hK hP 0 rfl rfl 1 (by decide) lk_27 (fun _ h9 => h9) rfl dX1_put_39 ?_
    refine lv_iload hx hb dX1_put_42 (lv_at hl 3 rfl) ?_
    refine lv_iadd hx hb dX1_put_44 ?_
    refine kp_i (nI_add _ _) ?_
    refine lv_lload_n hx hb dX1_put_45 rfl (lv_at hl 1 rfl) ?_
    refine lv_bipush (v := (nI (8))) hx hb dX1_put_46 (by decide) ?_
    refine lv_iload_n hx hb dX1_put_48 rfl (lv_at hl 2 rfl) ?_
    refine lv_iconst (v := (nI (1))) hx hb dX1_put_49 (by decide) ?_
    refine lv_isub hx hb dX1_put_50 ?_
    refine kp_i (pk_sub (by omega)) ?_
    refine lv_iload hx hb dX1_put_51 (lv_at hl 3 rfl) ?_
    refine lv_isub hx hb dX1_put_53 ?_
    refine kp_i (pk_sub (by omega)) ?_
    refine lv_imul hx hb dX1_put_54 ?_
    refine kp_i (pk_mul _ _) ?_
    refine lv_lushr hx hb dX1_put_55 rfl ?_
    refine lv_l2i hx hb dX1_put_56 rfl ?_
    refine lv_i2b hx hb dX1_put_57 rfl ?_
    refine kb_bast hx hb hK hP hD hS 1 0 rfl rfl (tl + i) (rfl) (by omega) (by decide) (pk_vb _) dX1_put_58 (fun H locs hP hD hS => ?_)
    have hP : va_P D vwCl (wk q cB cI tl lv lb ln (upd (cat tp tl (pb v n) i) (tl + i) (((((((((v)).toUInt64 >>> (((nI (8 * ((n - 1) - i)))).toInt64.toUInt64 &&& Int64.toUInt64 63)).toInt64)).toInt32)).toInt8.toInt32))) ll id ms sc st) H := hP
    have hD : va_D A (wk q cB cI tl lv lb ln (upd (cat tp tl (pb v n) i) (tl + i) (((((((((v)).toUInt64 >>> (((nI (8 * ((n - 1) - i)))).toInt64.toUInt64 &&& Int64.toUInt64 63)).toInt64)).toInt32)).toInt8.toInt32))) ll id ms sc st) := hD
    rw [cat_s tp tl (pb v n) i (x := (((v.toUInt64 >>> ((nI (8 * (n - 1 - i))).toInt64.toUInt64 &&& Int64.toUInt64 63)).toInt64).toInt32).toInt8.toInt32) rfl] at hP hD
    have hP : va_P D vwCl (wk q cB cI tl lv lb ln (cat tp tl (pb v n) (i + 1)) ll id ms sc st) H := hP
    have hD : va_D A (wk q cB cI tl lv lb ln (cat tp tl (pb v n) (i + 1)) ll id ms sc st) := hD
    refine lv_iinc (v := (nI (i + 1))) (lv' := [(4, .int (nI (i + 1))), (0, .ref (q 0)), (1, .long v), (3, .int (nI n))]) hx hb dX1_put_59 hl (k := 3) rfl (kn_inc _ _ 1 rfl) (by decide) rfl (fun ls hl => ?_)
    refine lv_goto (tgt := 28) hx hb dX1_put_62 (by decide) ?_
    exact ih hlt _ _ _ ⟨hP, hD, hS, (lv_sub hl [1, 2, 3, 0] rfl)⟩

set_option maxHeartbeats 4000000 in
set_option maxRecDepth 100000 in
theorem c_put_n (l : Launch) (D : va_G) (A : Nat → Prop) (q : Nat → Nat) (cB cI : ClassId) (tl lv lb ln : Nat) (tp : Nat → Int32) (ll : Nat → Nat) (id ms sc st : Nat → Int32) (v : Int64) (x : Int32) (h1 : tl ≤ 150) (h2 : ∀ n : Nat, 1 ≤ n → n ≤ 8 → x = nI n → 150 < tl + n) : Ki (S := Unit) l yX1_put wsX1_put { frames := 0, cells := 0, slots := 0, locals := 0 } D vwCl [(cB, .byte), (cI, .int)] A (zk q) [.ref (q 0), .long v, .int x] (wk q cB cI tl lv lb ln tp ll id ms sc st) (fun r _ => r = ((0 : Int32))) (fun _ => (wk q cB cI tl lv lb ln tp ll id ms sc st)) := by
  refine Met.ofW (cc := cX1_put) (maxL := 5) (ret := (some .boolean)) (by decide) rfl ?_
  intro p e s m args below meth c s₁ B hml hv
  obtain ⟨rfl, hP, hK, hD, hZ⟩ := hv
  have hx := B.exec
  have hb := B.bytes
  have hr := B.returns
  have hts := atoms_spec (ws := wsX1_put) B.pre
  have hown : s.vm.findClass RX1 = some m.cls := findClass_of_methodNamed B.named
  have hlocks := B.notSynchronized
  have hS : va_S A s.heap s.heap [] := va_S.rf
  have hin_1 : ∀ w ∈ u_ws RX1 TX1 7, w ∈ wsX1_put := by decide +kernel
  have lk_27 := hts (.fieldLink RX1 27 "RootDesk" "tapeLength" "I") (by decide +kernel)
  have hl := lv_entry ([.ref (q 0), .long v, .int x]) (n := 5) (Nat.le_of_ble_eq_true rfl)
  rw [lg_entry_eq]
  generalize (lg_sl ([.ref (q 0), .long v, .int x]) ++ List.replicate (5 - (lg_sl ([.ref (q 0), .long v, .int x])).length) Slot.unset).toArray = ls at hl ⊢
  have hl : lv_has ls 5 [(0, .ref (q 0)), (1, .long v), (3, .int x)] := hl
  refine lv_iload_n hx hb dX1_put_0 rfl (lv_at hl 2 rfl) ?_
  refine lv_iconst (v := ((1 : Int32))) hx hb dX1_put_1 (by decide) ?_
  refine lv_icmp_lt (tgt := 23) hx hb dX1_put_2 (by decide) (fun c_2 => ?_) (fun c_2 => ?_)
  · refine lv_iconst (v := ((0 : Int32))) hx hb dX1_put_23 (by decide) ?_
    exact kr_z (()) hx hb hr hlocks hK hP hD hS (rfl) (rfl) dX1_put_24
  · refine lv_iload_n hx hb dX1_put_5 rfl (lv_at hl 2 rfl) ?_
    refine lv_bipush (v := ((8 : Int32))) hx hb dX1_put_6 (by decide) ?_
    refine lv_icmp_gt (tgt := 23) hx hb dX1_put_8 (by decide) (fun c_8 => ?_) (fun c_8 => ?_)
    · refine lv_iconst (v := ((0 : Int32))) hx hb dX1_put_23 (by decide) ?_
      exact kr_z (()) hx hb hr hlocks hK hP hD hS (rfl) (rfl) dX1_put_24
    · obtain ⟨n, hn1, hn8, rfl⟩ := put_n c_2 c_8
      have h3 := h2 n hn1 hn8 rfl
      refine lv_aload_n hx hb dX1_put_11 rfl (lv_at hl 0 rfl) ?_
      refine va_get (D := D) (ci := 1) (v := .int (nI tl)) (C := RX1) (T := TX1) (N := 7) hx hb hts hin_1 hown hK hP 0 rfl rfl 1 (by decide) lk_27 (fun _ h9 => h9) rfl dX1_put_12 ?_
      refine lv_iload_n hx hb dX1_put_15 rfl (lv_at hl 2 rfl) ?_
      refine lv_iadd hx hb dX1_put_16 ?_
      refine kp_i (nI_add _ _) ?_
      refine lv_sipush (v := (nI (150))) hx hb dX1_put_17 (by decide) ?_
      refine lv_icmp_le (tgt := 25) hx hb dX1_put_20 (by decide) (fun c_20 => absurd (kn_le c_20 (by omega) (by omega)) (by omega)) (fun c_20 => ?_)
      have c_20 : 150 < (tl + n) := kn_nle c_20 (by omega) (by omega)
      refine lv_iconst (v := ((0 : Int32))) hx hb dX1_put_23 (by decide) ?_
      exact kr_z (()) hx hb hr hlocks hK hP hD hS (rfl) (rfl) dX1_put_24

set_option maxHeartbeats 4000000 in
set_option maxRecDepth 100000 in
theorem c_hash (l : Launch) (D : va_G) (A : Nat → Prop) (q : Nat → Nat) (cB cI : ClassId) (tl lv lb ln : Nat) (tp : Nat → Int32) (ll : Nat → Nat) (id ms sc st : Nat → Int32) (x : Int32) (h1 : tl ≤ 150) : Kl (S := (Nat × (Nat → Int32) × (Nat → Int32) × (Nat → Int32))) l yX1_hash wsX1_hash { frames := 3, cells := 0, slots := 0, locals := 78 } D vwCl [(cB, .byte), (cI, .int)] A (zk q) [.ref (q 0), .int x] (wk q cB cI tl lv lb ln tp ll id ms sc st) (fun r _ => r = e8 (hsh tp tl) x) (fun u => (wk q cB cI tl lv lb u.1 tp ll (pn id 202 (hsh tp tl)) u.2.1 u.2.2.1 u.2.2.2)) := by
  refine Met.ofW (cc := cX1_hash) (maxL := 2) (ret := (some .long)) (by decide) rfl ?_
  intro p e s m args below meth c s₁ B hml hv
  obtain ⟨rfl, hP, hK, hD, hZ⟩ := hv
  have hx := B.exec
  have hb := B.bytes
  have hr := B.returns
  have hts := atoms_spec (ws := wsX1_hash) B.pre
  have hown : s.vm.findClass RX1 = some m.cls := findClass_of_methodNamed B.named
  have hlocks := B.notSynchronized
  have hS : va_S A s.heap s.heap [] := va_S.rf
  have hin_1 : ∀ w ∈ u_ws RX1 TX1 7, w ∈ wsX1_hash := by decide +kernel
  have lk_9 := hts (.fieldLink RX1 9 "RootDesk" "tape" "[B") (by decide +kernel)
  have lk_17 := hts (.fieldLink RX1 17 "RootDesk" "ids" "[I") (by decide +kernel)
  have lk_23 := hts (.fieldLink RX1 23 "RootDesk" "digest" "LRootDesk$Digest;") (by decide +kernel)
  have lk_27 := hts (.fieldLink RX1 27 "RootDesk" "tapeLength" "I") (by decide +kernel)
  have hl := lv_entry ([.ref (q 0), .int x]) (n := 2) (Nat.le_of_ble_eq_true rfl)
  rw [lg_entry_eq]
  generalize (lg_sl ([.ref (q 0), .int x]) ++ List.replicate (2 - (lg_sl ([.ref (q 0), .int x])).length) Slot.unset).toArray = ls at hl ⊢
  have hl : lv_has ls 2 [(0, .ref (q 0)), (1, .int x)] := hl
  refine lv_aload_n hx hb dX1_hash_0 rfl (lv_at hl 0 rfl) ?_
  refine va_get (D := D) (ci := 1) (v := .ref (q 4)) (C := RX1) (T := TX1) (N := 7) hx hb hts hin_1 hown hK hP 0 rfl rfl 6 (by decide) lk_23 (fun _ h9 => h9) rfl dX1_hash_1 ?_
  refine kc_v (As := []) (rest := []) ⟨hx, hb, hml, hown, hts⟩ (c_D_begin l D A q cB cI tl lv lb ln tp ll id ms sc st) (cwV 0 hts gX1_hash_X0_begin rfl rfl rfl (by decide +kernel) ⟨Nat.le_of_ble_eq_true rfl, Nat.le_of_ble_eq_true rfl⟩) (va_recv hK hP (ci := 0) (q0 := 4) rfl rfl) hK hP hD hS hZ rfl hl.1 rfl (Nat.le_of_ble_eq_true rfl) ⟨Nat.zero_le _, Nat.zero_le _⟩ dX1_hash_4 (fun _ H locs _ hP hD hS => ?_)
  have hP : va_P D vwCl (wk q cB cI tl lv lb 0 tp ll id ms sc st) H := hP
  have hD : va_D A (wk q cB cI tl lv lb 0 tp ll id ms sc st) := hD
  refine lv_aload_n hx hb dX1_hash_7 rfl (lv_at hl 0 rfl) ?_
  refine va_get (D := D) (ci := 1) (v := .ref (q 4)) (C := RX1) (T := TX1) (N := 7) hx hb hts hin_1 hown hK hP 0 rfl rfl 6 (by decide) lk_23 (fun _ h9 => h9) rfl dX1_hash_8 ?_
  refine lv_aload_n hx hb dX1_hash_11 rfl (lv_at hl 0 rfl) ?_
  refine va_get (D := D) (ci := 1) (v := .ref (q 1)) (C := RX1) (T := TX1) (N := 7) hx hb hts hin_1 hown hK hP 0 rfl rfl 0 (by decide) lk_9 (fun _ h9 => h9) rfl dX1_hash_12 ?_
  refine lv_aload_n hx hb dX1_hash_15 rfl (lv_at hl 0 rfl) ?_
  refine va_get (D := D) (ci := 1) (v := .int (nI tl)) (C := RX1) (T := TX1) (N := 7) hx hb hts hin_1 hown hK hP 0 rfl rfl 1 (by decide) lk_27 (fun _ h9 => h9) rfl dX1_hash_16 ?_
  refine kc_v (As := [.ref (q 1), .int (nI tl)]) (rest := []) ⟨hx, hb, hml, hown, hts⟩ (c_D_takeBytes l D A q cB cI tl lv lb 0 tp ll id ms sc st tl (by omega) (by omega)) (cwV 2 hts gX1_hash_X0_takeBytes rfl rfl rfl (by decide +kernel) ⟨Nat.le_of_ble_eq_true rfl, Nat.le_of_ble_eq_true rfl⟩) (va_recv hK hP (ci := 0) (q0 := 4) rfl rfl) hK hP hD hS hZ rfl hl.1 rfl (Nat.le_of_ble_eq_true rfl) ⟨Nat.zero_le _, Nat.zero_le _⟩ dX1_hash_19 (fun _ H locs _ hP hD hS => ?_)
  have hP : va_P D vwCl (wk q cB cI tl lv lb (0 + tl) tp ll id (cat ms 0 (fun j => (tp j).toInt8.toInt32) tl) sc st) H := hP
  have hD : va_D A (wk q cB cI tl lv lb (0 + tl) tp ll id (cat ms 0 (fun j => (tp j).toInt8.toInt32) tl) sc st) := hD
  refine lv_aload_n hx hb dX1_hash_22 rfl (lv_at hl 0 rfl) ?_
  refine va_get (D := D) (ci := 1) (v := .ref (q 4)) (C := RX1) (T := TX1) (N := 7) hx hb hts hin_1 hown hK hP 0 rfl rfl 6 (by decide) lk_23 (fun _ h9 => h9) rfl dX1_hash_23 ?_
  refine lv_aload_n hx hb dX1_hash_26 rfl (lv_at hl 0 rfl) ?_
  refine va_get (D := D) (ci := 1) (v := .ref (q 3)) (C := RX1) (T := TX1) (N := 7) hx hb hts hin_1 hown hK hP 0 rfl rfl 5 (by decide) lk_17 (fun _ h9 => h9) rfl dX1_hash_27 ?_
  refine lv_sipush (v := (nI (202 * 8))) hx hb dX1_hash_30 (by decide) ?_
  refine kc_v (As := [.ref (q 3), .int (nI (202 * 8))]) (rest := []) ⟨hx, hb, hml, hown, hts⟩ (c_D_finishInto l D A q cB cI tl lv lb (0 + tl) tp ll id (cat ms 0 (fun j => (tp j).toInt8.toInt32) tl) sc st (202 * 8) (by omega) (pl_fit (by omega))) (cwV 2 hts gX1_hash_X0_finishInto rfl rfl rfl (by decide +kernel) ⟨Nat.le_of_ble_eq_true rfl, Nat.le_of_ble_eq_true rfl⟩) (va_recv hK hP (ci := 0) (q0 := 4) rfl rfl) hK hP hD hS hZ rfl hl.1 rfl (Nat.le_of_ble_eq_true rfl) ⟨Nat.zero_le _, Nat.zero_le _⟩ dX1_hash_33 (fun u_3 H locs _ hP hD hS => ?_)
  have hP : va_P D vwCl (wk q cB cI tl lv lb u_3.1 tp ll (cat id (202 * 8) (hm (cat ms 0 (fun j => (tp j).toInt8.toInt32) tl) (0 + tl)) 8) u_3.2.1 u_3.2.2.1 u_3.2.2.2) H := hP
  have hD : va_D A (wk q cB cI tl lv lb u_3.1 tp ll (cat id (202 * 8) (hm (cat ms 0 (fun j => (tp j).toInt8.toInt32) tl) (0 + tl)) 8) u_3.2.1 u_3.2.2.1 u_3.2.2.2) := hD
  rw [hash_eq] at hP hD
  have hP : va_P D vwCl (wk q cB cI tl lv lb u_3.1 tp ll (pn id 202 (hsh tp tl)) u_3.2.1 u_3.2.2.1 u_3.2.2.2) H := hP
  have hD : va_D A (wk q cB cI tl lv lb u_3.1 tp ll (pn id 202 (hsh tp tl)) u_3.2.1 u_3.2.2.1 u_3.2.2.2) := hD
  refine lv_aload_n hx hb dX1_hash_36 rfl (lv_at hl 0 rfl) ?_
  refine lv_sipush (v := (nI (202))) hx hb dX1_hash_37 (by decide) ?_
  refine lv_iload_n hx hb dX1_hash_40 rfl (lv_at hl 1 rfl) ?_
  refine kc_l (As := [.int (nI 202), .int x]) (rest := []) ⟨hx, hb, hml, hown, hts⟩ (c_eightBytes l D A q cB cI tl lv lb u_3.1 tp ll (pn id 202 (hsh tp tl)) u_3.2.1 u_3.2.2.1 u_3.2.2.2 202 ((x)) (by omega)) (cwV 2 hts gX1_hash_X1_eightBytes rfl rfl rfl (by decide +kernel) ⟨Nat.le_of_ble_eq_true rfl, Nat.le_of_ble_eq_true rfl⟩) (va_recv hK hP (ci := 1) (q0 := 0) rfl rfl) hK hP hD hS hZ rfl hl.1 rfl (Nat.le_of_ble_eq_true rfl) ⟨Nat.zero_le _, Nat.zero_le _⟩ dX1_hash_41 (fun r_4 _ H locs hw hP hD hS => ?_)
  have hw : r_4 = (e8 (nd (pn id 202 (hsh tp tl)) 202) (x)) := hw
  subst hw
  have hP : va_P D vwCl (wk q cB cI tl lv lb u_3.1 tp ll (pn id 202 (hsh tp tl)) u_3.2.1 u_3.2.2.1 u_3.2.2.2) H := hP
  have hD : va_D A (wk q cB cI tl lv lb u_3.1 tp ll (pn id 202 (hsh tp tl)) u_3.2.1 u_3.2.2.1 u_3.2.2.2) := hD
  exact kr_l (u_3) hx hb hr hlocks hK hP hD hS (e8_congr (fun j hj => pn_same _ _ _ hj) _) dX1_hash_44

set_option maxHeartbeats 4000000 in
set_option maxRecDepth 100000 in
theorem c_add_y (l : Launch) (D : va_G) (A : Nat → Prop) (q : Nat → Nat) (cB cI : ClassId) (tl lv lb ln : Nat) (tp : Nat → Int32) (ll : Nat → Nat) (id ms sc st : Nat → Int32) (h1 : lv < 100) (h2 : tl ≤ 150) (h4 : lb < 2 ^ 30) : Ki (S := (Nat × (Nat → Int32) × (Nat → Int32) × (Nat → Int32))) l yX1_add wsX1_add { frames := 6, cells := 0, slots := 0, locals := 148 } D vwCl [(cB, .byte), (cI, .int)] A (zk q) [.ref (q 0)] (wk q cB cI tl lv lb ln tp ll id ms sc st) (fun r _ => r = nI lv) (fun u => (wk q cB cI 0 (lv + 1) (lb + tl) u.1 tp (va_up ll lv tl) (rfa (lv + 1) lv (pn id lv (lfh tp tl)) (rl (lv + 1))) u.2.1 u.2.2.1 u.2.2.2)) := by
  refine Met.ofW (cc := cX1_add) (maxL := 2) (ret := (some .int)) (by decide) rfl ?_
  intro p e s m args below meth c s₁ B hml hv
  obtain ⟨rfl, hP, hK, hD, hZ⟩ := hv
  have hx := B.exec
  have hb := B.bytes
  have hr := B.returns
  have hts := atoms_spec (ws := wsX1_add) B.pre
  have hown : s.vm.findClass RX1 = some m.cls := findClass_of_methodNamed B.named
  have hlocks := B.notSynchronized
  have hS : va_S A s.heap s.heap [] := va_S.rf
  have hin_1 : ∀ w ∈ u_ws RX1 TX1 7, w ∈ wsX1_add := by decide +kernel
  have lk_13 := hts (.fieldLink RX1 13 "RootDesk" "leafLengths" "[I") (by decide +kernel)
  have lk_31 := hts (.fieldLink RX1 31 "RootDesk" "leaves" "I") (by decide +kernel)
  have hl := lv_entry ([.ref (q 0)]) (n := 2) (Nat.le_of_ble_eq_true rfl)
  rw [lg_entry_eq]
  generalize (lg_sl ([.ref (q 0)]) ++ List.replicate (2 - (lg_sl ([.ref (q 0)])).length) Slot.unset).toArray = ls at hl ⊢
  have hl : lv_has ls 2 [(0, .ref (q 0))] := hl
  refine lv_aload_n hx hb dX1_add_0 rfl (lv_at hl 0 rfl) ?_
  refine va_get (D := D) (ci := 1) (v := .int (nI lv)) (C := RX1) (T := TX1) (N := 7) hx hb hts hin_1 hown hK hP 0 rfl rfl 3 (by decide) lk_31 (fun _ h9 => h9) rfl dX1_add_1 ?_
  refine lv_bipush (v := (nI (100))) hx hb dX1_add_4 (by decide) ?_
  refine lv_icmp_lt (tgt := 11) hx hb dX1_add_6 (by decide) (fun c_6 => ?_) (fun c_6 => absurd c_6 (fun h => h (nI_lt h1 (by decide))))
  have c_6 : lv < 100 := kn_lt c_6 (by omega) (by omega)
  refine lv_aload_n hx hb dX1_add_11 rfl (lv_at hl 0 rfl) ?_
  refine va_get (D := D) (ci := 1) (v := .int (nI lv)) (C := RX1) (T := TX1) (N := 7) hx hb hts hin_1 hown hK hP 0 rfl rfl 3 (by decide) lk_31 (fun _ h9 => h9) rfl dX1_add_12 ?_
  refine lv_istore_n (lv' := [(1, .int (nI lv)), (0, .ref (q 0))]) hx hb dX1_add_15 rfl hl (by decide) rfl (fun ls hl => ?_)
  refine lv_aload_n hx hb dX1_add_16 rfl (lv_at hl 1 rfl) ?_
  refine va_get (D := D) (ci := 1) (v := .ref (q 2)) (C := RX1) (T := TX1) (N := 7) hx hb hts hin_1 hown hK hP 0 rfl rfl 2 (by decide) lk_13 (fun _ h9 => h9) rfl dX1_add_17 ?_
  refine lv_iload_n hx hb dX1_add_20 rfl (lv_at hl 0 rfl) ?_
  refine lv_iconst (v := (nI (0))) hx hb dX1_add_21 (by decide) ?_
  refine kb_iast hx hb hK hP hD hS 2 1 rfl rfl (lv) (rfl) (by omega) (by decide) dX1_add_22 (fun H locs hP hD hS => ?_)
  rw [kn_upd] at hP hD
  have hP : va_P D vwCl (wk q cB cI tl lv lb ln tp (va_up ll (lv) (0)) id ms sc st) H := hP
  have hD : va_D A (wk q cB cI tl lv lb ln tp (va_up ll (lv) (0)) id ms sc st) := hD
  refine lv_aload_n hx hb dX1_add_23 rfl (lv_at hl 1 rfl) ?_
  refine lv_dup hx hb dX1_add_24 rfl ?_
  refine va_get (D := D) (ci := 1) (v := .int (nI lv)) (C := RX1) (T := TX1) (N := 7) hx hb hts hin_1 hown hK hP 0 rfl rfl 3 (by decide) lk_31 (fun _ h9 => h9) rfl dX1_add_25 ?_
  refine lv_iconst (v := (nI (1))) hx hb dX1_add_28 (by decide) ?_
  refine lv_iadd hx hb dX1_add_29 ?_
  refine kp_i (nI_add _ _) ?_
  refine va_put (D := D) (ci := 1) (v := .int (nI (lv + 1))) (ty := .int) (C := RX1) (T := TX1) (N := 7) hx hb hts hin_1 tyX1 tyX1_ok nmX1 hown hK hP hD hS 0 rfl rfl 3 (by decide) lk_31 (fun _ h9 => h9) rfl (by decide +kernel) rfl rfl (Nat.le_of_ble_eq_true rfl) dX1_add_30 (fun H locs hP hD hS => ?_)
  have hP : va_P D vwCl (wk q cB cI tl (lv + 1) lb ln tp (va_up ll (lv) (0)) id ms sc st) H := hP
  have hD : va_D A (wk q cB cI tl (lv + 1) lb ln tp (va_up ll (lv) (0)) id ms sc st) := hD
  refine lv_aload_n hx hb dX1_add_33 rfl (lv_at hl 1 rfl) ?_
  refine lv_iload_n hx hb dX1_add_34 rfl (lv_at hl 0 rfl) ?_
  refine kc_v (As := [.int (nI lv)]) (rest := []) ⟨hx, hb, hml, hown, hts⟩ (c_moveTapeTo l D A q cB cI tl (lv + 1) lb ln tp (va_up ll (lv) (0)) id ms sc st lv (by omega) (by omega) (by omega) (by rw [va_up_self]; omega)) (cwV 1 hts gX1_add_X1_moveTapeTo rfl rfl rfl (by decide +kernel) ⟨Nat.le_of_ble_eq_true rfl, Nat.le_of_ble_eq_true rfl⟩) (va_recv hK hP (ci := 1) (q0 := 0) rfl rfl) hK hP hD hS hZ rfl hl.1 rfl (Nat.le_of_ble_eq_true rfl) ⟨Nat.zero_le _, Nat.zero_le _⟩ dX1_add_35 (fun u_1 H locs _ hP hD hS => ?_)
  have hP : va_P D vwCl (wk q cB cI 0 (lv + 1) (lb + tl - (va_up ll (lv) (0)) lv) u_1.1 tp (va_up (va_up ll (lv) (0)) lv tl) (rfa (lv + 1) lv (pn id lv (lfh tp tl)) (rl (lv + 1))) u_1.2.1 u_1.2.2.1 u_1.2.2.2) H := hP
  have hD : va_D A (wk q cB cI 0 (lv + 1) (lb + tl - (va_up ll (lv) (0)) lv) u_1.1 tp (va_up (va_up ll (lv) (0)) lv tl) (rfa (lv + 1) lv (pn id lv (lfh tp tl)) (rl (lv + 1))) u_1.2.1 u_1.2.2.1 u_1.2.2.2) := hD
  rw [va_up_self, upup, Nat.sub_zero] at hP hD
  have hP : va_P D vwCl (wk q cB cI 0 (lv + 1) (lb + tl) u_1.1 tp (va_up ll lv tl) (rfa (lv + 1) lv (pn id lv (lfh tp tl)) (rl (lv + 1))) u_1.2.1 u_1.2.2.1 u_1.2.2.2) H := hP
  have hD : va_D A (wk q cB cI 0 (lv + 1) (lb + tl) u_1.1 tp (va_up ll lv tl) (rfa (lv + 1) lv (pn id lv (lfh tp tl)) (rl (lv + 1))) u_1.2.1 u_1.2.2.1 u_1.2.2.2) := hD
  refine lv_iload_n hx hb dX1_add_38 rfl (lv_at hl 0 rfl) ?_
  exact kr_i (u_1) hx hb hr hlocks hK hP hD hS (rfl) dX1_add_39

set_option maxHeartbeats 4000000 in
set_option maxRecDepth 100000 in
theorem c_add_n (l : Launch) (D : va_G) (A : Nat → Prop) (q : Nat → Nat) (cB cI : ClassId) (tl lv lb ln : Nat) (tp : Nat → Int32) (ll : Nat → Nat) (id ms sc st : Nat → Int32) : Ki (S := Unit) l yX1_add wsX1_add { frames := 6, cells := 0, slots := 0, locals := 148 } D vwCl [(cB, .byte), (cI, .int)] A (zk q) [.ref (q 0)] (wk q cB cI tl 100 lb ln tp ll id ms sc st) (fun r _ => r = ((-1 : Int32))) (fun _ => (wk q cB cI tl 100 lb ln tp ll id ms sc st)) := by
  refine Met.ofW (cc := cX1_add) (maxL := 2) (ret := (some .int)) (by decide) rfl ?_
  intro p e s m args below meth c s₁ B hml hv
  obtain ⟨rfl, hP, hK, hD, hZ⟩ := hv
  have hx := B.exec
  have hb := B.bytes
  have hr := B.returns
  have hts := atoms_spec (ws := wsX1_add) B.pre
  have hown : s.vm.findClass RX1 = some m.cls := findClass_of_methodNamed B.named
  have hlocks := B.notSynchronized
  have hS : va_S A s.heap s.heap [] := va_S.rf
  have hin_1 : ∀ w ∈ u_ws RX1 TX1 7, w ∈ wsX1_add := by decide +kernel
  have lk_31 := hts (.fieldLink RX1 31 "RootDesk" "leaves" "I") (by decide +kernel)
  have hl := lv_entry ([.ref (q 0)]) (n := 2) (Nat.le_of_ble_eq_true rfl)
  rw [lg_entry_eq]
  generalize (lg_sl ([.ref (q 0)]) ++ List.replicate (2 - (lg_sl ([.ref (q 0)])).length) Slot.unset).toArray = ls at hl ⊢
  have hl : lv_has ls 2 [(0, .ref (q 0))] := hl
  refine lv_aload_n hx hb dX1_add_0 rfl (lv_at hl 0 rfl) ?_
  refine va_get (D := D) (ci := 1) (v := .int (nI 100)) (C := RX1) (T := TX1) (N := 7) hx hb hts hin_1 hown hK hP 0 rfl rfl 3 (by decide) lk_31 (fun _ h9 => h9) rfl dX1_add_1 ?_
  refine lv_bipush (v := (nI (100))) hx hb dX1_add_4 (by decide) ?_
  refine lv_icmp_lt (tgt := 11) hx hb dX1_add_6 (by decide) (fun c_6 => absurd c_6 (by decide)) (fun c_6 => ?_)
  have c_6 : 100 ≤ 100 := kn_nlt c_6 (by omega) (by omega)
  refine lv_iconst (v := ((-1 : Int32))) hx hb dX1_add_9 (by decide) ?_
  exact kr_i (()) hx hb hr hlocks hK hP hD hS (rfl) dX1_add_10

set_option maxHeartbeats 4000000 in
set_option maxRecDepth 100000 in
theorem c_change_y (l : Launch) (D : va_G) (A : Nat → Prop) (q : Nat → Nat) (cB cI : ClassId) (tl lv lb ln : Nat) (tp : Nat → Int32) (ll : Nat → Nat) (id ms sc st : Nat → Int32) (i : Nat) (h1 : i < lv) (h2 : lv ≤ 100) (h3 : tl ≤ 150) (h4 : ll i ≤ lb + tl) : Ki (S := (Nat × (Nat → Int32) × (Nat → Int32) × (Nat → Int32))) l yX1_change wsX1_change { frames := 6, cells := 0, slots := 0, locals := 148 } D vwCl [(cB, .byte), (cI, .int)] A (zk q) [.ref (q 0), .int (nI i)] (wk q cB cI tl lv lb ln tp ll id ms sc st) (fun r _ => r = 1) (fun u => (wk q cB cI 0 lv (lb + tl - ll i) u.1 tp (va_up ll i tl) (rfa lv i (pn id i (lfh tp tl)) (rl lv)) u.2.1 u.2.2.1 u.2.2.2)) := by
  refine Met.ofW (cc := cX1_change) (maxL := 2) (ret := (some .boolean)) (by decide) rfl ?_
  intro p e s m args below meth c s₁ B hml hv
  obtain ⟨rfl, hP, hK, hD, hZ⟩ := hv
  have hx := B.exec
  have hb := B.bytes
  have hr := B.returns
  have hts := atoms_spec (ws := wsX1_change) B.pre
  have hown : s.vm.findClass RX1 = some m.cls := findClass_of_methodNamed B.named
  have hlocks := B.notSynchronized
  have hS : va_S A s.heap s.heap [] := va_S.rf
  have hl := lv_entry ([.ref (q 0), .int (nI i)]) (n := 2) (Nat.le_of_ble_eq_true rfl)
  rw [lg_entry_eq]
  generalize (lg_sl ([.ref (q 0), .int (nI i)]) ++ List.replicate (2 - (lg_sl ([.ref (q 0), .int (nI i)])).length) Slot.unset).toArray = ls at hl ⊢
  have hl : lv_has ls 2 [(0, .ref (q 0)), (1, .int (nI i))] := hl
  refine lv_aload_n hx hb dX1_change_0 rfl (lv_at hl 0 rfl) ?_
  refine lv_iload_n hx hb dX1_change_1 rfl (lv_at hl 1 rfl) ?_
  refine kc_i (As := [.int (nI i)]) (rest := []) ⟨hx, hb, hml, hown, hts⟩ (c_isLeaf l D A q cB cI tl lv lb ln tp ll id ms sc st ((nI (i)))) (cwV 1 hts gX1_change_X1_isLeaf rfl rfl rfl (by decide +kernel) ⟨Nat.le_of_ble_eq_true rfl, Nat.le_of_ble_eq_true rfl⟩) (va_recv hK hP (ci := 1) (q0 := 0) rfl rfl) hK hP hD hS hZ rfl hl.1 rfl (Nat.le_of_ble_eq_true rfl) ⟨Nat.zero_le _, Nat.zero_le _⟩ dX1_change_2 (fun r_1 _ H locs hw hP hD hS => ?_)
  have hw : r_1 = (bz (lf (nI (i)) lv)) := hw
  subst hw
  have hP : va_P D vwCl (wk q cB cI tl lv lb ln tp ll id ms sc st) H := hP
  have hD : va_D A (wk q cB cI tl lv lb ln tp ll id ms sc st) := hD
  refine lv_if_ne (tgt := 10) hx hb dX1_change_5 (by decide) (fun c_5 => ?_) (fun c_5 => absurd (lf_n (by omega) h1) (by rw [bz_0 c_5]; exact Bool.false_ne_true))
  have c_5 : (lf (nI (i)) lv) = true := bz_1 c_5
  refine lv_aload_n hx hb dX1_change_10 rfl (lv_at hl 0 rfl) ?_
  refine lv_iload_n hx hb dX1_change_11 rfl (lv_at hl 1 rfl) ?_
  refine kc_v (As := [.int (nI i)]) (rest := []) ⟨hx, hb, hml, hown, hts⟩ (c_moveTapeTo l D A q cB cI tl lv lb ln tp ll id ms sc st i (by omega) (by omega) (by omega) (by omega)) (cwV 1 hts gX1_change_X1_moveTapeTo rfl rfl rfl (by decide +kernel) ⟨Nat.le_of_ble_eq_true rfl, Nat.le_of_ble_eq_true rfl⟩) (va_recv hK hP (ci := 1) (q0 := 0) rfl rfl) hK hP hD hS hZ rfl hl.1 rfl (Nat.le_of_ble_eq_true rfl) ⟨Nat.zero_le _, Nat.zero_le _⟩ dX1_change_12 (fun u_2 H locs _ hP hD hS => ?_)
  have hP : va_P D vwCl (wk q cB cI 0 lv (lb + tl - ll i) u_2.1 tp (va_up ll i tl) (rfa lv i (pn id i (lfh tp tl)) (rl lv)) u_2.2.1 u_2.2.2.1 u_2.2.2.2) H := hP
  have hD : va_D A (wk q cB cI 0 lv (lb + tl - ll i) u_2.1 tp (va_up ll i tl) (rfa lv i (pn id i (lfh tp tl)) (rl lv)) u_2.2.1 u_2.2.2.1 u_2.2.2.2) := hD
  refine lv_iconst (v := ((1 : Int32))) hx hb dX1_change_15 (by decide) ?_
  exact kr_z (u_2) hx hb hr hlocks hK hP hD hS (rfl) (rfl) dX1_change_16

set_option maxHeartbeats 4000000 in
set_option maxRecDepth 100000 in
theorem c_change_n (l : Launch) (D : va_G) (A : Nat → Prop) (q : Nat → Nat) (cB cI : ClassId) (tl lv lb ln : Nat) (tp : Nat → Int32) (ll : Nat → Nat) (id ms sc st : Nat → Int32) (x : Int32) (h1 : lf x lv = false) : Ki (S := Unit) l yX1_change wsX1_change { frames := 6, cells := 0, slots := 0, locals := 148 } D vwCl [(cB, .byte), (cI, .int)] A (zk q) [.ref (q 0), .int x] (wk q cB cI tl lv lb ln tp ll id ms sc st) (fun r _ => r = ((0 : Int32))) (fun _ => (wk q cB cI tl lv lb ln tp ll id ms sc st)) := by
  refine Met.ofW (cc := cX1_change) (maxL := 2) (ret := (some .boolean)) (by decide) rfl ?_
  intro p e s m args below meth c s₁ B hml hv
  obtain ⟨rfl, hP, hK, hD, hZ⟩ := hv
  have hx := B.exec
  have hb := B.bytes
  have hr := B.returns
  have hts := atoms_spec (ws := wsX1_change) B.pre
  have hown : s.vm.findClass RX1 = some m.cls := findClass_of_methodNamed B.named
  have hlocks := B.notSynchronized
  have hS : va_S A s.heap s.heap [] := va_S.rf
  have hl := lv_entry ([.ref (q 0), .int x]) (n := 2) (Nat.le_of_ble_eq_true rfl)
  rw [lg_entry_eq]
  generalize (lg_sl ([.ref (q 0), .int x]) ++ List.replicate (2 - (lg_sl ([.ref (q 0), .int x])).length) Slot.unset).toArray = ls at hl ⊢
  have hl : lv_has ls 2 [(0, .ref (q 0)), (1, .int x)] := hl
  refine lv_aload_n hx hb dX1_change_0 rfl (lv_at hl 0 rfl) ?_
  refine lv_iload_n hx hb dX1_change_1 rfl (lv_at hl 1 rfl) ?_
  refine kc_i (As := [.int x]) (rest := []) ⟨hx, hb, hml, hown, hts⟩ (c_isLeaf l D A q cB cI tl lv lb ln tp ll id ms sc st ((x))) (cwV 1 hts gX1_change_X1_isLeaf rfl rfl rfl (by decide +kernel) ⟨Nat.le_of_ble_eq_true rfl, Nat.le_of_ble_eq_true rfl⟩) (va_recv hK hP (ci := 1) (q0 := 0) rfl rfl) hK hP hD hS hZ rfl hl.1 rfl (Nat.le_of_ble_eq_true rfl) ⟨Nat.zero_le _, Nat.zero_le _⟩ dX1_change_2 (fun r_1 _ H locs hw hP hD hS => ?_)
  have hw : r_1 = (bz (lf (x) lv)) := hw
  subst hw
  have hP : va_P D vwCl (wk q cB cI tl lv lb ln tp ll id ms sc st) H := hP
  have hD : va_D A (wk q cB cI tl lv lb ln tp ll id ms sc st) := hD
  refine lv_if_ne (tgt := 10) hx hb dX1_change_5 (by decide) (fun c_5 => absurd (bz_1 c_5) (by rw [h1]; exact Bool.false_ne_true)) (fun c_5 => ?_)
  have c_5 : (lf (x) lv) = false := bz_0 c_5
  refine lv_iconst (v := ((0 : Int32))) hx hb dX1_change_8 (by decide) ?_
  exact kr_z (()) hx hb hr hlocks hK hP hD hS (rfl) (rfl) dX1_change_9

set_option maxHeartbeats 4000000 in
set_option maxRecDepth 100000 in
theorem c_drop_n (l : Launch) (D : va_G) (A : Nat → Prop) (q : Nat → Nat) (cB cI : ClassId) (tl lv lb ln : Nat) (tp : Nat → Int32) (ll : Nat → Nat) (id ms sc st : Nat → Int32) : Ki (S := Unit) l yX1_drop wsX1_drop { frames := 5, cells := 0, slots := 0, locals := 127 } D vwCl [(cB, .byte), (cI, .int)] A (zk q) [.ref (q 0)] (wk q cB cI tl 0 lb ln tp ll id ms sc st) (fun r _ => r = ((-1 : Int32))) (fun _ => (wk q cB cI tl 0 lb ln tp ll id ms sc st)) := by
  refine Met.ofW (cc := cX1_drop) (maxL := 1) (ret := (some .int)) (by decide) rfl ?_
  intro p e s m args below meth c s₁ B hml hv
  obtain ⟨rfl, hP, hK, hD, hZ⟩ := hv
  have hx := B.exec
  have hb := B.bytes
  have hr := B.returns
  have hts := atoms_spec (ws := wsX1_drop) B.pre
  have hown : s.vm.findClass RX1 = some m.cls := findClass_of_methodNamed B.named
  have hlocks := B.notSynchronized
  have hS : va_S A s.heap s.heap [] := va_S.rf
  have hin_1 : ∀ w ∈ u_ws RX1 TX1 7, w ∈ wsX1_drop := by decide +kernel
  have lk_31 := hts (.fieldLink RX1 31 "RootDesk" "leaves" "I") (by decide +kernel)
  have hl := lv_entry ([.ref (q 0)]) (n := 1) (Nat.le_of_ble_eq_true rfl)
  rw [lg_entry_eq]
  generalize (lg_sl ([.ref (q 0)]) ++ List.replicate (1 - (lg_sl ([.ref (q 0)])).length) Slot.unset).toArray = ls at hl ⊢
  have hl : lv_has ls 1 [(0, .ref (q 0))] := hl
  refine lv_aload_n hx hb dX1_drop_0 rfl (lv_at hl 0 rfl) ?_
  refine va_get (D := D) (ci := 1) (v := .int (nI 0)) (C := RX1) (T := TX1) (N := 7) hx hb hts hin_1 hown hK hP 0 rfl rfl 3 (by decide) lk_31 (fun _ h9 => h9) rfl dX1_drop_1 ?_
  refine lv_iconst (v := (nI (1))) hx hb dX1_drop_4 (by decide) ?_
  refine lv_icmp_ge (tgt := 10) hx hb dX1_drop_5 (by decide) (fun c_5 => absurd c_5 (by decide)) (fun c_5 => ?_)
  have c_5 : 0 < 1 := kn_nle c_5 (by omega) (by omega)
  refine lv_iconst (v := ((-1 : Int32))) hx hb dX1_drop_8 (by decide) ?_
  exact kr_i (()) hx hb hr hlocks hK hP hD hS (rfl) dX1_drop_9

set_option maxHeartbeats 4000000 in
set_option maxRecDepth 100000 in
theorem c_drop_z (l : Launch) (D : va_G) (A : Nat → Prop) (q : Nat → Nat) (cB cI : ClassId) (tl lv lb ln : Nat) (tp : Nat → Int32) (ll : Nat → Nat) (id ms sc st : Nat → Int32) (h4 : ll 0 ≤ lb) : Ki (S := Unit) l yX1_drop wsX1_drop { frames := 5, cells := 0, slots := 0, locals := 127 } D vwCl [(cB, .byte), (cI, .int)] A (zk q) [.ref (q 0)] (wk q cB cI tl 1 lb ln tp ll id ms sc st) (fun r _ => r = (nI (0))) (fun _ => (wk q cB cI tl 0 (lb - ll 0) ln tp ll id ms sc st)) := by
  refine Met.ofW (cc := cX1_drop) (maxL := 1) (ret := (some .int)) (by decide) rfl ?_
  intro p e s m args below meth c s₁ B hml hv
  obtain ⟨rfl, hP, hK, hD, hZ⟩ := hv
  have hx := B.exec
  have hb := B.bytes
  have hr := B.returns
  have hts := atoms_spec (ws := wsX1_drop) B.pre
  have hown : s.vm.findClass RX1 = some m.cls := findClass_of_methodNamed B.named
  have hlocks := B.notSynchronized
  have hS : va_S A s.heap s.heap [] := va_S.rf
  have hin_1 : ∀ w ∈ u_ws RX1 TX1 7, w ∈ wsX1_drop := by decide +kernel
  have lk_13 := hts (.fieldLink RX1 13 "RootDesk" "leafLengths" "[I") (by decide +kernel)
  have lk_31 := hts (.fieldLink RX1 31 "RootDesk" "leaves" "I") (by decide +kernel)
  have lk_34 := hts (.fieldLink RX1 34 "RootDesk" "leafBytes" "I") (by decide +kernel)
  have hl := lv_entry ([.ref (q 0)]) (n := 1) (Nat.le_of_ble_eq_true rfl)
  rw [lg_entry_eq]
  generalize (lg_sl ([.ref (q 0)]) ++ List.replicate (1 - (lg_sl ([.ref (q 0)])).length) Slot.unset).toArray = ls at hl ⊢
  have hl : lv_has ls 1 [(0, .ref (q 0))] := hl
  refine lv_aload_n hx hb dX1_drop_0 rfl (lv_at hl 0 rfl) ?_
  refine va_get (D := D) (ci := 1) (v := .int (nI 1)) (C := RX1) (T := TX1) (N := 7) hx hb hts hin_1 hown hK hP 0 rfl rfl 3 (by decide) lk_31 (fun _ h9 => h9) rfl dX1_drop_1 ?_
  refine lv_iconst (v := (nI (1))) hx hb dX1_drop_4 (by decide) ?_
  refine lv_icmp_ge (tgt := 10) hx hb dX1_drop_5 (by decide) (fun c_5 => ?_) (fun c_5 => absurd (by decide) c_5)
  have c_5 : 1 ≤ 1 := kn_le c_5 (by omega) (by omega)
  refine lv_aload_n hx hb dX1_drop_10 rfl (lv_at hl 0 rfl) ?_
  refine lv_dup hx hb dX1_drop_11 rfl ?_
  refine va_get (D := D) (ci := 1) (v := .int (nI 1)) (C := RX1) (T := TX1) (N := 7) hx hb hts hin_1 hown hK hP 0 rfl rfl 3 (by decide) lk_31 (fun _ h9 => h9) rfl dX1_drop_12 ?_
  refine lv_iconst (v := (nI (1))) hx hb dX1_drop_15 (by decide) ?_
  refine lv_isub hx hb dX1_drop_16 ?_
  refine kp_i (y := (nI (0))) (rfl) ?_
  refine va_put (D := D) (ci := 1) (v := .int (nI 0)) (ty := .int) (C := RX1) (T := TX1) (N := 7) hx hb hts hin_1 tyX1 tyX1_ok nmX1 hown hK hP hD hS 0 rfl rfl 3 (by decide) lk_31 (fun _ h9 => h9) rfl (by decide +kernel) rfl rfl (Nat.le_of_ble_eq_true rfl) dX1_drop_17 (fun H locs hP hD hS => ?_)
  have hP : va_P D vwCl (wk q cB cI tl 0 lb ln tp ll id ms sc st) H := hP
  have hD : va_D A (wk q cB cI tl 0 lb ln tp ll id ms sc st) := hD
  refine lv_aload_n hx hb dX1_drop_20 rfl (lv_at hl 0 rfl) ?_
  refine lv_dup hx hb dX1_drop_21 rfl ?_
  refine va_get (D := D) (ci := 1) (v := .int (nI lb)) (C := RX1) (T := TX1) (N := 7) hx hb hts hin_1 hown hK hP 0 rfl rfl 4 (by decide) lk_34 (fun _ h9 => h9) rfl dX1_drop_22 ?_
  refine lv_aload_n hx hb dX1_drop_25 rfl (lv_at hl 0 rfl) ?_
  refine va_get (D := D) (ci := 1) (v := .ref (q 2)) (C := RX1) (T := TX1) (N := 7) hx hb hts hin_1 hown hK hP 0 rfl rfl 2 (by decide) lk_13 (fun _ h9 => h9) rfl dX1_drop_26 ?_
  refine lv_aload_n hx hb dX1_drop_29 rfl (lv_at hl 0 rfl) ?_
  refine va_get (D := D) (ci := 1) (v := .int (nI 0)) (C := RX1) (T := TX1) (N := 7) hx hb hts hin_1 hown hK hP 0 rfl rfl 3 (by decide) lk_31 (fun _ h9 => h9) rfl dX1_drop_30 ?_
  refine kb_iald hx hb hK hP 2 1 rfl rfl (0) (rfl) (by omega) (by decide) dX1_drop_33 ?_
  refine lv_isub hx hb dX1_drop_34 ?_
  refine kp_i (pk_sub (by omega)) ?_
  refine va_put (D := D) (ci := 1) (v := .int (nI (lb - (ll (0))))) (ty := .int) (C := RX1) (T := TX1) (N := 7) hx hb hts hin_1 tyX1 tyX1_ok nmX1 hown hK hP hD hS 0 rfl rfl 4 (by decide) lk_34 (fun _ h9 => h9) rfl (by decide +kernel) rfl rfl (Nat.le_of_ble_eq_true rfl) dX1_drop_35 (fun H locs hP hD hS => ?_)
  have hP : va_P D vwCl (wk q cB cI tl 0 (lb - (ll (0))) ln tp ll id ms sc st) H := hP
  have hD : va_D A (wk q cB cI tl 0 (lb - (ll (0))) ln tp ll id ms sc st) := hD
  refine lv_aload_n hx hb dX1_drop_38 rfl (lv_at hl 0 rfl) ?_
  refine va_get (D := D) (ci := 1) (v := .int (nI 0)) (C := RX1) (T := TX1) (N := 7) hx hb hts hin_1 hown hK hP 0 rfl rfl 3 (by decide) lk_31 (fun _ h9 => h9) rfl dX1_drop_39 ?_
  refine lv_if_le (tgt := 55) hx hb dX1_drop_42 (by decide) (fun c_42 => ?_) (fun c_42 => absurd (by decide) c_42)
  have c_42 : 0 = 0 := kn_le0 c_42 (by omega)
  refine lv_aload_n hx hb dX1_drop_55 rfl (lv_at hl 0 rfl) ?_
  refine va_get (D := D) (ci := 1) (v := .int (nI 0)) (C := RX1) (T := TX1) (N := 7) hx hb hts hin_1 hown hK hP 0 rfl rfl 3 (by decide) lk_31 (fun _ h9 => h9) rfl dX1_drop_56 ?_
  exact kr_i (()) hx hb hr hlocks hK hP hD hS (rfl) dX1_drop_59

set_option maxHeartbeats 4000000 in
set_option maxRecDepth 100000 in
theorem c_drop_y (l : Launch) (D : va_G) (A : Nat → Prop) (q : Nat → Nat) (cB cI : ClassId) (tl lv lb ln : Nat) (tp : Nat → Int32) (ll : Nat → Nat) (id ms sc st : Nat → Int32) (n : Nat) (h2 : n + 2 ≤ 100) (h4 : ll (n + 1) ≤ lb) : Ki (S := (Nat × (Nat → Int32) × (Nat → Int32) × (Nat → Int32))) l yX1_drop wsX1_drop { frames := 5, cells := 0, slots := 0, locals := 127 } D vwCl [(cB, .byte), (cI, .int)] A (zk q) [.ref (q 0)] (wk q cB cI tl (n + 2) lb ln tp ll id ms sc st) (fun r _ => r = nI (n + 1)) (fun u => (wk q cB cI tl (n + 1) (lb - ll (n + 1)) u.1 tp ll (rfa (n + 1) n id (rl (n + 1))) u.2.1 u.2.2.1 u.2.2.2)) := by
  refine Met.ofW (cc := cX1_drop) (maxL := 1) (ret := (some .int)) (by decide) rfl ?_
  intro p e s m args below meth c s₁ B hml hv
  obtain ⟨rfl, hP, hK, hD, hZ⟩ := hv
  have hx := B.exec
  have hb := B.bytes
  have hr := B.returns
  have hts := atoms_spec (ws := wsX1_drop) B.pre
  have hown : s.vm.findClass RX1 = some m.cls := findClass_of_methodNamed B.named
  have hlocks := B.notSynchronized
  have hS : va_S A s.heap s.heap [] := va_S.rf
  have hin_1 : ∀ w ∈ u_ws RX1 TX1 7, w ∈ wsX1_drop := by decide +kernel
  have lk_13 := hts (.fieldLink RX1 13 "RootDesk" "leafLengths" "[I") (by decide +kernel)
  have lk_31 := hts (.fieldLink RX1 31 "RootDesk" "leaves" "I") (by decide +kernel)
  have lk_34 := hts (.fieldLink RX1 34 "RootDesk" "leafBytes" "I") (by decide +kernel)
  have hl := lv_entry ([.ref (q 0)]) (n := 1) (Nat.le_of_ble_eq_true rfl)
  rw [lg_entry_eq]
  generalize (lg_sl ([.ref (q 0)]) ++ List.replicate (1 - (lg_sl ([.ref (q 0)])).length) Slot.unset).toArray = ls at hl ⊢
  have hl : lv_has ls 1 [(0, .ref (q 0))] := hl
  refine lv_aload_n hx hb dX1_drop_0 rfl (lv_at hl 0 rfl) ?_
  refine va_get (D := D) (ci := 1) (v := .int (nI (n + 2))) (C := RX1) (T := TX1) (N := 7) hx hb hts hin_1 hown hK hP 0 rfl rfl 3 (by decide) lk_31 (fun _ h9 => h9) rfl dX1_drop_1 ?_
  refine lv_iconst (v := (nI (1))) hx hb dX1_drop_4 (by decide) ?_
  refine lv_icmp_ge (tgt := 10) hx hb dX1_drop_5 (by decide) (fun c_5 => ?_) (fun c_5 => absurd (kn_le (a := 1) (b := 1) (nI_le (Nat.le_refl 1) (by decide)) (by decide) (by decide)) (fun _ => c_5 (nI_le (by omega) (by omega))))
  have c_5 : 1 ≤ (n + 2) := kn_le c_5 (by omega) (by omega)
  refine lv_aload_n hx hb dX1_drop_10 rfl (lv_at hl 0 rfl) ?_
  refine lv_dup hx hb dX1_drop_11 rfl ?_
  refine va_get (D := D) (ci := 1) (v := .int (nI (n + 2))) (C := RX1) (T := TX1) (N := 7) hx hb hts hin_1 hown hK hP 0 rfl rfl 3 (by decide) lk_31 (fun _ h9 => h9) rfl dX1_drop_12 ?_
  refine lv_iconst (v := (nI (1))) hx hb dX1_drop_15 (by decide) ?_
  refine lv_isub hx hb dX1_drop_16 ?_
  refine kp_i (y := (nI (n + 1))) (kn_sub (by omega)) ?_
  refine va_put (D := D) (ci := 1) (v := .int (nI (n + 1))) (ty := .int) (C := RX1) (T := TX1) (N := 7) hx hb hts hin_1 tyX1 tyX1_ok nmX1 hown hK hP hD hS 0 rfl rfl 3 (by decide) lk_31 (fun _ h9 => h9) rfl (by decide +kernel) rfl rfl (Nat.le_of_ble_eq_true rfl) dX1_drop_17 (fun H locs hP hD hS => ?_)
  have hP : va_P D vwCl (wk q cB cI tl (n + 1) lb ln tp ll id ms sc st) H := hP
  have hD : va_D A (wk q cB cI tl (n + 1) lb ln tp ll id ms sc st) := hD
  refine lv_aload_n hx hb dX1_drop_20 rfl (lv_at hl 0 rfl) ?_
  refine lv_dup hx hb dX1_drop_21 rfl ?_
  refine va_get (D := D) (ci := 1) (v := .int (nI lb)) (C := RX1) (T := TX1) (N := 7) hx hb hts hin_1 hown hK hP 0 rfl rfl 4 (by decide) lk_34 (fun _ h9 => h9) rfl dX1_drop_22 ?_
  refine lv_aload_n hx hb dX1_drop_25 rfl (lv_at hl 0 rfl) ?_
  refine va_get (D := D) (ci := 1) (v := .ref (q 2)) (C := RX1) (T := TX1) (N := 7) hx hb hts hin_1 hown hK hP 0 rfl rfl 2 (by decide) lk_13 (fun _ h9 => h9) rfl dX1_drop_26 ?_
  refine lv_aload_n hx hb dX1_drop_29 rfl (lv_at hl 0 rfl) ?_
  refine va_get (D := D) (ci := 1) (v := .int (nI (n + 1))) (C := RX1) (T := TX1) (N := 7) hx hb hts hin_1 hown hK hP 0 rfl rfl 3 (by decide) lk_31 (fun _ h9 => h9) rfl dX1_drop_30 ?_
  refine kb_iald hx hb hK hP 2 1 rfl rfl (n + 1) (rfl) (by omega) (by decide) dX1_drop_33 ?_
  refine lv_isub hx hb dX1_drop_34 ?_
  refine kp_i (pk_sub (by omega)) ?_
  refine va_put (D := D) (ci := 1) (v := .int (nI (lb - (ll (n + 1))))) (ty := .int) (C := RX1) (T := TX1) (N := 7) hx hb hts hin_1 tyX1 tyX1_ok nmX1 hown hK hP hD hS 0 rfl rfl 4 (by decide) lk_34 (fun _ h9 => h9) rfl (by decide +kernel) rfl rfl (Nat.le_of_ble_eq_true rfl) dX1_drop_35 (fun H locs hP hD hS => ?_)
  have hP : va_P D vwCl (wk q cB cI tl (n + 1) (lb - (ll (n + 1))) ln tp ll id ms sc st) H := hP
  have hD : va_D A (wk q cB cI tl (n + 1) (lb - (ll (n + 1))) ln tp ll id ms sc st) := hD
  refine lv_aload_n hx hb dX1_drop_38 rfl (lv_at hl 0 rfl) ?_
  refine va_get (D := D) (ci := 1) (v := .int (nI (n + 1))) (C := RX1) (T := TX1) (N := 7) hx hb hts hin_1 hown hK hP 0 rfl rfl 3 (by decide) lk_31 (fun _ h9 => h9) rfl dX1_drop_39 ?_
  refine lv_if_le (tgt := 55) hx hb dX1_drop_42 (by decide) (fun c_42 => absurd (kn_le0 c_42 (by omega)) (by omega)) (fun c_42 => ?_)
  have c_42 : 0 < (n + 1) := kn_nle0 c_42 (by omega)
  refine lv_aload_n hx hb dX1_drop_45 rfl (lv_at hl 0 rfl) ?_
  refine lv_aload_n hx hb dX1_drop_46 rfl (lv_at hl 0 rfl) ?_
  refine va_get (D := D) (ci := 1) (v := .int (nI (n + 1))) (C := RX1) (T := TX1) (N := 7) hx hb hts hin_1 hown hK hP 0 rfl rfl 3 (by decide) lk_31 (fun _ h9 => h9) rfl dX1_drop_47 ?_
  refine lv_iconst (v := (nI (1))) hx hb dX1_drop_50 (by decide) ?_
  refine lv_isub hx hb dX1_drop_51 ?_
  refine kp_i (y := (nI (n))) (kn_sub (by omega)) ?_
  refine kc_v (As := [.int (nI n)]) (rest := []) ⟨hx, hb, hml, hown, hts⟩ (c_refreshAbove l D A q cB cI tl (n + 1) (lb - (ll (n + 1))) ln tp ll id ms sc st n (by omega) (by omega)) (cwV 1 hts gX1_drop_X1_refreshAbove rfl rfl rfl (by decide +kernel) ⟨Nat.le_of_ble_eq_true rfl, Nat.le_of_ble_eq_true rfl⟩) (va_recv hK hP (ci := 1) (q0 := 0) rfl rfl) hK hP hD hS hZ rfl hl.1 rfl (Nat.le_of_ble_eq_true rfl) ⟨Nat.zero_le _, Nat.zero_le _⟩ dX1_drop_52 (fun u_1 H locs _ hP hD hS => ?_)
  have hP : va_P D vwCl (wk q cB cI tl (n + 1) (lb - (ll (n + 1))) u_1.1 tp ll (rfa (n + 1) n id (rl (n + 1))) u_1.2.1 u_1.2.2.1 u_1.2.2.2) H := hP
  have hD : va_D A (wk q cB cI tl (n + 1) (lb - (ll (n + 1))) u_1.1 tp ll (rfa (n + 1) n id (rl (n + 1))) u_1.2.1 u_1.2.2.1 u_1.2.2.2) := hD
  refine lv_aload_n hx hb dX1_drop_55 rfl (lv_at hl 0 rfl) ?_
  refine va_get (D := D) (ci := 1) (v := .int (nI (n + 1))) (C := RX1) (T := TX1) (N := 7) hx hb hts hin_1 hown hK hP 0 rfl rfl 3 (by decide) lk_31 (fun _ h9 => h9) rfl dX1_drop_56 ?_
  exact kr_i (u_1) hx hb hr hlocks hK hP hD hS (rfl) dX1_drop_59

set_option maxHeartbeats 4000000 in
set_option maxRecDepth 100000 in
theorem c_root_n (l : Launch) (D : va_G) (A : Nat → Prop) (q : Nat → Nat) (cB cI : ClassId) (tl lv lb ln : Nat) (tp : Nat → Int32) (ll : Nat → Nat) (id ms sc st : Nat → Int32) (x : Int32) : Kl (S := Unit) l yX1_root wsX1_root { frames := 2, cells := 0, slots := 0, locals := 42 } D vwCl [(cB, .byte), (cI, .int)] A (zk q) [.ref (q 0), .int x] (wk q cB cI tl 0 lb ln tp ll id ms sc st) (fun r _ => r = ((0 : Int64))) (fun _ => (wk q cB cI tl 0 lb ln tp ll id ms sc st)) := by
  refine Met.ofW (cc := cX1_root) (maxL := 2) (ret := (some .long)) (by decide) rfl ?_
  intro p e s m args below meth c s₁ B hml hv
  obtain ⟨rfl, hP, hK, hD, hZ⟩ := hv
  have hx := B.exec
  have hb := B.bytes
  have hr := B.returns
  have hts := atoms_spec (ws := wsX1_root) B.pre
  have hown : s.vm.findClass RX1 = some m.cls := findClass_of_methodNamed B.named
  have hlocks := B.notSynchronized
  have hS : va_S A s.heap s.heap [] := va_S.rf
  have hin_1 : ∀ w ∈ u_ws RX1 TX1 7, w ∈ wsX1_root := by decide +kernel
  have lk_31 := hts (.fieldLink RX1 31 "RootDesk" "leaves" "I") (by decide +kernel)
  have hl := lv_entry ([.ref (q 0), .int x]) (n := 2) (Nat.le_of_ble_eq_true rfl)
  rw [lg_entry_eq]
  generalize (lg_sl ([.ref (q 0), .int x]) ++ List.replicate (2 - (lg_sl ([.ref (q 0), .int x])).length) Slot.unset).toArray = ls at hl ⊢
  have hl : lv_has ls 2 [(0, .ref (q 0)), (1, .int x)] := hl
  refine lv_aload_n hx hb dX1_root_0 rfl (lv_at hl 0 rfl) ?_
  refine va_get (D := D) (ci := 1) (v := .int (nI 0)) (C := RX1) (T := TX1) (N := 7) hx hb hts hin_1 hown hK hP 0 rfl rfl 3 (by decide) lk_31 (fun _ h9 => h9) rfl dX1_root_1 ?_
  refine lv_iconst (v := (nI (1))) hx hb dX1_root_4 (by decide) ?_
  refine lv_icmp_ge (tgt := 10) hx hb dX1_root_5 (by decide) (fun c_5 => absurd c_5 (by decide)) (fun c_5 => ?_)
  have c_5 : 0 < 1 := kn_nle c_5 (by omega) (by omega)
  refine lv_lconst (v := 0) hx hb dX1_root_8 (by decide) ?_
  exact kr_l (()) hx hb hr hlocks hK hP hD hS (rfl) dX1_root_9

set_option maxHeartbeats 4000000 in
set_option maxRecDepth 100000 in
theorem c_root_y (l : Launch) (D : va_G) (A : Nat → Prop) (q : Nat → Nat) (cB cI : ClassId) (tl lv lb ln : Nat) (tp : Nat → Int32) (ll : Nat → Nat) (id ms sc st : Nat → Int32) (x : Int32) (h1 : 0 < lv) (h2 : lv ≤ 100) : Kl (S := Unit) l yX1_root wsX1_root { frames := 2, cells := 0, slots := 0, locals := 42 } D vwCl [(cB, .byte), (cI, .int)] A (zk q) [.ref (q 0), .int x] (wk q cB cI tl lv lb ln tp ll id ms sc st) (fun r _ => r = (e8 (nd id (lsv (rl lv))) x)) (fun _ => (wk q cB cI tl lv lb ln tp ll id ms sc st)) := by
  refine Met.ofW (cc := cX1_root) (maxL := 2) (ret := (some .long)) (by decide) rfl ?_
  intro p e s m args below meth c s₁ B hml hv
  obtain ⟨rfl, hP, hK, hD, hZ⟩ := hv
  have hx := B.exec
  have hb := B.bytes
  have hr := B.returns
  have hts := atoms_spec (ws := wsX1_root) B.pre
  have hown : s.vm.findClass RX1 = some m.cls := findClass_of_methodNamed B.named
  have hlocks := B.notSynchronized
  have hS : va_S A s.heap s.heap [] := va_S.rf
  have hin_1 : ∀ w ∈ u_ws RX1 TX1 7, w ∈ wsX1_root := by decide +kernel
  have lk_31 := hts (.fieldLink RX1 31 "RootDesk" "leaves" "I") (by decide +kernel)
  have lk_63 := hts (.fieldLink RX1 63 "RootDesk" "LEVEL_START" "[I") (by decide +kernel)
  have hl := lv_entry ([.ref (q 0), .int x]) (n := 2) (Nat.le_of_ble_eq_true rfl)
  rw [lg_entry_eq]
  generalize (lg_sl ([.ref (q 0), .int x]) ++ List.replicate (2 - (lg_sl ([.ref (q 0), .int x])).length) Slot.unset).toArray = ls at hl ⊢
  have hl : lv_has ls 2 [(0, .ref (q 0)), (1, .int x)] := hl
  have hr8 := rl_lt lv
  have hfit := lsv_fit1 (rl lv) hr8
  refine lv_aload_n hx hb dX1_root_0 rfl (lv_at hl 0 rfl) ?_
  refine va_get (D := D) (ci := 1) (v := .int (nI lv)) (C := RX1) (T := TX1) (N := 7) hx hb hts hin_1 hown hK hP 0 rfl rfl 3 (by decide) lk_31 (fun _ h9 => h9) rfl dX1_root_1 ?_
  refine lv_iconst (v := (nI (1))) hx hb dX1_root_4 (by decide) ?_
  refine lv_icmp_ge (tgt := 10) hx hb dX1_root_5 (by decide) (fun c_5 => ?_) (fun c_5 => absurd (nI_le h1 (by omega)) c_5)
  have c_5 : 1 ≤ lv := kn_le c_5 (by omega) (by omega)
  refine lv_aload_n hx hb dX1_root_10 rfl (lv_at hl 0 rfl) ?_
  refine kz_get hx hb hZ hS 0 rfl hown lk_63 dX1_root_11 ?_
  refine lv_aload_n hx hb dX1_root_14 rfl (lv_at hl 0 rfl) ?_
  refine kc_i (As := []) (rest := [.ref (q 8), .ref (q 0)]) ⟨hx, hb, hml, hown, hts⟩ (c_rootLevel l D A q cB cI tl lv lb ln tp ll id ms sc st (by omega)) (cwV 0 hts gX1_root_X1_rootLevel rfl rfl rfl (by decide +kernel) ⟨Nat.le_of_ble_eq_true rfl, Nat.le_of_ble_eq_true rfl⟩) (va_recv hK hP (ci := 1) (q0 := 0) rfl rfl) hK hP hD hS hZ rfl hl.1 rfl (Nat.le_of_ble_eq_true rfl) ⟨Nat.zero_le _, Nat.zero_le _⟩ dX1_root_15 (fun r_1 _ H locs hw hP hD hS => ?_)
  have hw : r_1 = (nI (rl lv)) := hw
  subst hw
  have hP : va_P D vwCl (wk q cB cI tl lv lb ln tp ll id ms sc st) H := hP
  have hD : va_D A (wk q cB cI tl lv lb ln tp ll id ms sc st) := hD
  refine kz_ld hx hb hZ hS 0 rfl (rl lv) (rfl) (by omega) (by decide) dX1_root_18 ?_
  refine lv_iload_n hx hb dX1_root_19 rfl (lv_at hl 1 rfl) ?_
  refine kc_l (As := [.int (nI (lsv (rl lv))), .int x]) (rest := []) ⟨hx, hb, hml, hown, hts⟩ (c_eightBytes l D A q cB cI tl lv lb ln tp ll id ms sc st (lsv (rl lv)) ((x)) (by omega)) (cwV 2 hts gX1_root_X1_eightBytes rfl rfl rfl (by decide +kernel) ⟨Nat.le_of_ble_eq_true rfl, Nat.le_of_ble_eq_true rfl⟩) (va_recv hK hP (ci := 1) (q0 := 0) rfl rfl) hK hP hD hS hZ rfl hl.1 rfl (Nat.le_of_ble_eq_true rfl) ⟨Nat.zero_le _, Nat.zero_le _⟩ dX1_root_20 (fun r_2 _ H locs hw hP hD hS => ?_)
  have hw : r_2 = (e8 (nd id (lsv (rl lv))) (x)) := hw
  subst hw
  have hP : va_P D vwCl (wk q cB cI tl lv lb ln tp ll id ms sc st) H := hP
  have hD : va_D A (wk q cB cI tl lv lb ln tp ll id ms sc st) := hD
  exact kr_l (()) hx hb hr hlocks hK hP hD hS (rfl) dX1_root_23

set_option maxHeartbeats 4000000 in
set_option maxRecDepth 100000 in
theorem c_way_n (l : Launch) (D : va_G) (A : Nat → Prop) (q : Nat → Nat) (cB cI : ClassId) (tl lv lb ln : Nat) (tp : Nat → Int32) (ll : Nat → Nat) (id ms sc st : Nat → Int32) (x : Int32) (h1 : lf x lv = false) : Ki (S := Unit) l yX1_way wsX1_way { frames := 2, cells := 0, slots := 0, locals := 46 } D vwCl [(cB, .byte), (cI, .int)] A (zk q) [.ref (q 0), .int x] (wk q cB cI tl lv lb ln tp ll id ms sc st) (fun r _ => r = ((-1 : Int32))) (fun _ => (wk q cB cI tl lv lb ln tp ll id ms sc st)) := by
  refine Met.ofW (cc := cX1_way) (maxL := 3) (ret := (some .int)) (by decide) rfl ?_
  intro p e s m args below meth c s₁ B hml hv
  obtain ⟨rfl, hP, hK, hD, hZ⟩ := hv
  have hx := B.exec
  have hb := B.bytes
  have hr := B.returns
  have hts := atoms_spec (ws := wsX1_way) B.pre
  have hown : s.vm.findClass RX1 = some m.cls := findClass_of_methodNamed B.named
  have hlocks := B.notSynchronized
  have hS : va_S A s.heap s.heap [] := va_S.rf
  have hl := lv_entry ([.ref (q 0), .int x]) (n := 3) (Nat.le_of_ble_eq_true rfl)
  rw [lg_entry_eq]
  generalize (lg_sl ([.ref (q 0), .int x]) ++ List.replicate (3 - (lg_sl ([.ref (q 0), .int x])).length) Slot.unset).toArray = ls at hl ⊢
  have hl : lv_has ls 3 [(0, .ref (q 0)), (1, .int x)] := hl
  refine lv_aload_n hx hb dX1_way_0 rfl (lv_at hl 0 rfl) ?_
  refine lv_iload_n hx hb dX1_way_1 rfl (lv_at hl 1 rfl) ?_
  refine kc_i (As := [.int x]) (rest := []) ⟨hx, hb, hml, hown, hts⟩ (c_isLeaf l D A q cB cI tl lv lb ln tp ll id ms sc st ((x))) (cwV 1 hts gX1_way_X1_isLeaf rfl rfl rfl (by decide +kernel) ⟨Nat.le_of_ble_eq_true rfl, Nat.le_of_ble_eq_true rfl⟩) (va_recv hK hP (ci := 1) (q0 := 0) rfl rfl) hK hP hD hS hZ rfl hl.1 rfl (Nat.le_of_ble_eq_true rfl) ⟨Nat.zero_le _, Nat.zero_le _⟩ dX1_way_2 (fun r_1 _ H locs hw hP hD hS => ?_)
  have hw : r_1 = (bz (lf (x) lv)) := hw
  subst hw
  have hP : va_P D vwCl (wk q cB cI tl lv lb ln tp ll id ms sc st) H := hP
  have hD : va_D A (wk q cB cI tl lv lb ln tp ll id ms sc st) := hD
  refine lv_if_ne (tgt := 10) hx hb dX1_way_5 (by decide) (fun c_5 => absurd (bz_1 c_5) (by rw [h1]; exact Bool.false_ne_true)) (fun c_5 => ?_)
  have c_5 : (lf (x) lv) = false := bz_0 c_5
  refine lv_iconst (v := ((-1 : Int32))) hx hb dX1_way_8 (by decide) ?_
  exact kr_i (()) hx hb hr hlocks hK hP hD hS (rfl) dX1_way_9

set_option maxHeartbeats 4000000 in
set_option maxRecDepth 100000 in
theorem c_way_y (l : Launch) (D : va_G) (A : Nat → Prop) (q : Nat → Nat) (cB cI : ClassId) (tl lv lb ln : Nat) (tp : Nat → Int32) (ll : Nat → Nat) (id ms sc st : Nat → Int32) (i0 : Nat) (h1 : i0 < lv) (h2 : lv ≤ 100) : Ki (S := Unit) l yX1_way wsX1_way { frames := 2, cells := 0, slots := 0, locals := 46 } D vwCl [(cB, .byte), (cI, .int)] A (zk q) [.ref (q 0), .int (nI i0)] (wk q cB cI tl lv lb ln tp ll id ms sc st) (fun r _ => r = (nI (stc lv i0 8))) (fun _ => (wk q cB cI tl lv lb ln tp ll id ms sc st)) := by
  refine Met.ofW (cc := cX1_way) (maxL := 3) (ret := (some .int)) (by decide) rfl ?_
  intro p e s m args below meth c s₁ B hml hv
  obtain ⟨rfl, hP, hK, hD, hZ⟩ := hv
  have hx := B.exec
  have hb := B.bytes
  have hr := B.returns
  have hts := atoms_spec (ws := wsX1_way) B.pre
  have hown : s.vm.findClass RX1 = some m.cls := findClass_of_methodNamed B.named
  have hlocks := B.notSynchronized
  have hS : va_S A s.heap s.heap [] := va_S.rf
  have hl := lv_entry ([.ref (q 0), .int (nI i0)]) (n := 3) (Nat.le_of_ble_eq_true rfl)
  rw [lg_entry_eq]
  generalize (lg_sl ([.ref (q 0), .int (nI i0)]) ++ List.replicate (3 - (lg_sl ([.ref (q 0), .int (nI i0)])).length) Slot.unset).toArray = ls at hl ⊢
  have hl : lv_has ls 3 [(0, .ref (q 0)), (1, .int (nI i0))] := hl
  refine lv_aload_n hx hb dX1_way_0 rfl (lv_at hl 0 rfl) ?_
  refine lv_iload_n hx hb dX1_way_1 rfl (lv_at hl 1 rfl) ?_
  refine kc_i (As := [.int (nI i0)]) (rest := []) ⟨hx, hb, hml, hown, hts⟩ (c_isLeaf l D A q cB cI tl lv lb ln tp ll id ms sc st ((nI (i0)))) (cwV 1 hts gX1_way_X1_isLeaf rfl rfl rfl (by decide +kernel) ⟨Nat.le_of_ble_eq_true rfl, Nat.le_of_ble_eq_true rfl⟩) (va_recv hK hP (ci := 1) (q0 := 0) rfl rfl) hK hP hD hS hZ rfl hl.1 rfl (Nat.le_of_ble_eq_true rfl) ⟨Nat.zero_le _, Nat.zero_le _⟩ dX1_way_2 (fun r_1 _ H locs hw hP hD hS => ?_)
  have hw : r_1 = (bz (lf (nI (i0)) lv)) := hw
  subst hw
  have hP : va_P D vwCl (wk q cB cI tl lv lb ln tp ll id ms sc st) H := hP
  have hD : va_D A (wk q cB cI tl lv lb ln tp ll id ms sc st) := hD
  refine lv_if_ne (tgt := 10) hx hb dX1_way_5 (by decide) (fun c_5 => ?_) (fun c_5 => absurd (lf_n (by omega) h1) (by rw [bz_0 c_5]; exact Bool.false_ne_true))
  have c_5 : (lf (nI (i0)) lv) = true := bz_1 c_5
  refine lv_iconst (v := (nI (0))) hx hb dX1_way_10 (by decide) ?_
  refine lv_istore_n (lv' := [(2, .int (nI 0)), (0, .ref (q 0)), (1, .int (nI i0))]) hx hb dX1_way_11 rfl hl (by decide) rfl (fun ls hl => ?_)
  refine kp_lp (hd := 12) (nn := 8) (fun (i : Nat) (H : Heap) (locs : List Loc) (ls : Array Slot) => (i ≤ stc lv i0 8) ∧ va_P D vwCl (wk q cB cI tl lv lb ln tp ll id ms sc st) H ∧ va_D A (wk q cB cI tl lv lb ln tp ll id ms sc st) ∧ va_S A s.heap H locs ∧ lv_has ls 3 [(0, .ref (q 0)), (1, .int (nI i0)), (2, .int (nI i))]) ?_ 0 (by omega) _ _ _ ⟨Nat.zero_le _, hP, hD, hS, (lv_sub hl [1, 2, 0] rfl)⟩
  intro i hiN H locs ls hI ih
  obtain ⟨hI_0, hP, hD, hS, hl⟩ := hI
  refine lv_iload_n hx hb dX1_way_12 rfl (lv_at hl 2 rfl) ?_
  refine lv_bipush (v := (nI (8))) hx hb dX1_way_13 (by decide) ?_
  refine lv_icmp_ge (tgt := 33) hx hb dX1_way_15 (by decide) (fun c_15 => ?_) (fun c_15 => ?_)
  · have c_15 : 8 ≤ i := kn_le c_15 (by omega) (by omega)
    have e9 : 8 = i := by omega
    subst e9
    refine lv_iload_n hx hb dX1_way_33 rfl (lv_at hl 2 rfl) ?_
    exact kr_i (()) hx hb hr hlocks hK hP hD hS (by first | rw [hend] | exact way_8 hI_0) dX1_way_34
  · have c_15 : i < 8 := kn_nle c_15 (by omega) (by omega)
    have hlt : i < 8 := c_15
    refine lv_aload_n hx hb dX1_way_18 rfl (lv_at hl 0 rfl) ?_
    refine lv_iload_n hx hb dX1_way_19 rfl (lv_at hl 1 rfl) ?_
    refine lv_iload_n hx hb dX1_way_20 rfl (lv_at hl 2 rfl) ?_
    refine kc_i (As := [.int (nI i0), .int (nI i)]) (rest := []) ⟨hx, hb, hml, hown, hts⟩ (c_levelOfStep l D A q cB cI tl lv lb ln tp ll id ms sc st ((nI (i0))) ((nI (i))) (by omega)) (cwV 2 hts gX1_way_X1_levelOfStep rfl rfl rfl (by decide +kernel) ⟨Nat.le_of_ble_eq_true rfl, Nat.le_of_ble_eq_true rfl⟩) (va_recv hK hP (ci := 1) (q0 := 0) rfl rfl) hK hP hD hS hZ rfl hl.1 rfl (Nat.le_of_ble_eq_true rfl) ⟨Nat.zero_le _, Nat.zero_le _⟩ dX1_way_21 (fun r_2 _ H locs hw hP hD hS => ?_)
    have hP : va_P D vwCl (wk q cB cI tl lv lb ln tp ll id ms sc st) H := hP
    have hD : va_D A (wk q cB cI tl lv lb ln tp ll id ms sc st) := hD
    refine lv_if_lt (tgt := 33) hx hb dX1_way_24 (by decide) (fun c_24 => ?_) (fun c_24 => ?_)
    · have hend := way_no h1 (by omega) (by omega) hI_0 hw c_24
      refine lv_iload_n hx hb dX1_way_33 rfl (lv_at hl 2 rfl) ?_
      exact kr_i (()) hx hb hr hlocks hK hP hD hS (by first | rw [hend] | exact way_8 hI_0) dX1_way_34
    · have hnx := way_go h1 (by omega) (by omega) hw c_24
      refine lv_iinc (v := (nI (i + 1))) (lv' := [(2, .int (nI (i + 1))), (0, .ref (q 0)), (1, .int (nI i0))]) hx hb dX1_way_27 hl (k := 2) rfl (kn_inc _ _ 1 rfl) (by decide) rfl (fun ls hl => ?_)
      refine lv_goto (tgt := 12) hx hb dX1_way_30 (by decide) ?_
      exact ih hlt _ _ _ ⟨hnx, hP, hD, hS, (lv_sub hl [1, 2, 0] rfl)⟩

set_option maxHeartbeats 4000000 in
set_option maxRecDepth 100000 in
theorem c_beside (l : Launch) (D : va_G) (A : Nat → Prop) (q : Nat → Nat) (cB cI : ClassId) (tl lv lb ln : Nat) (tp : Nat → Int32) (ll : Nat → Nat) (id ms sc st : Nat → Int32) (x : Int32) (y : Int32) (z : Int32) (h1 : lv ≤ 100) : Kl (S := Unit) l yX1_beside wsX1_beside { frames := 2, cells := 0, slots := 0, locals := 46 } D vwCl [(cB, .byte), (cI, .int)] A (zk q) [.ref (q 0), .int x, .int y, .int z] (wk q cB cI tl lv lb ln tp ll id ms sc st) (fun r _ => (∃ i J t : Nat, x = nI i ∧ y = nI J ∧ i < lv ∧ J < 2 ^ 31 ∧ t < 8 ∧ hbt lv i t = true ∧ stc lv i t = J ∧ r = e8 (nd id (lsv t + xo (i / 2 ^ t))) z) ∨ (r = 0 ∧ ∀ i J t : Nat, x = nI i → y = nI J → i < lv → J < 2 ^ 31 → t < 8 → hbt lv i t = true → stc lv i t ≠ J)) (fun _ => (wk q cB cI tl lv lb ln tp ll id ms sc st)) := by
  refine Met.ofW (cc := cX1_beside) (maxL := 5) (ret := (some .long)) (by decide) rfl ?_
  intro p e s m args below meth c s₁ B hml hv
  obtain ⟨rfl, hP, hK, hD, hZ⟩ := hv
  have hx := B.exec
  have hb := B.bytes
  have hr := B.returns
  have hts := atoms_spec (ws := wsX1_beside) B.pre
  have hown : s.vm.findClass RX1 = some m.cls := findClass_of_methodNamed B.named
  have hlocks := B.notSynchronized
  have hS : va_S A s.heap s.heap [] := va_S.rf
  have hl := lv_entry ([.ref (q 0), .int x, .int y, .int z]) (n := 5) (Nat.le_of_ble_eq_true rfl)
  rw [lg_entry_eq]
  generalize (lg_sl ([.ref (q 0), .int x, .int y, .int z]) ++ List.replicate (5 - (lg_sl ([.ref (q 0), .int x, .int y, .int z])).length) Slot.unset).toArray = ls at hl ⊢
  have hl : lv_has ls 5 [(0, .ref (q 0)), (1, .int x), (2, .int y), (3, .int z)] := hl
  refine lv_aload_n hx hb dX1_beside_0 rfl (lv_at hl 0 rfl) ?_
  refine lv_iload_n hx hb dX1_beside_1 rfl (lv_at hl 1 rfl) ?_
  refine lv_iload_n hx hb dX1_beside_2 rfl (lv_at hl 2 rfl) ?_
  refine kc_i (As := [.int x, .int y]) (rest := []) ⟨hx, hb, hml, hown, hts⟩ (c_levelOfStep l D A q cB cI tl lv lb ln tp ll id ms sc st ((x)) ((y)) (by omega)) (cwV 2 hts gX1_beside_X1_levelOfStep rfl rfl rfl (by decide +kernel) ⟨Nat.le_of_ble_eq_true rfl, Nat.le_of_ble_eq_true rfl⟩) (va_recv hK hP (ci := 1) (q0 := 0) rfl rfl) hK hP hD hS hZ rfl hl.1 rfl (Nat.le_of_ble_eq_true rfl) ⟨Nat.zero_le _, Nat.zero_le _⟩ dX1_beside_3 (fun r_1 _ H locs hw hP hD hS => ?_)
  have hP : va_P D vwCl (wk q cB cI tl lv lb ln tp ll id ms sc st) H := hP
  have hD : va_D A (wk q cB cI tl lv lb ln tp ll id ms sc st) := hD
  refine lv_istore (lv' := [(4, .int r_1), (0, .ref (q 0)), (1, .int x), (2, .int y), (3, .int z)]) hx hb dX1_beside_6 hl (by decide) rfl (fun ls hl => ?_)
  refine lv_iload hx hb dX1_beside_8 (lv_at hl 0 rfl) ?_
  refine lv_if_ge (tgt := 15) hx hb dX1_beside_10 (by decide) (fun c_10 => ?_) (fun c_10 => ?_)
  · obtain ⟨i, J, t, rfl, rfl, hi, hJ, ht, hb8, hs8, rfl⟩ := los_ge hw c_10
    have hdv : i / 2 ^ t ≤ i := Nat.div_le_self _ _
    have hft := fit_x hi (by omega) ht hb8
    refine lv_aload_n hx hb dX1_beside_15 rfl (lv_at hl 1 rfl) ?_
    refine lv_iload hx hb dX1_beside_16 (lv_at hl 0 rfl) ?_
    refine lv_iload_n hx hb dX1_beside_18 rfl (lv_at hl 2 rfl) ?_
    refine lv_iload hx hb dX1_beside_19 (lv_at hl 0 rfl) ?_
    refine lv_ishr hx hb dX1_beside_21 ?_
    refine kp_i (y := (nI (i / 2 ^ t))) (nt_sh (by omega) (by omega)) ?_
    refine kcs_i (As := [.int (nI t), .int (nI (i / 2 ^ t))]) (rest := [.ref (q 0)]) ⟨hx, hb, hml, hown, hts⟩ (c_nodeBeside l D A q cB cI (wk q cB cI tl lv lb ln tp ll id ms sc st) t (i / 2 ^ t) (by omega) (by omega)) (cwS 2 hts gX1_beside_X1_nodeBeside rfl rfl rfl (by decide +kernel) ⟨Nat.le_of_ble_eq_true rfl, Nat.le_of_ble_eq_true rfl⟩) hK hP hD hS hZ rfl hl.1 rfl (Nat.le_of_ble_eq_true rfl) ⟨Nat.zero_le _, Nat.zero_le _⟩ dX1_beside_22 (fun r_2 _ H locs hw hP hD hS => ?_)
    have hw : r_2 = (nI (lsv t + xo (i / 2 ^ t))) := hw
    subst hw
    have hP : va_P D vwCl (wk q cB cI tl lv lb ln tp ll id ms sc st) H := hP
    have hD : va_D A (wk q cB cI tl lv lb ln tp ll id ms sc st) := hD
    refine lv_iload_n hx hb dX1_beside_25 rfl (lv_at hl 4 rfl) ?_
    refine kc_l (As := [.int (nI (lsv t + xo (i / 2 ^ t))), .int z]) (rest := []) ⟨hx, hb, hml, hown, hts⟩ (c_eightBytes l D A q cB cI tl lv lb ln tp ll id ms sc st (lsv t + xo (i / 2 ^ t)) ((z)) (by omega)) (cwV 2 hts gX1_beside_X1_eightBytes rfl rfl rfl (by decide +kernel) ⟨Nat.le_of_ble_eq_true rfl, Nat.le_of_ble_eq_true rfl⟩) (va_recv hK hP (ci := 1) (q0 := 0) rfl rfl) hK hP hD hS hZ rfl hl.1 rfl (Nat.le_of_ble_eq_true rfl) ⟨Nat.zero_le _, Nat.zero_le _⟩ dX1_beside_26 (fun r_3 _ H locs hw hP hD hS => ?_)
    have hw : r_3 = (e8 (nd id (lsv t + xo (i / 2 ^ t))) (z)) := hw
    subst hw
    have hP : va_P D vwCl (wk q cB cI tl lv lb ln tp ll id ms sc st) H := hP
    have hD : va_D A (wk q cB cI tl lv lb ln tp ll id ms sc st) := hD
    exact kr_l (()) hx hb hr hlocks hK hP hD hS (Or.inl ⟨i, J, t, rfl, rfl, hi, hJ, ht, hb8, hs8, rfl⟩) dX1_beside_29
  · have hno := los_lt hw c_10
    refine lv_lconst (v := 0) hx hb dX1_beside_13 (by decide) ?_
    exact kr_l (()) hx hb hr hlocks hK hP hD hS (Or.inr ⟨rfl, hno⟩) dX1_beside_14

set_option maxHeartbeats 4000000 in
set_option maxRecDepth 100000 in
theorem c_isLeft (l : Launch) (D : va_G) (A : Nat → Prop) (q : Nat → Nat) (cB cI : ClassId) (tl lv lb ln : Nat) (tp : Nat → Int32) (ll : Nat → Nat) (id ms sc st : Nat → Int32) (x : Int32) (y : Int32) (h1 : lv ≤ 100) : Ki (S := Unit) l yX1_isLeft wsX1_isLeft { frames := 2, cells := 0, slots := 0, locals := 46 } D vwCl [(cB, .byte), (cI, .int)] A (zk q) [.ref (q 0), .int x, .int y] (wk q cB cI tl lv lb ln tp ll id ms sc st) (fun r _ => (∃ i J t : Nat, x = nI i ∧ y = nI J ∧ i < lv ∧ J < 2 ^ 31 ∧ t < 8 ∧ hbt lv i t = true ∧ stc lv i t = J ∧ r = nI (i / 2 ^ t % 2)) ∨ (r = -1 ∧ ∀ i J t : Nat, x = nI i → y = nI J → i < lv → J < 2 ^ 31 → t < 8 → hbt lv i t = true → stc lv i t ≠ J)) (fun _ => (wk q cB cI tl lv lb ln tp ll id ms sc st)) := by
  refine Met.ofW (cc := cX1_isLeft) (maxL := 4) (ret := (some .int)) (by decide) rfl ?_
  intro p e s m args below meth c s₁ B hml hv
  obtain ⟨rfl, hP, hK, hD, hZ⟩ := hv
  have hx := B.exec
  have hb := B.bytes
  have hr := B.returns
  have hts := atoms_spec (ws := wsX1_isLeft) B.pre
  have hown : s.vm.findClass RX1 = some m.cls := findClass_of_methodNamed B.named
  have hlocks := B.notSynchronized
  have hS : va_S A s.heap s.heap [] := va_S.rf
  have hl := lv_entry ([.ref (q 0), .int x, .int y]) (n := 4) (Nat.le_of_ble_eq_true rfl)
  rw [lg_entry_eq]
  generalize (lg_sl ([.ref (q 0), .int x, .int y]) ++ List.replicate (4 - (lg_sl ([.ref (q 0), .int x, .int y])).length) Slot.unset).toArray = ls at hl ⊢
  have hl : lv_has ls 4 [(0, .ref (q 0)), (1, .int x), (2, .int y)] := hl
  refine lv_aload_n hx hb dX1_isLeft_0 rfl (lv_at hl 0 rfl) ?_
  refine lv_iload_n hx hb dX1_isLeft_1 rfl (lv_at hl 1 rfl) ?_
  refine lv_iload_n hx hb dX1_isLeft_2 rfl (lv_at hl 2 rfl) ?_
  refine kc_i (As := [.int x, .int y]) (rest := []) ⟨hx, hb, hml, hown, hts⟩ (c_levelOfStep l D A q cB cI tl lv lb ln tp ll id ms sc st ((x)) ((y)) (by omega)) (cwV 2 hts gX1_isLeft_X1_levelOfStep rfl rfl rfl (by decide +kernel) ⟨Nat.le_of_ble_eq_true rfl, Nat.le_of_ble_eq_true rfl⟩) (va_recv hK hP (ci := 1) (q0 := 0) rfl rfl) hK hP hD hS hZ rfl hl.1 rfl (Nat.le_of_ble_eq_true rfl) ⟨Nat.zero_le _, Nat.zero_le _⟩ dX1_isLeft_3 (fun r_1 _ H locs hw hP hD hS => ?_)
  have hP : va_P D vwCl (wk q cB cI tl lv lb ln tp ll id ms sc st) H := hP
  have hD : va_D A (wk q cB cI tl lv lb ln tp ll id ms sc st) := hD
  refine lv_istore_n (lv' := [(3, .int r_1), (0, .ref (q 0)), (1, .int x), (2, .int y)]) hx hb dX1_isLeft_6 rfl hl (by decide) rfl (fun ls hl => ?_)
  refine lv_iload_n hx hb dX1_isLeft_7 rfl (lv_at hl 0 rfl) ?_
  refine lv_if_ge (tgt := 13) hx hb dX1_isLeft_8 (by decide) (fun c_8 => ?_) (fun c_8 => ?_)
  · obtain ⟨i, J, t, rfl, rfl, hi, hJ, ht, hb8, hs8, rfl⟩ := los_ge hw c_8
    have hdv : i / 2 ^ t ≤ i := Nat.div_le_self _ _
    have hft := fit_x hi (by omega) ht hb8
    refine lv_iload_n hx hb dX1_isLeft_13 rfl (lv_at hl 2 rfl) ?_
    refine lv_iload_n hx hb dX1_isLeft_14 rfl (lv_at hl 0 rfl) ?_
    refine lv_ishr hx hb dX1_isLeft_15 ?_
    refine kp_i (y := (nI (i / 2 ^ t))) (nt_sh (by omega) (by omega)) ?_
    refine lv_iconst (v := (nI (1))) hx hb dX1_isLeft_16 (by decide) ?_
    refine lv_iand hx hb dX1_isLeft_17 ?_
    refine kp_i (y := (nI (i / 2 ^ t % 2))) (nt_od _ (by omega)) ?_
    exact kr_i (()) hx hb hr hlocks hK hP hD hS (Or.inl ⟨i, J, t, rfl, rfl, hi, hJ, ht, hb8, hs8, rfl⟩) dX1_isLeft_18
  · have hno := los_lt hw c_8
    refine lv_iconst (v := ((-1 : Int32))) hx hb dX1_isLeft_11 (by decide) ?_
    exact kr_i (()) hx hb hr hlocks hK hP hD hS (Or.inr ⟨rfl, hno⟩) dX1_isLeft_12

set_option maxHeartbeats 4000000 in
set_option maxRecDepth 100000 in
theorem c_proves_n (l : Launch) (D : va_G) (A : Nat → Prop) (q : Nat → Nat) (cB cI : ClassId) (tl lv lb ln : Nat) (tp : Nat → Int32) (ll : Nat → Nat) (id ms sc st : Nat → Int32) (x : Int32) (h1 : lf x lv = false) : Ki (S := Unit) l yX1_proves wsX1_proves { frames := 4, cells := 0, slots := 0, locals := 101 } D vwCl [(cB, .byte), (cI, .int)] A (zk q) [.ref (q 0), .int x] (wk q cB cI tl lv lb ln tp ll id ms sc st) (fun r _ => r = ((-1 : Int32))) (fun _ => (wk q cB cI tl lv lb ln tp ll id ms sc st)) := by
  refine Met.ofW (cc := cX1_proves) (maxL := 7) (ret := (some .int)) (by decide) rfl ?_
  intro p e s m args below meth c s₁ B hml hv
  obtain ⟨rfl, hP, hK, hD, hZ⟩ := hv
  have hx := B.exec
  have hb := B.bytes
  have hr := B.returns
  have hts := atoms_spec (ws := wsX1_proves) B.pre
  have hown : s.vm.findClass RX1 = some m.cls := findClass_of_methodNamed B.named
  have hlocks := B.notSynchronized
  have hS : va_S A s.heap s.heap [] := va_S.rf
  have hl := lv_entry ([.ref (q 0), .int x]) (n := 7) (Nat.le_of_ble_eq_true rfl)
  rw [lg_entry_eq]
  generalize (lg_sl ([.ref (q 0), .int x]) ++ List.replicate (7 - (lg_sl ([.ref (q 0), .int x])).length) Slot.unset).toArray = ls at hl ⊢
  have hl : lv_has ls 7 [(0, .ref (q 0)), (1, .int x)] := hl
  refine lv_aload_n hx hb dX1_proves_0 rfl (lv_at hl 0 rfl) ?_
  refine lv_iload_n hx hb dX1_proves_1 rfl (lv_at hl 1 rfl) ?_
  refine kc_i (As := [.int x]) (rest := []) ⟨hx, hb, hml, hown, hts⟩ (c_isLeaf l D A q cB cI tl lv lb ln tp ll id ms sc st ((x))) (cwV 1 hts gX1_proves_X1_isLeaf rfl rfl rfl (by decide +kernel) ⟨Nat.le_of_ble_eq_true rfl, Nat.le_of_ble_eq_true rfl⟩) (va_recv hK hP (ci := 1) (q0 := 0) rfl rfl) hK hP hD hS hZ rfl hl.1 rfl (Nat.le_of_ble_eq_true rfl) ⟨Nat.zero_le _, Nat.zero_le _⟩ dX1_proves_2 (fun r_1 _ H locs hw hP hD hS => ?_)
  have hw : r_1 = (bz (lf (x) lv)) := hw
  subst hw
  have hP : va_P D vwCl (wk q cB cI tl lv lb ln tp ll id ms sc st) H := hP
  have hD : va_D A (wk q cB cI tl lv lb ln tp ll id ms sc st) := hD
  refine lv_if_ne (tgt := 10) hx hb dX1_proves_5 (by decide) (fun c_5 => absurd (bz_1 c_5) (by rw [h1]; exact Bool.false_ne_true)) (fun c_5 => ?_)
  have c_5 : (lf (x) lv) = false := bz_0 c_5
  refine lv_iconst (v := ((-1 : Int32))) hx hb dX1_proves_8 (by decide) ?_
  exact kr_i (()) hx hb hr hlocks hK hP hD hS (rfl) dX1_proves_9

set_option maxHeartbeats 4000000 in
set_option maxRecDepth 100000 in
theorem c_proves_y (l : Launch) (D : va_G) (A : Nat → Prop) (q : Nat → Nat) (cB cI : ClassId) (tl lv lb ln : Nat) (tp : Nat → Int32) (ll : Nat → Nat) (id ms sc st : Nat → Int32) (i0 : Nat) (h1 : i0 < lv) (h2 : lv ≤ 100) (h3 : tl ≤ 150) : Ki (S := (Nat × (Nat → Int32) × (Nat → Int32) × (Nat → Int32))) l yX1_proves wsX1_proves { frames := 4, cells := 0, slots := 0, locals := 101 } D vwCl [(cB, .byte), (cI, .int)] A (zk q) [.ref (q 0), .int (nI i0)] (wk q cB cI tl lv lb ln tp ll id ms sc st) (fun r _ => r = bz (sm (pvh lv i0 id (lfh tp tl) 8) (nd id (lsv (rl lv))) 8)) (fun u => (wk q cB cI tl lv lb u.1 tp ll (pn id 202 (pvh lv i0 id (lfh tp tl) 8)) u.2.1 u.2.2.1 u.2.2.2)) := by
  refine Met.ofW (cc := cX1_proves) (maxL := 7) (ret := (some .int)) (by decide) rfl ?_
  intro p e s m args below meth c s₁ B hml hv
  obtain ⟨rfl, hP, hK, hD, hZ⟩ := hv
  have hx := B.exec
  have hb := B.bytes
  have hr := B.returns
  have hts := atoms_spec (ws := wsX1_proves) B.pre
  have hown : s.vm.findClass RX1 = some m.cls := findClass_of_methodNamed B.named
  have hlocks := B.notSynchronized
  have hS : va_S A s.heap s.heap [] := va_S.rf
  have hin_1 : ∀ w ∈ u_ws RX1 TX1 7, w ∈ wsX1_proves := by decide +kernel
  have lk_31 := hts (.fieldLink RX1 31 "RootDesk" "leaves" "I") (by decide +kernel)
  have lk_63 := hts (.fieldLink RX1 63 "RootDesk" "LEVEL_START" "[I") (by decide +kernel)
  have hl := lv_entry ([.ref (q 0), .int (nI i0)]) (n := 7) (Nat.le_of_ble_eq_true rfl)
  rw [lg_entry_eq]
  generalize (lg_sl ([.ref (q 0), .int (nI i0)]) ++ List.replicate (7 - (lg_sl ([.ref (q 0), .int (nI i0)])).length) Slot.unset).toArray = ls at hl ⊢
  have hl : lv_has ls 7 [(0, .ref (q 0)), (1, .int (nI i0))] := hl
  refine lv_aload_n hx hb dX1_proves_0 rfl (lv_at hl 0 rfl) ?_
  refine lv_iload_n hx hb dX1_proves_1 rfl (lv_at hl 1 rfl) ?_
  refine kc_i (As := [.int (nI i0)]) (rest := []) ⟨hx, hb, hml, hown, hts⟩ (c_isLeaf l D A q cB cI tl lv lb ln tp ll id ms sc st ((nI (i0)))) (cwV 1 hts gX1_proves_X1_isLeaf rfl rfl rfl (by decide +kernel) ⟨Nat.le_of_ble_eq_true rfl, Nat.le_of_ble_eq_true rfl⟩) (va_recv hK hP (ci := 1) (q0 := 0) rfl rfl) hK hP hD hS hZ rfl hl.1 rfl (Nat.le_of_ble_eq_true rfl) ⟨Nat.zero_le _, Nat.zero_le _⟩ dX1_proves_2 (fun r_1 _ H locs hw hP hD hS => ?_)
  have hw : r_1 = (bz (lf (nI (i0)) lv)) := hw
  subst hw
  have hP : va_P D vwCl (wk q cB cI tl lv lb ln tp ll id ms sc st) H := hP
  have hD : va_D A (wk q cB cI tl lv lb ln tp ll id ms sc st) := hD
  refine lv_if_ne (tgt := 10) hx hb dX1_proves_5 (by decide) (fun c_5 => ?_) (fun c_5 => absurd (lf_n (by omega) h1) (by rw [bz_0 c_5]; exact Bool.false_ne_true))
  have c_5 : (lf (nI (i0)) lv) = true := bz_1 c_5
  refine lv_aload_n hx hb dX1_proves_10 rfl (lv_at hl 0 rfl) ?_
  refine lv_sipush (v := (nI (202))) hx hb dX1_proves_11 (by decide) ?_
  refine kc_v (As := [.int (nI 202)]) (rest := []) ⟨hx, hb, hml, hown, hts⟩ (c_makeLeafId l D A q cB cI tl lv lb ln tp ll id ms sc st 202 (by decide) h3) (cwV 1 hts gX1_proves_X1_makeLeafId rfl rfl rfl (by decide +kernel) ⟨Nat.le_of_ble_eq_true rfl, Nat.le_of_ble_eq_true rfl⟩) (va_recv hK hP (ci := 1) (q0 := 0) rfl rfl) hK hP hD hS hZ rfl hl.1 rfl (Nat.le_of_ble_eq_true rfl) ⟨Nat.zero_le _, Nat.zero_le _⟩ dX1_proves_14 (fun u_2 H locs _ hP hD hS => ?_)
  have hP : va_P D vwCl (wk q cB cI tl lv lb u_2.1 tp ll (pn id 202 (lfh tp tl)) u_2.2.1 u_2.2.2.1 u_2.2.2.2) H := hP
  have hD : va_D A (wk q cB cI tl lv lb u_2.1 tp ll (pn id 202 (lfh tp tl)) u_2.2.1 u_2.2.2.1 u_2.2.2.2) := hD
  refine lv_aload_n hx hb dX1_proves_17 rfl (lv_at hl 0 rfl) ?_
  refine va_get (D := D) (ci := 1) (v := .int (nI lv)) (C := RX1) (T := TX1) (N := 7) hx hb hts hin_1 hown hK hP 0 rfl rfl 3 (by decide) lk_31 (fun _ h9 => h9) rfl dX1_proves_18 ?_
  refine lv_istore_n (lv' := [(2, .int (nI lv)), (0, .ref (q 0)), (1, .int (nI i0))]) hx hb dX1_proves_21 rfl hl (by decide) rfl (fun ls hl => ?_)
  refine lv_iconst (v := (nI (0))) hx hb dX1_proves_22 (by decide) ?_
  refine lv_istore_n (lv' := [(3, .int (nI 0)), (2, .int (nI lv)), (0, .ref (q 0)), (1, .int (nI i0))]) hx hb dX1_proves_23 rfl hl (by decide) rfl (fun ls hl => ?_)
  refine kp_lp (hd := 24) (nn := 8) (fun (i : Nat) (H : Heap) (locs : List Loc) (ls : Array Slot) => ∃ (u : Nat × (Nat → Int32) × (Nat → Int32) × (Nat → Int32)), va_P D vwCl (wk q cB cI tl lv lb u.1 tp ll (pn id 202 (pvh lv i0 id (lfh tp tl) i)) u.2.1 u.2.2.1 u.2.2.2) H ∧ va_D A (wk q cB cI tl lv lb u.1 tp ll (pn id 202 (pvh lv i0 id (lfh tp tl) i)) u.2.1 u.2.2.1 u.2.2.2) ∧ va_S A s.heap H locs ∧ lv_has ls 7 [(0, .ref (q 0)), (1, .int (nI i0)), (2, .int (nI (wdl lv i))), (3, .int (nI i))]) ?_ 0 (by omega) _ _ _ ⟨u_2, hP, hD, hS, (lv_sub hl [2, 3, 1, 0] rfl)⟩
  intro i hiN H locs ls hI ih
  obtain ⟨u, hP, hD, hS, hl⟩ := hI
  have hwi := wdl_le lv i
  have hdv : i0 / 2 ^ i ≤ i0 := Nat.div_le_self _ _
  refine lv_iload_n hx hb dX1_proves_24 rfl (lv_at hl 3 rfl) ?_
  refine lv_bipush (v := (nI (8))) hx hb dX1_proves_25 (by decide) ?_
  refine lv_icmp_ge (tgt := 111) hx hb dX1_proves_27 (by decide) (fun c_27 => ?_) (fun c_27 => ?_)
  · have c_27 : 8 ≤ i := kn_le c_27 (by omega) (by omega)
    have e9 : 8 = i := by omega
    subst e9
    have hr8 := rl_lt lv
    have hfit := lsv_fit1 (rl lv) hr8
    refine lv_aload_n hx hb dX1_proves_111 rfl (lv_at hl 0 rfl) ?_
    refine lv_sipush (v := (nI (202))) hx hb dX1_proves_112 (by decide) ?_
    refine kz_get hx hb hZ hS 0 rfl hown lk_63 dX1_proves_115 ?_
    refine lv_aload_n hx hb dX1_proves_118 rfl (lv_at hl 0 rfl) ?_
    refine kc_i (As := []) (rest := [.ref (q 8), .int (nI 202), .ref (q 0)]) ⟨hx, hb, hml, hown, hts⟩ (c_rootLevel l D A q cB cI tl lv lb u.1 tp ll (pn id 202 (pvh lv i0 id (lfh tp tl) 8)) u.2.1 u.2.2.1 u.2.2.2 (by omega)) (cwV 0 hts gX1_proves_X1_rootLevel rfl rfl rfl (by decide +kernel) ⟨Nat.le_of_ble_eq_true rfl, Nat.le_of_ble_eq_true rfl⟩) (va_recv hK hP (ci := 1) (q0 := 0) rfl rfl) hK hP hD hS hZ rfl hl.1 rfl (Nat.le_of_ble_eq_true rfl) ⟨Nat.zero_le _, Nat.zero_le _⟩ dX1_proves_119 (fun r_3 _ H locs hw hP hD hS => ?_)
    have hw : r_3 = (nI (rl lv)) := hw
    subst hw
    have hP : va_P D vwCl (wk q cB cI tl lv lb u.1 tp ll (pn id 202 (pvh lv i0 id (lfh tp tl) 8)) u.2.1 u.2.2.1 u.2.2.2) H := hP
    have hD : va_D A (wk q cB cI tl lv lb u.1 tp ll (pn id 202 (pvh lv i0 id (lfh tp tl) 8)) u.2.1 u.2.2.1 u.2.2.2) := hD
    refine kz_ld hx hb hZ hS 0 rfl (rl lv) (rfl) (by omega) (by decide) dX1_proves_122 ?_
    refine kc_i (As := [.int (nI 202), .int (nI (lsv (rl lv)))]) (rest := []) ⟨hx, hb, hml, hown, hts⟩ (c_sameIds l D A q cB cI tl lv lb u.1 tp ll (pn id 202 (pvh lv i0 id (lfh tp tl) 8)) u.2.1 u.2.2.1 u.2.2.2 202 (lsv (rl lv)) (by omega) (by omega)) (cwV 2 hts gX1_proves_X1_sameIds rfl rfl rfl (by decide +kernel) ⟨Nat.le_of_ble_eq_true rfl, Nat.le_of_ble_eq_true rfl⟩) (va_recv hK hP (ci := 1) (q0 := 0) rfl rfl) hK hP hD hS hZ rfl hl.1 rfl (Nat.le_of_ble_eq_true rfl) ⟨Nat.zero_le _, Nat.zero_le _⟩ dX1_proves_123 (fun r_4 _ H locs hw hP hD hS => ?_)
    have hw : r_4 = (bz (sm (nd (pn id 202 (pvh lv i0 id (lfh tp tl) 8)) 202) (nd (pn id 202 (pvh lv i0 id (lfh tp tl) 8)) (lsv (rl lv))) 8)) := hw
    subst hw
    have hP : va_P D vwCl (wk q cB cI tl lv lb u.1 tp ll (pn id 202 (pvh lv i0 id (lfh tp tl) 8)) u.2.1 u.2.2.1 u.2.2.2) H := hP
    have hD : va_D A (wk q cB cI tl lv lb u.1 tp ll (pn id 202 (pvh lv i0 id (lfh tp tl) 8)) u.2.1 u.2.2.1 u.2.2.2) := hD
    refine lv_if_eq (tgt := 133) hx hb dX1_proves_126 (by decide) (fun c_126 => ?_) (fun c_126 => ?_)
    · have c_126 : (sm (nd (pn id 202 (pvh lv i0 id (lfh tp tl) 8)) 202) (nd (pn id 202 (pvh lv i0 id (lfh tp tl) 8)) (lsv (rl lv))) 8) = false := bz_0 c_126
      refine lv_iconst (v := ((0 : Int32))) hx hb dX1_proves_133 (by decide) ?_
      exact kr_i (u) hx hb hr hlocks hK hP hD hS (by first | exact pv_end1 (lsv_fit2 _ hr8) c_126 | exact pv_end0 (lsv_fit2 _ hr8) c_126) dX1_proves_134
    · have c_126 : (sm (nd (pn id 202 (pvh lv i0 id (lfh tp tl) 8)) 202) (nd (pn id 202 (pvh lv i0 id (lfh tp tl) 8)) (lsv (rl lv))) 8) = true := bz_1 c_126
      refine lv_iconst (v := ((1 : Int32))) hx hb dX1_proves_129 (by decide) ?_
      refine lv_goto (tgt := 134) hx hb dX1_proves_130 (by decide) ?_
      exact kr_i (u) hx hb hr hlocks hK hP hD hS (by first | exact pv_end1 (lsv_fit2 _ hr8) c_126 | exact pv_end0 (lsv_fit2 _ hr8) c_126) dX1_proves_134
  · have c_27 : i < 8 := kn_nle c_27 (by omega) (by omega)
    have hlt : i < 8 := c_27
    refine lv_iload_n hx hb dX1_proves_30 rfl (lv_at hl 1 rfl) ?_
    refine lv_iload_n hx hb dX1_proves_31 rfl (lv_at hl 3 rfl) ?_
    refine lv_ishr hx hb dX1_proves_32 ?_
    refine kp_i (y := (nI (i0 / 2 ^ i))) (nt_sh (by omega) (by omega)) ?_
    refine lv_istore (lv' := [(4, .int (nI (i0 / 2 ^ i))), (0, .ref (q 0)), (1, .int (nI i0)), (2, .int (nI (wdl lv i))), (3, .int (nI i))]) hx hb dX1_proves_33 hl (by decide) rfl (fun ls hl => ?_)
    refine lv_iload hx hb dX1_proves_35 (lv_at hl 0 rfl) ?_
    refine lv_iload_n hx hb dX1_proves_37 rfl (lv_at hl 3 rfl) ?_
    refine kcs_i (As := [.int (nI (i0 / 2 ^ i)), .int (nI (wdl lv i))]) (rest := []) ⟨hx, hb, hml, hown, hts⟩ (c_hasOneBeside l D A q cB cI (wk q cB cI tl lv lb u.1 tp ll (pn id 202 (pvh lv i0 id (lfh tp tl) i)) u.2.1 u.2.2.1 u.2.2.2) (i0 / 2 ^ i) (wdl lv i) (by omega) (by omega)) (cwS 2 hts gX1_proves_X1_hasOneBeside rfl rfl rfl (by decide +kernel) ⟨Nat.le_of_ble_eq_true rfl, Nat.le_of_ble_eq_true rfl⟩) hK hP hD hS hZ rfl hl.1 rfl (Nat.le_of_ble_eq_true rfl) ⟨Nat.zero_le _, Nat.zero_le _⟩ dX1_proves_38 (fun r_5 _ H locs hw hP hD hS => ?_)
    have hw : r_5 = (bz (decide (xo (i0 / 2 ^ i) < (wdl lv i)))) := hw
    subst hw
    have hP : va_P D vwCl (wk q cB cI tl lv lb u.1 tp ll (pn id 202 (pvh lv i0 id (lfh tp tl) i)) u.2.1 u.2.2.1 u.2.2.2) H := hP
    have hD : va_D A (wk q cB cI tl lv lb u.1 tp ll (pn id 202 (pvh lv i0 id (lfh tp tl) i)) u.2.1 u.2.2.1 u.2.2.2) := hD
    refine lv_if_eq (tgt := 100) hx hb dX1_proves_41 (by decide) (fun c_41 => ?_) (fun c_41 => ?_)
    · have c_41 : (decide (xo (i0 / 2 ^ i) < (wdl lv i))) = false := bz_0 c_41
      have c_41 : hbt lv i0 i = false := c_41
      rw [← pv_f c_41] at hP hD
      have hP : va_P D vwCl (wk q cB cI tl lv lb u.1 tp ll (pn id 202 (pvh lv i0 id (lfh tp tl) (i + 1))) u.2.1 u.2.2.1 u.2.2.2) H := hP
      have hD : va_D A (wk q cB cI tl lv lb u.1 tp ll (pn id 202 (pvh lv i0 id (lfh tp tl) (i + 1))) u.2.1 u.2.2.1 u.2.2.2) := hD
      refine lv_iload_n hx hb dX1_proves_100 rfl (lv_at hl 3 rfl) ?_
      refine kcs_i (As := [.int (nI (wdl lv i))]) (rest := []) ⟨hx, hb, hml, hown, hts⟩ (c_widthAbove l D A q cB cI (wk q cB cI tl lv lb u.1 tp ll (pn id 202 (pvh lv i0 id (lfh tp tl) (i + 1))) u.2.1 u.2.2.1 u.2.2.2) (wdl lv i) (by omega)) (cwS 1 hts gX1_proves_X1_widthAbove rfl rfl rfl (by decide +kernel) ⟨Nat.le_of_ble_eq_true rfl, Nat.le_of_ble_eq_true rfl⟩) hK hP hD hS hZ rfl hl.1 rfl (Nat.le_of_ble_eq_true rfl) ⟨Nat.zero_le _, Nat.zero_le _⟩ dX1_proves_101 (fun r_6 _ H locs hw hP hD hS => ?_)
      have hw : r_6 = (nI (((wdl lv i) + 1) / 2)) := hw
      subst hw
      have hP : va_P D vwCl (wk q cB cI tl lv lb u.1 tp ll (pn id 202 (pvh lv i0 id (lfh tp tl) (i + 1))) u.2.1 u.2.2.1 u.2.2.2) H := hP
      have hD : va_D A (wk q cB cI tl lv lb u.1 tp ll (pn id 202 (pvh lv i0 id (lfh tp tl) (i + 1))) u.2.1 u.2.2.1 u.2.2.2) := hD
      refine lv_istore_n (lv' := [(2, .int (nI (((wdl lv i) + 1) / 2))), (4, .int (nI (i0 / 2 ^ i))), (0, .ref (q 0)), (1, .int (nI i0)), (3, .int (nI i))]) hx hb dX1_proves_104 rfl hl (by decide) rfl (fun ls hl => ?_)
      refine lv_iinc (v := (nI (i + 1))) (lv' := [(3, .int (nI (i + 1))), (2, .int (nI (((wdl lv i) + 1) / 2))), (4, .int (nI (i0 / 2 ^ i))), (0, .ref (q 0)), (1, .int (nI i0))]) hx hb dX1_proves_105 hl (k := 4) rfl (kn_inc _ _ 1 rfl) (by decide) rfl (fun ls hl => ?_)
      refine lv_goto (tgt := 24) hx hb dX1_proves_108 (by decide) ?_
      exact ih hlt _ _ _ ⟨u, hP, hD, hS, (lv_sub hl [3, 4, 1, 0] rfl)⟩
    · have c_41 : (decide (xo (i0 / 2 ^ i) < (wdl lv i))) = true := bz_1 c_41
      have c_41 : hbt lv i0 i = true := c_41
      have hft := fit_x2 h1 h2 hlt c_41
      refine lv_iload_n hx hb dX1_proves_44 rfl (lv_at hl 4 rfl) ?_
      refine lv_iload hx hb dX1_proves_45 (lv_at hl 0 rfl) ?_
      refine kcs_i (As := [.int (nI i), .int (nI (i0 / 2 ^ i))]) (rest := []) ⟨hx, hb, hml, hown, hts⟩ (c_nodeBeside l D A q cB cI (wk q cB cI tl lv lb u.1 tp ll (pn id 202 (pvh lv i0 id (lfh tp tl) i)) u.2.1 u.2.2.1 u.2.2.2) i (i0 / 2 ^ i) (by omega) (by omega)) (cwS 2 hts gX1_proves_X1_nodeBeside rfl rfl rfl (by decide +kernel) ⟨Nat.le_of_ble_eq_true rfl, Nat.le_of_ble_eq_true rfl⟩) hK hP hD hS hZ rfl hl.1 rfl (Nat.le_of_ble_eq_true rfl) ⟨Nat.zero_le _, Nat.zero_le _⟩ dX1_proves_47 (fun r_7 _ H locs hw hP hD hS => ?_)
      have hw : r_7 = (nI (lsv i + xo (i0 / 2 ^ i))) := hw
      subst hw
      have hP : va_P D vwCl (wk q cB cI tl lv lb u.1 tp ll (pn id 202 (pvh lv i0 id (lfh tp tl) i)) u.2.1 u.2.2.1 u.2.2.2) H := hP
      have hD : va_D A (wk q cB cI tl lv lb u.1 tp ll (pn id 202 (pvh lv i0 id (lfh tp tl) i)) u.2.1 u.2.2.1 u.2.2.2) := hD
      refine lv_istore (lv' := [(5, .int (nI (lsv i + xo (i0 / 2 ^ i)))), (4, .int (nI (i0 / 2 ^ i))), (0, .ref (q 0)), (1, .int (nI i0)), (2, .int (nI (wdl lv i))), (3, .int (nI i))]) hx hb dX1_proves_50 hl (by decide) rfl (fun ls hl => ?_)
      refine lv_iload hx hb dX1_proves_52 (lv_at hl 1 rfl) ?_
      refine lv_iconst (v := (nI (1))) hx hb dX1_proves_54 (by decide) ?_
      refine lv_iand hx hb dX1_proves_55 ?_
      refine kp_i (y := (nI (i0 / 2 ^ i % 2))) (nt_od _ (by omega)) ?_
      refine lv_iconst (v := (nI (1))) hx hb dX1_proves_56 (by decide) ?_
      refine lv_icmp_ne (tgt := 64) hx hb dX1_proves_57 (by decide) (fun c_57 => ?_) (fun c_57 => ?_)
      · have c_57 : (i0 / 2 ^ i % 2) ≠ 1 := kn_ne c_57 (by omega) (by omega)
        refine lv_iconst (v := ((0 : Int32))) hx hb dX1_proves_64 (by decide) ?_
        refine lv_istore (lv' := [(6, .int ((0 : Int32))), (5, .int (nI (lsv i + xo (i0 / 2 ^ i)))), (4, .int (nI (i0 / 2 ^ i))), (0, .ref (q 0)), (1, .int (nI i0)), (2, .int (nI (wdl lv i))), (3, .int (nI i))]) hx hb dX1_proves_65 hl (by decide) rfl (fun ls hl => ?_)
        refine lv_aload_n hx hb dX1_proves_67 rfl (lv_at hl 3 rfl) ?_
        refine lv_iload hx hb dX1_proves_68 (lv_at hl 0 rfl) ?_
        refine lv_if_eq (tgt := 78) hx hb dX1_proves_70 (by decide) (fun c_70 => ?_) (fun c_70 => absurd c_70 (by decide))
        refine lv_sipush (v := (nI (202))) hx hb dX1_proves_78 (by decide) ?_
        refine lv_iload hx hb dX1_proves_81 (lv_at hl 0 rfl) ?_
        refine lv_if_eq (tgt := 92) hx hb dX1_proves_83 (by decide) (fun c_83 => ?_) (fun c_83 => absurd c_83 (by decide))
        refine lv_iload hx hb dX1_proves_92 (lv_at hl 1 rfl) ?_
        refine lv_sipush (v := (nI (202))) hx hb dX1_proves_94 (by decide) ?_
        refine kc_v (As := [.int (nI 202), .int (nI (lsv i + xo (i0 / 2 ^ i))), .int (nI 202)]) (rest := []) ⟨hx, hb, hml, hown, hts⟩ (c_join l D A q cB cI tl lv lb u.1 tp ll (pn id 202 (pvh lv i0 id (lfh tp tl) i)) u.2.1 u.2.2.1 u.2.2.2 202 (lsv i + xo (i0 / 2 ^ i)) 202 (by omega) (by omega) (by decide)) (cwV 3 hts gX1_proves_X1_join rfl rfl rfl (by decide +kernel) ⟨Nat.le_of_ble_eq_true rfl, Nat.le_of_ble_eq_true rfl⟩) (va_recv hK hP (ci := 1) (q0 := 0) rfl rfl) hK hP hD hS hZ rfl hl.1 rfl (Nat.le_of_ble_eq_true rfl) ⟨Nat.zero_le _, Nat.zero_le _⟩ dX1_proves_97 (fun u_8 H locs _ hP hD hS => ?_)
        have hP : va_P D vwCl (wk q cB cI tl lv lb u_8.1 tp ll (pn (pn id 202 (pvh lv i0 id (lfh tp tl) i)) 202 (ndh (nd (pn id 202 (pvh lv i0 id (lfh tp tl) i)) 202) (nd (pn id 202 (pvh lv i0 id (lfh tp tl) i)) (lsv i + xo (i0 / 2 ^ i))))) u_8.2.1 u_8.2.2.1 u_8.2.2.2) H := hP
        have hD : va_D A (wk q cB cI tl lv lb u_8.1 tp ll (pn (pn id 202 (pvh lv i0 id (lfh tp tl) i)) 202 (ndh (nd (pn id 202 (pvh lv i0 id (lfh tp tl) i)) 202) (nd (pn id 202 (pvh lv i0 id (lfh tp tl) i)) (lsv i + xo (i0 / 2 ^ i))))) u_8.2.1 u_8.2.2.1 u_8.2.2.2) := hD
        first | rw [pv_o c_41 hft c_57] at hP hD | rw [pv_e c_41 hft c_57] at hP hD
        have hP : va_P D vwCl (wk q cB cI tl lv lb u_8.1 tp ll (pn id 202 (pvh lv i0 id (lfh tp tl) (i + 1))) u_8.2.1 u_8.2.2.1 u_8.2.2.2) H := hP
        have hD : va_D A (wk q cB cI tl lv lb u_8.1 tp ll (pn id 202 (pvh lv i0 id (lfh tp tl) (i + 1))) u_8.2.1 u_8.2.2.1 u_8.2.2.2) := hD
        refine lv_iload_n hx hb dX1_proves_100 rfl (lv_at hl 5 rfl) ?_
        refine kcs_i (As := [.int (nI (wdl lv i))]) (rest := []) ⟨hx, hb, hml, hown, hts⟩ (c_widthAbove l D A q cB cI (wk q cB cI tl lv lb u_8.1 tp ll (pn id 202 (pvh lv i0 id (lfh tp tl) (i + 1))) u_8.2.1 u_8.2.2.1 u_8.2.2.2) (wdl lv i) (by omega)) (cwS 1 hts gX1_proves_X1_widthAbove rfl rfl rfl (by decide +kernel) ⟨Nat.le_of_ble_eq_true rfl, Nat.le_of_ble_eq_true rfl⟩) hK hP hD hS hZ rfl hl.1 rfl (Nat.le_of_ble_eq_true rfl) ⟨Nat.zero_le _, Nat.zero_le _⟩ dX1_proves_101 (fun r_9 _ H locs hw hP hD hS => ?_)
        have hw : r_9 = (nI (((wdl lv i) + 1) / 2)) := hw
        subst hw
        have hP : va_P D vwCl (wk q cB cI tl lv lb u_8.1 tp ll (pn id 202 (pvh lv i0 id (lfh tp tl) (i + 1))) u_8.2.1 u_8.2.2.1 u_8.2.2.2) H := hP
        have hD : va_D A (wk q cB cI tl lv lb u_8.1 tp ll (pn id 202 (pvh lv i0 id (lfh tp tl) (i + 1))) u_8.2.1 u_8.2.2.1 u_8.2.2.2) := hD
        refine lv_istore_n (lv' := [(2, .int (nI (((wdl lv i) + 1) / 2))), (6, .int ((0 : Int32))), (5, .int (nI (lsv i + xo (i0 / 2 ^ i)))), (4, .int (nI (i0 / 2 ^ i))), (0, .ref (q 0)), (1, .int (nI i0)), (3, .int (nI i))]) hx hb dX1_proves_104 rfl hl (by decide) rfl (fun ls hl => ?_)
        refine lv_iinc (v := (nI (i + 1))) (lv' := [(3, .int (nI (i + 1))), (2, .int (nI (((wdl lv i) + 1) / 2))), (6, .int ((0 : Int32))), (5, .int (nI (lsv i + xo (i0 / 2 ^ i)))), (4, .int (nI (i0 / 2 ^ i))), (0, .ref (q 0)), (1, .int (nI i0))]) hx hb dX1_proves_105 hl (k := 6) rfl (kn_inc _ _ 1 rfl) (by decide) rfl (fun ls hl => ?_)
        refine lv_goto (tgt := 24) hx hb dX1_proves_108 (by decide) ?_
        exact ih hlt _ _ _ ⟨u_8, hP, hD, hS, (lv_sub hl [5, 6, 1, 0] rfl)⟩
      · have c_57 : (i0 / 2 ^ i % 2) = 1 := kn_eq c_57 (by omega) (by omega)
        refine lv_iconst (v := ((1 : Int32))) hx hb dX1_proves_60 (by decide) ?_
        refine lv_goto (tgt := 65) hx hb dX1_proves_61 (by decide) ?_
        refine lv_istore (lv' := [(6, .int ((1 : Int32))), (5, .int (nI (lsv i + xo (i0 / 2 ^ i)))), (4, .int (nI (i0 / 2 ^ i))), (0, .ref (q 0)), (1, .int (nI i0)), (2, .int (nI (wdl lv i))), (3, .int (nI i))]) hx hb dX1_proves_65 hl (by decide) rfl (fun ls hl => ?_)
        refine lv_aload_n hx hb dX1_proves_67 rfl (lv_at hl 3 rfl) ?_
        refine lv_iload hx hb dX1_proves_68 (lv_at hl 0 rfl) ?_
        refine lv_if_eq (tgt := 78) hx hb dX1_proves_70 (by decide) (fun c_70 => absurd c_70 (by decide)) (fun c_70 => ?_)
        refine lv_iload hx hb dX1_proves_73 (lv_at hl 1 rfl) ?_
        refine lv_goto (tgt := 81) hx hb dX1_proves_75 (by decide) ?_
        refine lv_iload hx hb dX1_proves_81 (lv_at hl 0 rfl) ?_
        refine lv_if_eq (tgt := 92) hx hb dX1_proves_83 (by decide) (fun c_83 => absurd c_83 (by decide)) (fun c_83 => ?_)
        refine lv_sipush (v := (nI (202))) hx hb dX1_proves_86 (by decide) ?_
        refine lv_goto (tgt := 94) hx hb dX1_proves_89 (by decide) ?_
        refine lv_sipush (v := (nI (202))) hx hb dX1_proves_94 (by decide) ?_
        refine kc_v (As := [.int (nI (lsv i + xo (i0 / 2 ^ i))), .int (nI 202), .int (nI 202)]) (rest := []) ⟨hx, hb, hml, hown, hts⟩ (c_join l D A q cB cI tl lv lb u.1 tp ll (pn id 202 (pvh lv i0 id (lfh tp tl) i)) u.2.1 u.2.2.1 u.2.2.2 (lsv i + xo (i0 / 2 ^ i)) 202 202 (by omega) (by omega) (by decide)) (cwV 3 hts gX1_proves_X1_join rfl rfl rfl (by decide +kernel) ⟨Nat.le_of_ble_eq_true rfl, Nat.le_of_ble_eq_true rfl⟩) (va_recv hK hP (ci := 1) (q0 := 0) rfl rfl) hK hP hD hS hZ rfl hl.1 rfl (Nat.le_of_ble_eq_true rfl) ⟨Nat.zero_le _, Nat.zero_le _⟩ dX1_proves_97 (fun u_10 H locs _ hP hD hS => ?_)
        have hP : va_P D vwCl (wk q cB cI tl lv lb u_10.1 tp ll (pn (pn id 202 (pvh lv i0 id (lfh tp tl) i)) 202 (ndh (nd (pn id 202 (pvh lv i0 id (lfh tp tl) i)) (lsv i + xo (i0 / 2 ^ i))) (nd (pn id 202 (pvh lv i0 id (lfh tp tl) i)) 202))) u_10.2.1 u_10.2.2.1 u_10.2.2.2) H := hP
        have hD : va_D A (wk q cB cI tl lv lb u_10.1 tp ll (pn (pn id 202 (pvh lv i0 id (lfh tp tl) i)) 202 (ndh (nd (pn id 202 (pvh lv i0 id (lfh tp tl) i)) (lsv i + xo (i0 / 2 ^ i))) (nd (pn id 202 (pvh lv i0 id (lfh tp tl) i)) 202))) u_10.2.1 u_10.2.2.1 u_10.2.2.2) := hD
        first | rw [pv_o c_41 hft c_57] at hP hD | rw [pv_e c_41 hft c_57] at hP hD
        have hP : va_P D vwCl (wk q cB cI tl lv lb u_10.1 tp ll (pn id 202 (pvh lv i0 id (lfh tp tl) (i + 1))) u_10.2.1 u_10.2.2.1 u_10.2.2.2) H := hP
        have hD : va_D A (wk q cB cI tl lv lb u_10.1 tp ll (pn id 202 (pvh lv i0 id (lfh tp tl) (i + 1))) u_10.2.1 u_10.2.2.1 u_10.2.2.2) := hD
        refine lv_iload_n hx hb dX1_proves_100 rfl (lv_at hl 5 rfl) ?_
        refine kcs_i (As := [.int (nI (wdl lv i))]) (rest := []) ⟨hx, hb, hml, hown, hts⟩ (c_widthAbove l D A q cB cI (wk q cB cI tl lv lb u_10.1 tp ll (pn id 202 (pvh lv i0 id (lfh tp tl) (i + 1))) u_10.2.1 u_10.2.2.1 u_10.2.2.2) (wdl lv i) (by omega)) (cwS 1 hts gX1_proves_X1_widthAbove rfl rfl rfl (by decide +kernel) ⟨Nat.le_of_ble_eq_true rfl, Nat.le_of_ble_eq_true rfl⟩) hK hP hD hS hZ rfl hl.1 rfl (Nat.le_of_ble_eq_true rfl) ⟨Nat.zero_le _, Nat.zero_le _⟩ dX1_proves_101 (fun r_11 _ H locs hw hP hD hS => ?_)
        have hw : r_11 = (nI (((wdl lv i) + 1) / 2)) := hw
        subst hw
        have hP : va_P D vwCl (wk q cB cI tl lv lb u_10.1 tp ll (pn id 202 (pvh lv i0 id (lfh tp tl) (i + 1))) u_10.2.1 u_10.2.2.1 u_10.2.2.2) H := hP
        have hD : va_D A (wk q cB cI tl lv lb u_10.1 tp ll (pn id 202 (pvh lv i0 id (lfh tp tl) (i + 1))) u_10.2.1 u_10.2.2.1 u_10.2.2.2) := hD
        refine lv_istore_n (lv' := [(2, .int (nI (((wdl lv i) + 1) / 2))), (6, .int ((1 : Int32))), (5, .int (nI (lsv i + xo (i0 / 2 ^ i)))), (4, .int (nI (i0 / 2 ^ i))), (0, .ref (q 0)), (1, .int (nI i0)), (3, .int (nI i))]) hx hb dX1_proves_104 rfl hl (by decide) rfl (fun ls hl => ?_)
        refine lv_iinc (v := (nI (i + 1))) (lv' := [(3, .int (nI (i + 1))), (2, .int (nI (((wdl lv i) + 1) / 2))), (6, .int ((1 : Int32))), (5, .int (nI (lsv i + xo (i0 / 2 ^ i)))), (4, .int (nI (i0 / 2 ^ i))), (0, .ref (q 0)), (1, .int (nI i0))]) hx hb dX1_proves_105 hl (k := 6) rfl (kn_inc _ _ 1 rfl) (by decide) rfl (fun ls hl => ?_)
        refine lv_goto (tgt := 24) hx hb dX1_proves_108 (by decide) ?_
        exact ih hlt _ _ _ ⟨u_10, hP, hD, hS, (lv_sub hl [5, 6, 1, 0] rfl)⟩

set_option maxHeartbeats 4000000 in
set_option maxRecDepth 100000 in
theorem c_count_0 (l : Launch) (D : va_G) (A : Nat → Prop) (q : Nat → Nat) (cB cI : ClassId) (tl lv lb ln : Nat) (tp : Nat → Int32) (ll : Nat → Nat) (id ms sc st : Nat → Int32) : Ki (S := Unit) l yX1_count wsX1_count { frames := 2, cells := 0, slots := 0, locals := 42 } D vwCl [(cB, .byte), (cI, .int)] A (zk q) [.ref (q 0), .int ((0 : Int32))] (wk q cB cI tl lv lb ln tp ll id ms sc st) (fun r _ => r = (nI (tl))) (fun _ => (wk q cB cI tl lv lb ln tp ll id ms sc st)) := by
  refine Met.ofW (cc := cX1_count) (maxL := 2) (ret := (some .int)) (by decide) rfl ?_
  intro p e s m args below meth c s₁ B hml hv
  obtain ⟨rfl, hP, hK, hD, hZ⟩ := hv
  have hx := B.exec
  have hb := B.bytes
  have hr := B.returns
  have hts := atoms_spec (ws := wsX1_count) B.pre
  have hown : s.vm.findClass RX1 = some m.cls := findClass_of_methodNamed B.named
  have hlocks := B.notSynchronized
  have hS : va_S A s.heap s.heap [] := va_S.rf
  have hin_1 : ∀ w ∈ u_ws RX1 TX1 7, w ∈ wsX1_count := by decide +kernel
  have lk_27 := hts (.fieldLink RX1 27 "RootDesk" "tapeLength" "I") (by decide +kernel)
  have hl := lv_entry ([.ref (q 0), .int ((0 : Int32))]) (n := 2) (Nat.le_of_ble_eq_true rfl)
  rw [lg_entry_eq]
  generalize (lg_sl ([.ref (q 0), .int ((0 : Int32))]) ++ List.replicate (2 - (lg_sl ([.ref (q 0), .int ((0 : Int32))])).length) Slot.unset).toArray = ls at hl ⊢
  have hl : lv_has ls 2 [(0, .ref (q 0)), (1, .int ((0 : Int32)))] := hl
  refine lv_iload_n hx hb dX1_count_0 rfl (lv_at hl 1 rfl) ?_
  refine lv_tableIn (tgt := 32) hx hb dX1_count_1 (by decide) (by decide) rfl (by decide) ?_
  refine lv_aload_n hx hb dX1_count_32 rfl (lv_at hl 0 rfl) ?_
  refine va_get (D := D) (ci := 1) (v := .int (nI tl)) (C := RX1) (T := TX1) (N := 7) hx hb hts hin_1 hown hK hP 0 rfl rfl 1 (by decide) lk_27 (fun _ h9 => h9) rfl dX1_count_33 ?_
  exact kr_i (()) hx hb hr hlocks hK hP hD hS (rfl) dX1_count_36

set_option maxHeartbeats 4000000 in
set_option maxRecDepth 100000 in
theorem c_count_1 (l : Launch) (D : va_G) (A : Nat → Prop) (q : Nat → Nat) (cB cI : ClassId) (tl lv lb ln : Nat) (tp : Nat → Int32) (ll : Nat → Nat) (id ms sc st : Nat → Int32) : Ki (S := Unit) l yX1_count wsX1_count { frames := 2, cells := 0, slots := 0, locals := 42 } D vwCl [(cB, .byte), (cI, .int)] A (zk q) [.ref (q 0), .int ((1 : Int32))] (wk q cB cI tl lv lb ln tp ll id ms sc st) (fun r _ => r = (nI (lv))) (fun _ => (wk q cB cI tl lv lb ln tp ll id ms sc st)) := by
  refine Met.ofW (cc := cX1_count) (maxL := 2) (ret := (some .int)) (by decide) rfl ?_
  intro p e s m args below meth c s₁ B hml hv
  obtain ⟨rfl, hP, hK, hD, hZ⟩ := hv
  have hx := B.exec
  have hb := B.bytes
  have hr := B.returns
  have hts := atoms_spec (ws := wsX1_count) B.pre
  have hown : s.vm.findClass RX1 = some m.cls := findClass_of_methodNamed B.named
  have hlocks := B.notSynchronized
  have hS : va_S A s.heap s.heap [] := va_S.rf
  have hin_1 : ∀ w ∈ u_ws RX1 TX1 7, w ∈ wsX1_count := by decide +kernel
  have lk_31 := hts (.fieldLink RX1 31 "RootDesk" "leaves" "I") (by decide +kernel)
  have hl := lv_entry ([.ref (q 0), .int ((1 : Int32))]) (n := 2) (Nat.le_of_ble_eq_true rfl)
  rw [lg_entry_eq]
  generalize (lg_sl ([.ref (q 0), .int ((1 : Int32))]) ++ List.replicate (2 - (lg_sl ([.ref (q 0), .int ((1 : Int32))])).length) Slot.unset).toArray = ls at hl ⊢
  have hl : lv_has ls 2 [(0, .ref (q 0)), (1, .int ((1 : Int32)))] := hl
  refine lv_iload_n hx hb dX1_count_0 rfl (lv_at hl 1 rfl) ?_
  refine lv_tableIn (tgt := 37) hx hb dX1_count_1 (by decide) (by decide) rfl (by decide) ?_
  refine lv_aload_n hx hb dX1_count_37 rfl (lv_at hl 0 rfl) ?_
  refine va_get (D := D) (ci := 1) (v := .int (nI lv)) (C := RX1) (T := TX1) (N := 7) hx hb hts hin_1 hown hK hP 0 rfl rfl 3 (by decide) lk_31 (fun _ h9 => h9) rfl dX1_count_38 ?_
  exact kr_i (()) hx hb hr hlocks hK hP hD hS (rfl) dX1_count_41

set_option maxHeartbeats 4000000 in
set_option maxRecDepth 100000 in
theorem c_count_2 (l : Launch) (D : va_G) (A : Nat → Prop) (q : Nat → Nat) (cB cI : ClassId) (tl lv lb ln : Nat) (tp : Nat → Int32) (ll : Nat → Nat) (id ms sc st : Nat → Int32) (h1 : lv ≤ 100) : Ki (S := Unit) l yX1_count wsX1_count { frames := 2, cells := 0, slots := 0, locals := 42 } D vwCl [(cB, .byte), (cI, .int)] A (zk q) [.ref (q 0), .int ((2 : Int32))] (wk q cB cI tl lv lb ln tp ll id ms sc st) (fun r _ => r = (nI (if lv < 1 then 0 else rl lv + 1))) (fun _ => (wk q cB cI tl lv lb ln tp ll id ms sc st)) := by
  refine Met.ofW (cc := cX1_count) (maxL := 2) (ret := (some .int)) (by decide) rfl ?_
  intro p e s m args below meth c s₁ B hml hv
  obtain ⟨rfl, hP, hK, hD, hZ⟩ := hv
  have hx := B.exec
  have hb := B.bytes
  have hr := B.returns
  have hts := atoms_spec (ws := wsX1_count) B.pre
  have hown : s.vm.findClass RX1 = some m.cls := findClass_of_methodNamed B.named
  have hlocks := B.notSynchronized
  have hS : va_S A s.heap s.heap [] := va_S.rf
  have hin_1 : ∀ w ∈ u_ws RX1 TX1 7, w ∈ wsX1_count := by decide +kernel
  have lk_31 := hts (.fieldLink RX1 31 "RootDesk" "leaves" "I") (by decide +kernel)
  have hl := lv_entry ([.ref (q 0), .int ((2 : Int32))]) (n := 2) (Nat.le_of_ble_eq_true rfl)
  rw [lg_entry_eq]
  generalize (lg_sl ([.ref (q 0), .int ((2 : Int32))]) ++ List.replicate (2 - (lg_sl ([.ref (q 0), .int ((2 : Int32))])).length) Slot.unset).toArray = ls at hl ⊢
  have hl : lv_has ls 2 [(0, .ref (q 0)), (1, .int ((2 : Int32)))] := hl
  refine lv_iload_n hx hb dX1_count_0 rfl (lv_at hl 1 rfl) ?_
  refine lv_tableIn (tgt := 42) hx hb dX1_count_1 (by decide) (by decide) rfl (by decide) ?_
  refine lv_aload_n hx hb dX1_count_42 rfl (lv_at hl 0 rfl) ?_
  refine va_get (D := D) (ci := 1) (v := .int (nI lv)) (C := RX1) (T := TX1) (N := 7) hx hb hts hin_1 hown hK hP 0 rfl rfl 3 (by decide) lk_31 (fun _ h9 => h9) rfl dX1_count_43 ?_
  refine lv_iconst (v := (nI (1))) hx hb dX1_count_46 (by decide) ?_
  refine lv_icmp_ge (tgt := 54) hx hb dX1_count_47 (by decide) (fun c_47 => ?_) (fun c_47 => ?_)
  · have c_47 : 1 ≤ lv := kn_le c_47 (by omega) (by omega)
    refine lv_aload_n hx hb dX1_count_54 rfl (lv_at hl 0 rfl) ?_
    refine kc_i (As := []) (rest := []) ⟨hx, hb, hml, hown, hts⟩ (c_rootLevel l D A q cB cI tl lv lb ln tp ll id ms sc st (by omega)) (cwV 0 hts gX1_count_X1_rootLevel rfl rfl rfl (by decide +kernel) ⟨Nat.le_of_ble_eq_true rfl, Nat.le_of_ble_eq_true rfl⟩) (va_recv hK hP (ci := 1) (q0 := 0) rfl rfl) hK hP hD hS hZ rfl hl.1 rfl (Nat.le_of_ble_eq_true rfl) ⟨Nat.zero_le _, Nat.zero_le _⟩ dX1_count_55 (fun r_1 _ H locs hw hP hD hS => ?_)
    have hw : r_1 = (nI (rl lv)) := hw
    subst hw
    have hP : va_P D vwCl (wk q cB cI tl lv lb ln tp ll id ms sc st) H := hP
    have hD : va_D A (wk q cB cI tl lv lb ln tp ll id ms sc st) := hD
    refine lv_iconst (v := (nI (1))) hx hb dX1_count_58 (by decide) ?_
    refine lv_iadd hx hb dX1_count_59 ?_
    refine kp_i (nI_add _ _) ?_
    exact kr_i (()) hx hb hr hlocks hK hP hD hS (by first | rw [if_pos c_47] | rw [if_neg (by omega)]) dX1_count_60
  · have c_47 : lv < 1 := kn_nle c_47 (by omega) (by omega)
    refine lv_iconst (v := (nI (0))) hx hb dX1_count_50 (by decide) ?_
    refine lv_goto (tgt := 60) hx hb dX1_count_51 (by decide) ?_
    exact kr_i (()) hx hb hr hlocks hK hP hD hS (by first | rw [if_pos c_47] | rw [if_neg (by omega)]) dX1_count_60

set_option maxHeartbeats 4000000 in
set_option maxRecDepth 100000 in
theorem c_count_3 (l : Launch) (D : va_G) (A : Nat → Prop) (q : Nat → Nat) (cB cI : ClassId) (tl lv lb ln : Nat) (tp : Nat → Int32) (ll : Nat → Nat) (id ms sc st : Nat → Int32) : Ki (S := Unit) l yX1_count wsX1_count { frames := 2, cells := 0, slots := 0, locals := 42 } D vwCl [(cB, .byte), (cI, .int)] A (zk q) [.ref (q 0), .int ((3 : Int32))] (wk q cB cI tl lv lb ln tp ll id ms sc st) (fun r _ => r = (nI (lb))) (fun _ => (wk q cB cI tl lv lb ln tp ll id ms sc st)) := by
  refine Met.ofW (cc := cX1_count) (maxL := 2) (ret := (some .int)) (by decide) rfl ?_
  intro p e s m args below meth c s₁ B hml hv
  obtain ⟨rfl, hP, hK, hD, hZ⟩ := hv
  have hx := B.exec
  have hb := B.bytes
  have hr := B.returns
  have hts := atoms_spec (ws := wsX1_count) B.pre
  have hown : s.vm.findClass RX1 = some m.cls := findClass_of_methodNamed B.named
  have hlocks := B.notSynchronized
  have hS : va_S A s.heap s.heap [] := va_S.rf
  have hin_1 : ∀ w ∈ u_ws RX1 TX1 7, w ∈ wsX1_count := by decide +kernel
  have lk_34 := hts (.fieldLink RX1 34 "RootDesk" "leafBytes" "I") (by decide +kernel)
  have hl := lv_entry ([.ref (q 0), .int ((3 : Int32))]) (n := 2) (Nat.le_of_ble_eq_true rfl)
  rw [lg_entry_eq]
  generalize (lg_sl ([.ref (q 0), .int ((3 : Int32))]) ++ List.replicate (2 - (lg_sl ([.ref (q 0), .int ((3 : Int32))])).length) Slot.unset).toArray = ls at hl ⊢
  have hl : lv_has ls 2 [(0, .ref (q 0)), (1, .int ((3 : Int32)))] := hl
  refine lv_iload_n hx hb dX1_count_0 rfl (lv_at hl 1 rfl) ?_
  refine lv_tableIn (tgt := 61) hx hb dX1_count_1 (by decide) (by decide) rfl (by decide) ?_
  refine lv_aload_n hx hb dX1_count_61 rfl (lv_at hl 0 rfl) ?_
  refine va_get (D := D) (ci := 1) (v := .int (nI lb)) (C := RX1) (T := TX1) (N := 7) hx hb hts hin_1 hown hK hP 0 rfl rfl 4 (by decide) lk_34 (fun _ h9 => h9) rfl dX1_count_62 ?_
  exact kr_i (()) hx hb hr hlocks hK hP hD hS (rfl) dX1_count_65

set_option maxHeartbeats 4000000 in
set_option maxRecDepth 100000 in
theorem c_count_n (l : Launch) (D : va_G) (A : Nat → Prop) (q : Nat → Nat) (cB cI : ClassId) (tl lv lb ln : Nat) (tp : Nat → Int32) (ll : Nat → Nat) (id ms sc st : Nat → Int32) (x : Int32) (h1 : x.toInt < 0 ∨ 3 < x.toInt) : Ki (S := Unit) l yX1_count wsX1_count { frames := 2, cells := 0, slots := 0, locals := 42 } D vwCl [(cB, .byte), (cI, .int)] A (zk q) [.ref (q 0), .int x] (wk q cB cI tl lv lb ln tp ll id ms sc st) (fun r _ => r = ((-1 : Int32))) (fun _ => (wk q cB cI tl lv lb ln tp ll id ms sc st)) := by
  refine Met.ofW (cc := cX1_count) (maxL := 2) (ret := (some .int)) (by decide) rfl ?_
  intro p e s m args below meth c s₁ B hml hv
  obtain ⟨rfl, hP, hK, hD, hZ⟩ := hv
  have hx := B.exec
  have hb := B.bytes
  have hr := B.returns
  have hts := atoms_spec (ws := wsX1_count) B.pre
  have hown : s.vm.findClass RX1 = some m.cls := findClass_of_methodNamed B.named
  have hlocks := B.notSynchronized
  have hS : va_S A s.heap s.heap [] := va_S.rf
  have hl := lv_entry ([.ref (q 0), .int x]) (n := 2) (Nat.le_of_ble_eq_true rfl)
  rw [lg_entry_eq]
  generalize (lg_sl ([.ref (q 0), .int x]) ++ List.replicate (2 - (lg_sl ([.ref (q 0), .int x])).length) Slot.unset).toArray = ls at hl ⊢
  have hl : lv_has ls 2 [(0, .ref (q 0)), (1, .int x)] := hl
  refine lv_iload_n hx hb dX1_count_0 rfl (lv_at hl 1 rfl) ?_
  refine lv_tableOut (tgt := 66) hx hb dX1_count_1 h1 (by decide) ?_
  refine lv_iconst (v := ((-1 : Int32))) hx hb dX1_count_66 (by decide) ?_
  exact kr_i (()) hx hb hr hlocks hK hP hD hS (rfl) dX1_count_67
end
section
/-! the tree: what its nodes are, and that refreshing one way is enough -/
/-- the node x of level t over n leaves with the ids L -/
def nv (n : Nat) (L : Nat → Nat → Int32) : Nat → Nat → Nat → Int32
  | 0, x => L x
  | t + 1, x => if 2 * x + 1 < wdl n t then ndh (nv n L t (2 * x)) (nv n L t (2 * x + 1)) else nv n L t (2 * x)
theorem nv_s (n : Nat) (L : Nat → Nat → Int32) (t x : Nat) : nv n L (t + 1) x = if 2 * x + 1 < wdl n t then ndh (nv n L t (2 * x)) (nv n L t (2 * x + 1)) else nv n L t (2 * x) := rfl
theorem wdl_div (n t : Nat) : wdl (n + 1) t = n / 2 ^ t + 1 := by
  induction t with
  | zero =>
    show n + 1 = n / 1 + 1
    rw [Nat.div_one]
  | succ t ih =>
    show (wdl (n + 1) t + 1) / 2 = _
    rw [ih, ← nt_pw]
    omega
theorem nv_ne {n i : Nat} {L L' : Nat → Nat → Int32} (h : ∀ y, y ≠ i → L' y = L y) : ∀ t x, x ≠ i / 2 ^ t → nv n L' t x = nv n L t x := by
  intro t
  induction t with
  | zero =>
    intro x hx
    rw [Nat.pow_zero, Nat.div_one] at hx
    exact h x hx
  | succ t ih =>
    intro x hx
    rw [← nt_pw] at hx
    rw [nv_s, nv_s, ih (2 * x) (by omega), ih (2 * x + 1) (by omega)]
theorem nv_full {L L' : Nat → Nat → Int32} : ∀ (t x m m' : Nat), (x + 1) * 2 ^ t ≤ m → (x + 1) * 2 ^ t ≤ m' → (∀ y, y < (x + 1) * 2 ^ t → L y = L' y) → nv m L t x = nv m' L' t x := by
  intro t
  induction t with
  | zero =>
    intro x m m' h1 h2 h
    exact h x (by rw [Nat.pow_zero]; omega)
  | succ t ih =>
    intro x m m' h1 h2 h
    have e : (x + 1) * 2 ^ (t + 1) = (2 * x + 1 + 1) * 2 ^ t := by
      rw [Nat.pow_succ, Nat.mul_comm (2 ^ t) 2, ← Nat.mul_assoc]
      congr 1
      omega
    rw [e] at h1 h2 h
    have hp : 0 < 2 ^ t := Nat.two_pow_pos t
    have e2 : (2 * x + 1 + 1) * 2 ^ t = (2 * x + 1) * 2 ^ t + 2 ^ t := Nat.succ_mul _ _
    have key : ∀ k : Nat, (2 * x + 1 + 1) * 2 ^ t ≤ k → 2 * x + 1 < wdl k t := by
      intro k hk
      obtain ⟨k1, rfl⟩ : ∃ k1, k = k1 + 1 := ⟨k - 1, by omega⟩
      rw [wdl_div]
      have h3 : 2 * x + 1 ≤ k1 / 2 ^ t := (Nat.le_div_iff_mul_le hp).mpr (by omega)
      omega
    rw [nv_s, nv_s, if_pos (key m h1), if_pos (key m' h2)]
    have e3 : (2 * x + 1) * 2 ^ t ≤ (2 * x + 1 + 1) * 2 ^ t := by omega
    rw [ih (2 * x) m m' (by omega) (by omega) (fun y hy => h y (by omega)), ih (2 * x + 1) m m' h1 h2 h]
/-- two rows of ids hold the same node -/
def same8 (f g : Nat → Int32) : Prop := ∀ j, j < 8 → f j = g j
/-- the ids are the tree's -/
def Ti (n : Nat) (L : Nat → Nat → Int32) (id : Nat → Int32) : Prop := ∀ t, t ≤ rl n → ∀ x, x < wdl n t → same8 (nd id (lsv t + x)) (nv n L t x)
/-- .. up to level t, and beyond it off the way of i -/
def Tj (n i : Nat) (L : Nat → Nat → Int32) (id : Nat → Int32) (t : Nat) : Prop := ∀ u, u ≤ rl n → ∀ x, x < wdl n u → (u ≤ t ∨ x ≠ i / 2 ^ u) → same8 (nd id (lsv u + x)) (nv n L u x)
theorem lsv_apart : ∀ u, u < 8 → ∀ v, v < 8 → u < v → lsv u + wdl 100 u ≤ lsv v := by decide +kernel
theorem node_ne {n u v x y : Nat} (hn : n ≤ 100) (hu : u < 8) (hv : v < 8) (hx : x < wdl n u) (hy : y < wdl n v) (h : u ≠ v ∨ x ≠ y) : lsv u + x ≠ lsv v + y := by
  have h1 := wdl_mono hn u
  have h2 := wdl_mono hn v
  rcases Nat.lt_trichotomy u v with q | q | q
  · have h3 := lsv_apart u hu v hv q
    omega
  · subst q
    omega
  · have h3 := lsv_apart v hv u hu q
    omega
theorem Tj_step {n i t : Nat} {L : Nat → Nat → Int32} {id : Nat → Int32} (hi : i < n) (hn : n ≤ 100) (ht : t < rl n) (h : Tj n i L id t) : Tj n i L (rf1 n i t id) (t + 1) := by
  have hr := rl_lt n
  have hin := wdl_in hi t
  have hin1 := wdl_in hi (t + 1)
  have hpw := nt_pw i t
  intro u hu x hx hux j hj
  by_cases q : u = t + 1 ∧ x = i / 2 ^ (t + 1)
  · obtain ⟨rfl, rfl⟩ := q
    have hc : i / 2 ^ t / 2 * 2 = 2 * (i / 2 ^ (t + 1)) := by omega
    have hl : same8 (nd id (lsv t + 2 * (i / 2 ^ (t + 1)))) (nv n L t (2 * (i / 2 ^ (t + 1)))) := h t (by omega) _ (by omega) (Or.inl (Nat.le_refl t))
    rw [nv_s]
    unfold rf1
    rw [hc]
    by_cases hb : hbt n i t = true
    · have h3 : xo (i / 2 ^ t) < wdl n t := of_decide_eq_true hb
      have h4 : 2 * (i / 2 ^ (t + 1)) + 1 < wdl n t := by
        unfold xo at h3
        split at h3 <;> omega
      rw [if_pos hb, if_pos h4, pn_same _ _ _ hj]
      exact hm_ndm hl (h t (by omega) _ h4 (Or.inl (Nat.le_refl t))) j hj
    · have h4 : ¬ 2 * (i / 2 ^ (t + 1)) + 1 < wdl n t := by
        intro h4
        refine hb (decide_eq_true ?_)
        unfold xo
        split <;> omega
      rw [if_neg hb, if_neg h4, pn_same _ _ _ hj]
      exact hl j hj
  · have hne : lsv u + x ≠ lsv (t + 1) + i / 2 ^ (t + 1) := node_ne hn (by omega) (by omega) hx hin1 (by omega)
    have e : nd (rf1 n i t id) (lsv u + x) j = nd id (lsv u + x) j := by
      unfold rf1
      split
      · exact pn_ne _ _ hne hj
      · exact pn_ne _ _ hne hj
    rw [e]
    refine h u hu x hx ?_ j hj
    rcases hux with z | z
    · rcases Nat.lt_or_eq_of_le z with z2 | z2
      · exact Or.inl (by omega)
      · subst z2
        exact Or.inr (fun c => q ⟨rfl, c⟩)
    · exact Or.inr z
theorem Tj_all {n i : Nat} {L : Nat → Nat → Int32} {id : Nat → Int32} (hi : i < n) (hn : n ≤ 100) (h : Tj n i L id 0) : ∀ t, t ≤ rl n → Tj n i L (rfa n i id t) t := by
  intro t
  induction t with
  | zero => exact fun _ => h
  | succ t ih => exact fun ht => Tj_step hi hn (by omega) (ih (by omega))
theorem Ti_rfa {n i : Nat} {L : Nat → Nat → Int32} {id : Nat → Int32} (hi : i < n) (hn : n ≤ 100) (h : Tj n i L id 0) : Ti n L (rfa n i id (rl n)) := fun t ht x hx => Tj_all hi hn h (rl n) (Nat.le_refl _) t ht x hx (Or.inl ht)
theorem rl_pow : ∀ n, n < 101 → n ≤ 2 ^ rl n := by decide +kernel
/-- a node off the last leaf's way is full -/
theorem full_of {n t x : Nat} (hx : x < wdl (n + 1) t) (h : x ≠ n / 2 ^ t) : (x + 1) * 2 ^ t ≤ n := by
  rw [wdl_div] at hx
  exact (Nat.le_div_iff_mul_le (Nat.two_pow_pos t)).mp (by omega)
theorem full_in {n t x : Nat} (hn : n ≤ 100) (h : (x + 1) * 2 ^ t ≤ n) : t ≤ rl n ∧ x < wdl n t := by
  have hp : 0 < 2 ^ t := Nat.two_pow_pos t
  have h1 : 2 ^ t ≤ (x + 1) * 2 ^ t := Nat.le_mul_of_pos_left _ (Nat.succ_pos x)
  refine ⟨?_, ?_⟩
  · have h2 := rl_pow n (by omega)
    exact (Nat.pow_le_pow_iff_right (a := 2) (by decide)).mp (by omega)
  · obtain ⟨k, rfl⟩ : ∃ k, n = k + 1 := ⟨n - 1, by omega⟩
    rw [wdl_div]
    have e2 : (x + 1) * 2 ^ t = x * 2 ^ t + 2 ^ t := Nat.succ_mul _ _
    have h3 : x ≤ k / 2 ^ t := (Nat.le_div_iff_mul_le hp).mpr (by omega)
    omega
/-- leaf i is another one now -/
theorem Tj_change {n i : Nat} {L : Nat → Nat → Int32} {id F : Nat → Int32} (hi : i < n) (hn : n ≤ 100) (h : Ti n L id) : Tj n i (va_up L i F) (pn id i F) 0 := by
  have hr := rl_lt n
  intro u hu x hx hux j hj
  by_cases q : u = 0 ∧ x = i
  · obtain ⟨rfl, rfl⟩ := q
    show nd _ (0 + x) j = va_up L x F x j
    rw [Nat.zero_add, pn_same _ _ _ hj, va_up_self]
  · have hd : i / 2 ^ 0 = i := by rw [Nat.pow_zero, Nat.div_one]
    have hxi : x ≠ i / 2 ^ u := by
      rcases hux with z | z
      · have z0 : u = 0 := by omega
        subst z0
        rw [hd]
        exact fun c => q ⟨rfl, c⟩
      · exact z
    have hne : lsv u + x ≠ lsv 0 + i := node_ne hn (by omega) (by decide) hx hi (by omega)
    have e0 : lsv 0 = 0 := rfl
    rw [pn_ne _ _ (by omega) hj, nv_ne (L := L) (fun y hy => va_up_ne _ _ hy) u x hxi]
    exact h u hu x hx j hj
/-- one leaf more, the last -/
theorem Tj_add {n : Nat} {L : Nat → Nat → Int32} {id F : Nat → Int32} (hn : n < 100) (h : Ti n L id) : Tj (n + 1) n (va_up L n F) (pn id n F) 0 := by
  have hr := rl_lt (n + 1)
  intro u hu x hx hux j hj
  by_cases q : u = 0 ∧ x = n
  · obtain ⟨rfl, rfl⟩ := q
    show nd _ (0 + x) j = va_up L x F x j
    rw [Nat.zero_add, pn_same _ _ _ hj, va_up_self]
  · have hxi : x ≠ n / 2 ^ u := by
      rcases hux with z | z
      · have z0 : u = 0 := by omega
        subst z0
        rw [Nat.pow_zero, Nat.div_one]
        exact fun c => q ⟨rfl, c⟩
      · exact z
    have hf := full_of hx hxi
    obtain ⟨g1, g2⟩ := full_in (by omega) hf
    have e0 : lsv 0 = 0 := rfl
    have hne : lsv u + x ≠ lsv 0 + n := node_ne (n := n + 1) (by omega) (by omega) (by decide) hx (Nat.lt_succ_self n) (by omega)
    rw [pn_ne _ _ (by omega) hj, nv_full (L' := L) u x (n + 1) n (by omega) hf (fun y hy => va_up_ne _ _ (by omega))]
    exact h u g1 x g2 j hj
/-- the last leaf gone -/
theorem Tj_drop {n : Nat} {L : Nat → Nat → Int32} {id : Nat → Int32} (hn : n + 2 ≤ 100) (h : Ti (n + 2) L id) : Tj (n + 1) n L id 0 := by
  have hr := rl_lt (n + 1)
  intro u hu x hx hux j hj
  by_cases q : u = 0
  · subst q
    have hx2 : x < wdl (n + 2) 0 := Nat.lt_trans hx (Nat.lt_succ_self (n + 1))
    exact h 0 (Nat.zero_le _) x hx2 j hj
  · have hxi : x ≠ n / 2 ^ u := by
      rcases hux with z | z
      · exact absurd z (by omega)
      · exact z
    have hf := full_of hx hxi
    obtain ⟨g1, g2⟩ := full_in (n := n + 2) hn (Nat.le_trans hf (by omega))
    rw [nv_full (L' := L) u x (n + 1) (n + 2) (by omega) (by omega) (fun _ _ => rfl)]
    exact h u g1 x g2 j hj
end
section
section BSB
variable {p : Program} {l : Launch} {e : Env} {R : Room} {s : State} {m : MethodId} {args : Array Value} {below : List Frame} {meth : Method} {c : Code} {H : Heap} {locs : List Loc} {cells slots : Nat} {Q : State → Prop}
variable {cc : ByteArray} {pc : Nat} {ls : Array Slot} {rest : List Value} {A : Nat → Prop} {H0 : Heap}
variable {D : va_G} {cl : List vw_C} {tys : List (ClassId × FieldType)} {zs : List zT} {ws : va_W} {a : Nat}
theorem kb_lald (hexec : p.tables.exec = Jvm.exec) (hb : c.code = cc) (hK : va_K D cl tys s) (hP : va_P D cl ws H) (q0 t0 : Nat) {cA : ClassId} {n : Nat} {f : Nat → Int64} (ha : ws[q0]? = some (a, .inl (cA, n, .inr (.inl f)))) (ht : tys[t0]? = some (cA, .long)) {i : Int32} (k : Nat) (hi : i = nI k) (hk : k < n) (hn : n < 2 ^ 31) (hdg : decode cc pc = .ok (.laload, 1))
    (kk : W p l e R s m args below meth c H locs cells slots Q (F0 m (pc + 1) ls (.long (f k) :: rest))) : W p l e R s m args below meth c H locs cells slots Q (F0 m pc ls (.int i :: .ref a :: rest)) := by
  subst hi
  refine va_lald hexec hb hK hP q0 t0 ha ht (vp_in_nI hk hn) hdg ?_
  rw [nI_clamp (Nat.lt_trans hk hn)]
  exact kk
theorem kb_last (hexec : p.tables.exec = Jvm.exec) (hb : c.code = cc) (hK : va_K D cl tys s) (hP : va_P D cl ws H) (hD : va_D A ws) (hS : va_S A H0 H locs) (q0 t0 : Nat) {cA : ClassId} {n : Nat} {f : Nat → Int64} (ha : ws[q0]? = some (a, .inl (cA, n, .inr (.inl f)))) (ht : tys[t0]? = some (cA, .long)) {i : Int32} {x : Int64} (k : Nat) (hi : i = nI k) (hk : k < n) (hn : n < 2 ^ 31) (hdg : decode cc pc = .ok (.lastore, 1))
    (kk : ∀ (H1 : Heap) (locs1 : List Loc), va_P D cl (ws.set q0 (a, .inl (cA, n, .inr (.inl (vp_updL f k x))))) H1 → va_D A (ws.set q0 (a, .inl (cA, n, .inr (.inl (vp_updL f k x))))) → va_S A H0 H1 locs1 → W p l e R s m args below meth c H1 locs1 cells slots Q (F0 m (pc + 1) ls rest)) : W p l e R s m args below meth c H locs cells slots Q (F0 m pc ls (.long x :: .int i :: .ref a :: rest)) := by
  subst hi
  refine va_last hexec hb hK hP hD hS q0 t0 ha ht (vp_in_nI hk hn) hdg ?_
  rw [nI_clamp (Nat.lt_trans hk hn)]
  exact kk
end BSB
end
section
abbrev cX2_init : ByteArray := prog_4_method_10_code
def yX2_init : MethodName := ⟨RX2, "<init>", "()V"⟩
abbrev cX2_primes : ByteArray := prog_4_method_1_code
def yX2_primes : MethodName := ⟨RX2, "primes", "()V"⟩
abbrev cX2_root : ByteArray := prog_4_method_2_code
def yX2_root : MethodName := ⟨RX2, "root", "(II)I"⟩
abbrev cX2_isAbove : ByteArray := prog_4_method_3_code
def yX2_isAbove : MethodName := ⟨RX2, "isAbove", "(JII)Z"⟩
abbrev cX2_put : ByteArray := prog_4_method_11_code
def yX2_put : MethodName := ⟨RX2, "put", "(JI)Z"⟩
abbrev cX2_hash : ByteArray := prog_4_method_13_code
def yX2_hash : MethodName := ⟨RX2, "hash", "(I)J"⟩
abbrev cX2_hashTape : ByteArray := prog_4_method_12_code
def yX2_hashTape : MethodName := ⟨RX2, "hashTape", "()V"⟩
abbrev cX2_hashByte : ByteArray := prog_4_method_5_code
def yX2_hashByte : MethodName := ⟨RX2, "hashByte", "(I)V"⟩
abbrev cX2_digest : ByteArray := prog_4_method_6_code
def yX2_digest : MethodName := ⟨RX2, "digest", "()V"⟩
abbrev cX2_compress : ByteArray := prog_4_method_7_code
def yX2_compress : MethodName := ⟨RX2, "compress", "(I)V"⟩
abbrev cX2_turn : ByteArray := prog_4_method_4_code
def yX2_turn : MethodName := ⟨RX2, "turn", "(II)I"⟩
abbrev cX2_sum : ByteArray := prog_4_method_8_code
def yX2_sum : MethodName := ⟨RX2, "sum", "(I)J"⟩
abbrev cX2_add : ByteArray := prog_4_method_15_code
def yX2_add : MethodName := ⟨RX2, "add", "()I"⟩
abbrev cX2_lay : ByteArray := prog_4_method_14_code
def yX2_lay : MethodName := ⟨RX2, "lay", "(I)V"⟩
abbrev cX2_change : ByteArray := prog_4_method_17_code
def yX2_change : MethodName := ⟨RX2, "change", "(I)Z"⟩
abbrev cX2_isLeaf : ByteArray := prog_4_method_16_code
def yX2_isLeaf : MethodName := ⟨RX2, "isLeaf", "(I)Z"⟩
abbrev cX2_drop : ByteArray := prog_4_method_18_code
def yX2_drop : MethodName := ⟨RX2, "drop", "()I"⟩
abbrev cX2_root2 : ByteArray := prog_4_method_22_code
def yX2_root2 : MethodName := ⟨RX2, "root", "(I)J"⟩
abbrev cX2_lowest : ByteArray := prog_4_method_20_code
def yX2_lowest : MethodName := ⟨RX2, "lowest", "()V"⟩
abbrev cX2_keep : ByteArray := prog_4_method_19_code
def yX2_keep : MethodName := ⟨RX2, "keep", "(I)V"⟩
abbrev cX2_up : ByteArray := prog_4_method_21_code
def yX2_up : MethodName := ⟨RX2, "up", "()V"⟩
abbrev cX2_byteIn : ByteArray := prog_4_method_9_code
def yX2_byteIn : MethodName := ⟨RX2, "byteIn", "(JI)I"⟩
abbrev cX2_way : ByteArray := prog_4_method_24_code
def yX2_way : MethodName := ⟨RX2, "way", "(I)I"⟩
abbrev cX2_climb : ByteArray := prog_4_method_23_code
def yX2_climb : MethodName := ⟨RX2, "climb", "(II)I"⟩
abbrev cX2_beside : ByteArray := prog_4_method_25_code
def yX2_beside : MethodName := ⟨RX2, "beside", "(III)J"⟩
abbrev cX2_isLeft : ByteArray := prog_4_method_26_code
def yX2_isLeft : MethodName := ⟨RX2, "isLeft", "(II)I"⟩
abbrev cX2_proves : ByteArray := prog_4_method_27_code
def yX2_proves : MethodName := ⟨RX2, "proves", "(I)I"⟩
abbrev cX2_count : ByteArray := prog_4_method_28_code
def yX2_count : MethodName := ⟨RX2, "count", "(I)I"⟩
def wsM : List Cond := [.initialized RX2, .instanceMethod objectInit, .code objectInit ⟨#[0xb1]⟩ 1 none, .arrayClass .byte, .arrayClass .int, .instanceMethod yX2_init, .code yX2_init cX2_init 1 none, .methodLink RX2 45 objectInit, .methodLink RX2 67 yX2_primes, .instanceMethod yX2_primes, .code yX2_primes cX2_primes 5 none, .methodLink RX2 7 yX2_root, .static yX2_root, .code yX2_root cX2_root 7 (some .int), .methodLink RX2 14 yX2_isAbove, .static yX2_isAbove, .code yX2_isAbove cX2_isAbove 30 (some .boolean), .constantLong RX2 18 (4294967295), .constantLong RX2 20 (2), .fieldLink RX2 22 "RootDeskModel" "hashed" "[I", .fieldLink RX2 25 "RootDeskModel" "hashSize" "I", .fieldLink RX2 33 "RootDeskModel" "sums" "[I", .fieldLink RX2 39 "RootDeskModel" "schedule" "[I", .fieldLink RX2 11 "RootDeskModel" "rounds" "[I", .fieldLink RX2 1 "RootDeskModel" "begins" "[I", .fieldLink RX2 51 "RootDeskModel" "tape" "[I", .fieldLink RX2 70 "RootDeskModel" "taped" "I", .fieldLink RX2 83 "RootDeskModel" "leaves" "I", .fieldLink RX2 54 "RootDeskModel" "bytes" "[I", .fieldLink RX2 57 "RootDeskModel" "sizes" "[I", .fieldLink RX2 60 "RootDeskModel" "level" "[J", .fieldLink RX2 96 "RootDeskModel" "many" "I", .fieldLink RX2 99 "RootDeskModel" "levels" "I", .fieldLink RX2 112 "RootDeskModel" "climbed" "I", .fieldLink RX2 64 "RootDeskModel" "mine" "[J", .arrayClass .long, .instanceMethod yX2_put, .selects RX2 yX2_put yX2_put, .code yX2_put cX2_put 5 (some .boolean), .instanceMethod yX2_hash, .selects RX2 yX2_hash yX2_hash, .code yX2_hash cX2_hash 2 (some .long), .methodLink RX2 76 yX2_hashTape, .instanceMethod yX2_hashTape, .code yX2_hashTape cX2_hashTape 2 none, .methodLink RX2 29 yX2_hashByte, .instanceMethod yX2_hashByte, .code yX2_hashByte cX2_hashByte 2 none, .methodLink RX2 73 yX2_digest, .instanceMethod yX2_digest, .code yX2_digest cX2_digest 3 none, .methodLink RX2 36 yX2_compress, .instanceMethod yX2_compress, .code yX2_compress cX2_compress 13 none, .methodLink RX2 42 yX2_turn, .static yX2_turn, .code yX2_turn cX2_turn 2 (some .int), .methodLink RX2 79 yX2_sum, .instanceMethod yX2_sum, .code yX2_sum cX2_sum 2 (some .long), .instanceMethod yX2_add, .selects RX2 yX2_add yX2_add, .code yX2_add cX2_add 1 (some .int), .methodLink RX2 86 yX2_lay, .instanceMethod yX2_lay, .code yX2_lay cX2_lay 3 none, .instanceMethod yX2_change, .selects RX2 yX2_change yX2_change, .code yX2_change cX2_change 2 (some .boolean), .methodLink RX2 89 yX2_isLeaf, .instanceMethod yX2_isLeaf, .code yX2_isLeaf cX2_isLeaf 2 (some .boolean), .instanceMethod yX2_drop, .selects RX2 yX2_drop yX2_drop, .code yX2_drop cX2_drop 1 (some .int), .instanceMethod yX2_root2, .selects RX2 yX2_root2 yX2_root2, .code yX2_root2 cX2_root2 2 (some .long), .methodLink RX2 106 yX2_lowest, .instanceMethod yX2_lowest, .code yX2_lowest cX2_lowest 3 none, .methodLink RX2 93 yX2_keep, .instanceMethod yX2_keep, .code yX2_keep cX2_keep 3 none, .methodLink RX2 109 yX2_up, .instanceMethod yX2_up, .code yX2_up cX2_up 3 none, .methodLink RX2 102 yX2_byteIn, .static yX2_byteIn, .code yX2_byteIn cX2_byteIn 3 (some .int), .instanceMethod yX2_way, .selects RX2 yX2_way yX2_way, .code yX2_way cX2_way 2 (some .int), .methodLink RX2 115 yX2_climb, .instanceMethod yX2_climb, .code yX2_climb cX2_climb 5 (some .int), .instanceMethod yX2_beside, .selects RX2 yX2_beside yX2_beside, .code yX2_beside cX2_beside 5 (some .long), .instanceMethod yX2_isLeft, .selects RX2 yX2_isLeft yX2_isLeft, .code yX2_isLeft cX2_isLeft 4 (some .int), .instanceMethod yX2_proves, .selects RX2 yX2_proves yX2_proves, .code yX2_proves cX2_proves 8 (some .int), .methodLink RX2 118 yX2_way, .methodLink RX2 122 yX2_root2, .instanceMethod yX2_count, .selects RX2 yX2_count yX2_count, .code yX2_count cX2_count 4 (some .int), .selects RX2 yX2_primes yX2_primes, .selects RX2 yX2_hashTape yX2_hashTape, .selects RX2 yX2_hashByte yX2_hashByte, .selects RX2 yX2_digest yX2_digest, .selects RX2 yX2_compress yX2_compress, .selects RX2 yX2_sum yX2_sum, .selects RX2 yX2_lay yX2_lay, .selects RX2 yX2_isLeaf yX2_isLeaf, .selects RX2 yX2_lowest yX2_lowest, .selects RX2 yX2_keep yX2_keep, .selects RX2 yX2_up yX2_up, .selects RX2 yX2_climb yX2_climb]
def wsMM : List Cond := wsM ++ wsX20
def wsX2_init : List Cond := .code yX2_init cX2_init 1 none :: wsMM
def wsX2_primes : List Cond := .code yX2_primes cX2_primes 5 none :: wsMM
def wsX2_root : List Cond := .code yX2_root cX2_root 7 (some .int) :: wsMM
def wsX2_isAbove : List Cond := .code yX2_isAbove cX2_isAbove 30 (some .boolean) :: wsMM
def wsX2_put : List Cond := .code yX2_put cX2_put 5 (some .boolean) :: wsMM
def wsX2_hash : List Cond := .code yX2_hash cX2_hash 2 (some .long) :: wsMM
def wsX2_hashTape : List Cond := .code yX2_hashTape cX2_hashTape 2 none :: wsMM
def wsX2_hashByte : List Cond := .code yX2_hashByte cX2_hashByte 2 none :: wsMM
def wsX2_digest : List Cond := .code yX2_digest cX2_digest 3 none :: wsMM
def wsX2_compress : List Cond := .code yX2_compress cX2_compress 13 none :: wsMM
def wsX2_turn : List Cond := .code yX2_turn cX2_turn 2 (some .int) :: wsMM
def wsX2_sum : List Cond := .code yX2_sum cX2_sum 2 (some .long) :: wsMM
def wsX2_add : List Cond := .code yX2_add cX2_add 1 (some .int) :: wsMM
def wsX2_lay : List Cond := .code yX2_lay cX2_lay 3 none :: wsMM
def wsX2_change : List Cond := .code yX2_change cX2_change 2 (some .boolean) :: wsMM
def wsX2_isLeaf : List Cond := .code yX2_isLeaf cX2_isLeaf 2 (some .boolean) :: wsMM
def wsX2_drop : List Cond := .code yX2_drop cX2_drop 1 (some .int) :: wsMM
def wsX2_root2 : List Cond := .code yX2_root2 cX2_root2 2 (some .long) :: wsMM
def wsX2_lowest : List Cond := .code yX2_lowest cX2_lowest 3 none :: wsMM
def wsX2_keep : List Cond := .code yX2_keep cX2_keep 3 none :: wsMM
def wsX2_up : List Cond := .code yX2_up cX2_up 3 none :: wsMM
def wsX2_byteIn : List Cond := .code yX2_byteIn cX2_byteIn 3 (some .int) :: wsMM
def wsX2_way : List Cond := .code yX2_way cX2_way 2 (some .int) :: wsMM
def wsX2_climb : List Cond := .code yX2_climb cX2_climb 5 (some .int) :: wsMM
def wsX2_beside : List Cond := .code yX2_beside cX2_beside 5 (some .long) :: wsMM
def wsX2_isLeft : List Cond := .code yX2_isLeft cX2_isLeft 4 (some .int) :: wsMM
def wsX2_proves : List Cond := .code yX2_proves cX2_proves 8 (some .int) :: wsMM
def wsX2_count : List Cond := .code yX2_count cX2_count 4 (some .int) :: wsMM
set_option maxRecDepth 20000 in
theorem wsM_good : wsM.all goodWord = true := by decide +kernel
set_option maxRecDepth 20000 in
theorem wsX20_good : wsX20.all goodWord = true := by decide +kernel
theorem wsMM_good (w : Cond) (h : w ∈ wsMM) : (w.onTables && w.keeps) = true ∨ ∃ ty, w = .arrayClass ty := by
  rcases List.mem_append.mp h with h | h
  · exact good_of_word (List.all_eq_true.mp wsM_good w h)
  · exact good_of_word (List.all_eq_true.mp wsX20_good w h)
theorem inM {c0 w : Cond} (h : w ∈ wsM) : w ∈ c0 :: wsMM := List.mem_cons_of_mem _ (List.mem_append_left _ h)
theorem gM {c0 c1 : Cond} (h : c1 ∈ wsM) : GoodIn (c0 :: wsMM) (c1 :: wsMM) := by
  intro w hw
  have hm : w ∈ wsMM := by
    rcases List.mem_cons.mp hw with e | e
    · subst e
      exact List.mem_append_left _ h
    · exact e
  exact ⟨List.mem_cons_of_mem _ hm, wsMM_good w hm⟩
theorem gM4 {c0 : Cond} {ws : List Cond} (h : ∀ w ∈ ws, w ∈ wsM) : GoodIn (c0 :: wsMM) ws := fun w hw => ⟨inM (h w hw), wsMM_good w (List.mem_append_left _ (h w hw))⟩
theorem gMV {c0 c1 : Cond} {own C : String} {idx : Nat} {y : MethodName} (h1 : Cond.methodLink own idx y ∈ wsM) (h2 : Cond.instanceMethod y ∈ wsM) (h3 : Cond.selects C y y ∈ wsM) (h4 : Cond.initialized C ∈ wsM) (h : c1 ∈ wsM) : GoodIn (c0 :: wsMM) (wsV own idx C y (c1 :: wsMM)) := by
  refine goodIn_app (gM4 (fun w hw => ?_)) (gM h)
  simp only [List.mem_cons, List.not_mem_nil, or_false] at hw
  rcases hw with rfl | rfl | rfl | rfl
  · exact h1
  · exact h2
  · exact h3
  · exact h4
theorem gMS {c0 c1 : Cond} {own : String} {idx : Nat} {y : MethodName} (h1 : Cond.methodLink own idx y ∈ wsM) (h2 : Cond.static y ∈ wsM) (h3 : Cond.initialized own ∈ wsM) (h : c1 ∈ wsM) : GoodIn (c0 :: wsMM) (wsS own idx y (c1 :: wsMM)) := by
  refine goodIn_app (gM4 (fun w hw => ?_)) (gM h)
  simp only [List.mem_cons, List.not_mem_nil, or_false] at hw
  rcases hw with rfl | rfl | rfl
  · exact h1
  · exact h2
  · exact h3
end
section
theorem dX2_primes_0 : decode cX2_primes 0 = .ok (.iconst 0, 1) := by decide +kernel
theorem dX2_primes_1 : decode cX2_primes 1 = .ok (.istore_n 1, 1) := by decide +kernel
theorem dX2_primes_2 : decode cX2_primes 2 = .ok (.iconst 2, 1) := by decide +kernel
theorem dX2_primes_3 : decode cX2_primes 3 = .ok (.istore_n 2, 1) := by decide +kernel
theorem dX2_primes_4 : decode cX2_primes 4 = .ok (.iload_n 1, 1) := by decide +kernel
theorem dX2_primes_5 : decode cX2_primes 5 = .ok (.bipush 64, 2) := by decide +kernel
theorem dX2_primes_7 : decode cX2_primes 7 = .ok (.if_icmp .ge 85, 3) := by decide +kernel
theorem dX2_primes_10 : decode cX2_primes 10 = .ok (.iconst 1, 1) := by decide +kernel
theorem dX2_primes_11 : decode cX2_primes 11 = .ok (.istore_n 3, 1) := by decide +kernel
theorem dX2_primes_12 : decode cX2_primes 12 = .ok (.iconst 2, 1) := by decide +kernel
theorem dX2_primes_13 : decode cX2_primes 13 = .ok (.istore 4, 2) := by decide +kernel
theorem dX2_primes_15 : decode cX2_primes 15 = .ok (.iload 4, 2) := by decide +kernel
theorem dX2_primes_17 : decode cX2_primes 17 = .ok (.iload 4, 2) := by decide +kernel
theorem dX2_primes_19 : decode cX2_primes 19 = .ok (.imul, 1) := by decide +kernel
theorem dX2_primes_20 : decode cX2_primes 20 = .ok (.iload_n 2, 1) := by decide +kernel
theorem dX2_primes_21 : decode cX2_primes 21 = .ok (.if_icmp .gt 26, 3) := by decide +kernel
theorem dX2_primes_24 : decode cX2_primes 24 = .ok (.iload_n 3, 1) := by decide +kernel
theorem dX2_primes_25 : decode cX2_primes 25 = .ok (.ifCond .eq 14, 3) := by decide +kernel
theorem dX2_primes_28 : decode cX2_primes 28 = .ok (.iload_n 2, 1) := by decide +kernel
theorem dX2_primes_29 : decode cX2_primes 29 = .ok (.iload 4, 2) := by decide +kernel
theorem dX2_primes_31 : decode cX2_primes 31 = .ok (.irem, 1) := by decide +kernel
theorem dX2_primes_32 : decode cX2_primes 32 = .ok (.ifCond .eq 7, 3) := by decide +kernel
theorem dX2_primes_35 : decode cX2_primes 35 = .ok (.iconst 1, 1) := by decide +kernel
theorem dX2_primes_36 : decode cX2_primes 36 = .ok (.goto 4, 3) := by decide +kernel
theorem dX2_primes_39 : decode cX2_primes 39 = .ok (.iconst 0, 1) := by decide +kernel
theorem dX2_primes_40 : decode cX2_primes 40 = .ok (.istore_n 3, 1) := by decide +kernel
theorem dX2_primes_41 : decode cX2_primes 41 = .ok (.iinc 4 1, 3) := by decide +kernel
theorem dX2_primes_44 : decode cX2_primes 44 = .ok (.goto (-29), 3) := by decide +kernel
theorem dX2_primes_47 : decode cX2_primes 47 = .ok (.iload_n 3, 1) := by decide +kernel
theorem dX2_primes_48 : decode cX2_primes 48 = .ok (.ifCond .ne 6, 3) := by decide +kernel
theorem dX2_primes_51 : decode cX2_primes 51 = .ok (.goto 35, 3) := by decide +kernel
theorem dX2_primes_54 : decode cX2_primes 54 = .ok (.iload_n 1, 1) := by decide +kernel
theorem dX2_primes_55 : decode cX2_primes 55 = .ok (.bipush 8, 2) := by decide +kernel
theorem dX2_primes_57 : decode cX2_primes 57 = .ok (.if_icmp .ge 14, 3) := by decide +kernel
theorem dX2_primes_60 : decode cX2_primes 60 = .ok (.aload_n 0, 1) := by decide +kernel
theorem dX2_primes_61 : decode cX2_primes 61 = .ok (.getfield 1, 3) := by decide +kernel
theorem dX2_primes_64 : decode cX2_primes 64 = .ok (.iload_n 1, 1) := by decide +kernel
theorem dX2_primes_65 : decode cX2_primes 65 = .ok (.iload_n 2, 1) := by decide +kernel
theorem dX2_primes_66 : decode cX2_primes 66 = .ok (.iconst 2, 1) := by decide +kernel
theorem dX2_primes_67 : decode cX2_primes 67 = .ok (.invokestatic 7, 3) := by decide +kernel
theorem dX2_primes_70 : decode cX2_primes 70 = .ok (.iastore, 1) := by decide +kernel
theorem dX2_primes_71 : decode cX2_primes 71 = .ok (.aload_n 0, 1) := by decide +kernel
theorem dX2_primes_72 : decode cX2_primes 72 = .ok (.getfield 11, 3) := by decide +kernel
theorem dX2_primes_75 : decode cX2_primes 75 = .ok (.iload_n 1, 1) := by decide +kernel
theorem dX2_primes_76 : decode cX2_primes 76 = .ok (.iload_n 2, 1) := by decide +kernel
theorem dX2_primes_77 : decode cX2_primes 77 = .ok (.iconst 3, 1) := by decide +kernel
theorem dX2_primes_78 : decode cX2_primes 78 = .ok (.invokestatic 7, 3) := by decide +kernel
theorem dX2_primes_81 : decode cX2_primes 81 = .ok (.iastore, 1) := by decide +kernel
theorem dX2_primes_82 : decode cX2_primes 82 = .ok (.iload_n 1, 1) := by decide +kernel
theorem dX2_primes_83 : decode cX2_primes 83 = .ok (.iconst 1, 1) := by decide +kernel
theorem dX2_primes_84 : decode cX2_primes 84 = .ok (.iadd, 1) := by decide +kernel
theorem dX2_primes_85 : decode cX2_primes 85 = .ok (.istore_n 1, 1) := by decide +kernel
theorem dX2_primes_86 : decode cX2_primes 86 = .ok (.iinc 2 1, 3) := by decide +kernel
theorem dX2_primes_89 : decode cX2_primes 89 = .ok (.goto (-85), 3) := by decide +kernel
theorem dX2_primes_92 : decode cX2_primes 92 = .ok (.return_, 1) := by decide +kernel
theorem dX2_root_0 : decode cX2_root 0 = .ok (.lconst 0, 1) := by decide +kernel
theorem dX2_root_1 : decode cX2_root 1 = .ok (.lstore_n 2, 1) := by decide +kernel
theorem dX2_root_2 : decode cX2_root 2 = .ok (.bipush 35, 2) := by decide +kernel
theorem dX2_root_4 : decode cX2_root 4 = .ok (.istore 4, 2) := by decide +kernel
theorem dX2_root_6 : decode cX2_root 6 = .ok (.iload 4, 2) := by decide +kernel
theorem dX2_root_8 : decode cX2_root 8 = .ok (.ifCond .lt 30, 3) := by decide +kernel
theorem dX2_root_11 : decode cX2_root 11 = .ok (.lload_n 2, 1) := by decide +kernel
theorem dX2_root_12 : decode cX2_root 12 = .ok (.lconst 1, 1) := by decide +kernel
theorem dX2_root_13 : decode cX2_root 13 = .ok (.iload 4, 2) := by decide +kernel
theorem dX2_root_15 : decode cX2_root 15 = .ok (.lshl, 1) := by decide +kernel
theorem dX2_root_16 : decode cX2_root 16 = .ok (.lor, 1) := by decide +kernel
theorem dX2_root_17 : decode cX2_root 17 = .ok (.lstore 5, 2) := by decide +kernel
theorem dX2_root_19 : decode cX2_root 19 = .ok (.lload 5, 2) := by decide +kernel
theorem dX2_root_21 : decode cX2_root 21 = .ok (.iload_n 0, 1) := by decide +kernel
theorem dX2_root_22 : decode cX2_root 22 = .ok (.iload_n 1, 1) := by decide +kernel
theorem dX2_root_23 : decode cX2_root 23 = .ok (.invokestatic 14, 3) := by decide +kernel
theorem dX2_root_26 : decode cX2_root 26 = .ok (.ifCond .ne 6, 3) := by decide +kernel
theorem dX2_root_29 : decode cX2_root 29 = .ok (.lload 5, 2) := by decide +kernel
theorem dX2_root_31 : decode cX2_root 31 = .ok (.lstore_n 2, 1) := by decide +kernel
theorem dX2_root_32 : decode cX2_root 32 = .ok (.iinc 4 (-1), 3) := by decide +kernel
theorem dX2_root_35 : decode cX2_root 35 = .ok (.goto (-29), 3) := by decide +kernel
theorem dX2_root_38 : decode cX2_root 38 = .ok (.lload_n 2, 1) := by decide +kernel
theorem dX2_root_39 : decode cX2_root 39 = .ok (.l2i, 1) := by decide +kernel
theorem dX2_root_40 : decode cX2_root 40 = .ok (.ireturn, 1) := by decide +kernel
theorem dX2_isAbove_0 : decode cX2_isAbove 0 = .ok (.lload_n 0, 1) := by decide +kernel
theorem dX2_isAbove_1 : decode cX2_isAbove 1 = .ok (.bipush 32, 2) := by decide +kernel
theorem dX2_isAbove_3 : decode cX2_isAbove 3 = .ok (.lshr, 1) := by decide +kernel
theorem dX2_isAbove_4 : decode cX2_isAbove 4 = .ok (.lstore 4, 2) := by decide +kernel
theorem dX2_isAbove_6 : decode cX2_isAbove 6 = .ok (.lload_n 0, 1) := by decide +kernel
theorem dX2_isAbove_7 : decode cX2_isAbove 7 = .ok (.ldc2_w 18, 3) := by decide +kernel
theorem dX2_isAbove_10 : decode cX2_isAbove 10 = .ok (.land, 1) := by decide +kernel
theorem dX2_isAbove_11 : decode cX2_isAbove 11 = .ok (.lstore 6, 2) := by decide +kernel
theorem dX2_isAbove_13 : decode cX2_isAbove 13 = .ok (.lload 6, 2) := by decide +kernel
theorem dX2_isAbove_15 : decode cX2_isAbove 15 = .ok (.lload 6, 2) := by decide +kernel
theorem dX2_isAbove_17 : decode cX2_isAbove 17 = .ok (.lmul, 1) := by decide +kernel
theorem dX2_isAbove_18 : decode cX2_isAbove 18 = .ok (.lstore 8, 2) := by decide +kernel
theorem dX2_isAbove_20 : decode cX2_isAbove 20 = .ok (.lload 8, 2) := by decide +kernel
theorem dX2_isAbove_22 : decode cX2_isAbove 22 = .ok (.ldc2_w 18, 3) := by decide +kernel
theorem dX2_isAbove_25 : decode cX2_isAbove 25 = .ok (.land, 1) := by decide +kernel
theorem dX2_isAbove_26 : decode cX2_isAbove 26 = .ok (.lstore 10, 2) := by decide +kernel
theorem dX2_isAbove_28 : decode cX2_isAbove 28 = .ok (.lload 8, 2) := by decide +kernel
theorem dX2_isAbove_30 : decode cX2_isAbove 30 = .ok (.bipush 32, 2) := by decide +kernel
theorem dX2_isAbove_32 : decode cX2_isAbove 32 = .ok (.lushr, 1) := by decide +kernel
theorem dX2_isAbove_33 : decode cX2_isAbove 33 = .ok (.ldc2_w 20, 3) := by decide +kernel
theorem dX2_isAbove_36 : decode cX2_isAbove 36 = .ok (.lload 4, 2) := by decide +kernel
theorem dX2_isAbove_38 : decode cX2_isAbove 38 = .ok (.lmul, 1) := by decide +kernel
theorem dX2_isAbove_39 : decode cX2_isAbove 39 = .ok (.lload 6, 2) := by decide +kernel
theorem dX2_isAbove_41 : decode cX2_isAbove 41 = .ok (.lmul, 1) := by decide +kernel
theorem dX2_isAbove_42 : decode cX2_isAbove 42 = .ok (.ldc2_w 18, 3) := by decide +kernel
theorem dX2_isAbove_45 : decode cX2_isAbove 45 = .ok (.land, 1) := by decide +kernel
theorem dX2_isAbove_46 : decode cX2_isAbove 46 = .ok (.ladd, 1) := by decide +kernel
theorem dX2_isAbove_47 : decode cX2_isAbove 47 = .ok (.lstore 12, 2) := by decide +kernel
theorem dX2_isAbove_49 : decode cX2_isAbove 49 = .ok (.lload 4, 2) := by decide +kernel
theorem dX2_isAbove_51 : decode cX2_isAbove 51 = .ok (.lload 4, 2) := by decide +kernel
theorem dX2_isAbove_53 : decode cX2_isAbove 53 = .ok (.lmul, 1) := by decide +kernel
theorem dX2_isAbove_54 : decode cX2_isAbove 54 = .ok (.ldc2_w 20, 3) := by decide +kernel
theorem dX2_isAbove_57 : decode cX2_isAbove 57 = .ok (.lload 4, 2) := by decide +kernel
theorem dX2_isAbove_59 : decode cX2_isAbove 59 = .ok (.lmul, 1) := by decide +kernel
theorem dX2_isAbove_60 : decode cX2_isAbove 60 = .ok (.lload 6, 2) := by decide +kernel
theorem dX2_isAbove_62 : decode cX2_isAbove 62 = .ok (.lmul, 1) := by decide +kernel
theorem dX2_isAbove_63 : decode cX2_isAbove 63 = .ok (.bipush 32, 2) := by decide +kernel
theorem dX2_isAbove_65 : decode cX2_isAbove 65 = .ok (.lushr, 1) := by decide +kernel
theorem dX2_isAbove_66 : decode cX2_isAbove 66 = .ok (.ladd, 1) := by decide +kernel
theorem dX2_isAbove_67 : decode cX2_isAbove 67 = .ok (.lload 12, 2) := by decide +kernel
theorem dX2_isAbove_69 : decode cX2_isAbove 69 = .ok (.bipush 32, 2) := by decide +kernel
theorem dX2_isAbove_71 : decode cX2_isAbove 71 = .ok (.lushr, 1) := by decide +kernel
theorem dX2_isAbove_72 : decode cX2_isAbove 72 = .ok (.ladd, 1) := by decide +kernel
theorem dX2_isAbove_73 : decode cX2_isAbove 73 = .ok (.lstore 14, 2) := by decide +kernel
theorem dX2_isAbove_75 : decode cX2_isAbove 75 = .ok (.lload 12, 2) := by decide +kernel
theorem dX2_isAbove_77 : decode cX2_isAbove 77 = .ok (.ldc2_w 18, 3) := by decide +kernel
theorem dX2_isAbove_80 : decode cX2_isAbove 80 = .ok (.land, 1) := by decide +kernel
theorem dX2_isAbove_81 : decode cX2_isAbove 81 = .ok (.lstore 12, 2) := by decide +kernel
theorem dX2_isAbove_83 : decode cX2_isAbove 83 = .ok (.iload_n 3, 1) := by decide +kernel
theorem dX2_isAbove_84 : decode cX2_isAbove 84 = .ok (.iconst 2, 1) := by decide +kernel
theorem dX2_isAbove_85 : decode cX2_isAbove 85 = .ok (.if_icmp .ne 39, 3) := by decide +kernel
theorem dX2_isAbove_88 : decode cX2_isAbove 88 = .ok (.lload 14, 2) := by decide +kernel
theorem dX2_isAbove_90 : decode cX2_isAbove 90 = .ok (.iload_n 2, 1) := by decide +kernel
theorem dX2_isAbove_91 : decode cX2_isAbove 91 = .ok (.i2l, 1) := by decide +kernel
theorem dX2_isAbove_92 : decode cX2_isAbove 92 = .ok (.lcmp, 1) := by decide +kernel
theorem dX2_isAbove_93 : decode cX2_isAbove 93 = .ok (.ifCond .gt 25, 3) := by decide +kernel
theorem dX2_isAbove_96 : decode cX2_isAbove 96 = .ok (.lload 14, 2) := by decide +kernel
theorem dX2_isAbove_98 : decode cX2_isAbove 98 = .ok (.iload_n 2, 1) := by decide +kernel
theorem dX2_isAbove_99 : decode cX2_isAbove 99 = .ok (.i2l, 1) := by decide +kernel
theorem dX2_isAbove_100 : decode cX2_isAbove 100 = .ok (.lcmp, 1) := by decide +kernel
theorem dX2_isAbove_101 : decode cX2_isAbove 101 = .ok (.ifCond .ne 21, 3) := by decide +kernel
theorem dX2_isAbove_104 : decode cX2_isAbove 104 = .ok (.lload 12, 2) := by decide +kernel
theorem dX2_isAbove_106 : decode cX2_isAbove 106 = .ok (.lconst 0, 1) := by decide +kernel
theorem dX2_isAbove_107 : decode cX2_isAbove 107 = .ok (.lcmp, 1) := by decide +kernel
theorem dX2_isAbove_108 : decode cX2_isAbove 108 = .ok (.ifCond .gt 10, 3) := by decide +kernel
theorem dX2_isAbove_111 : decode cX2_isAbove 111 = .ok (.lload 10, 2) := by decide +kernel
theorem dX2_isAbove_113 : decode cX2_isAbove 113 = .ok (.lconst 0, 1) := by decide +kernel
theorem dX2_isAbove_114 : decode cX2_isAbove 114 = .ok (.lcmp, 1) := by decide +kernel
theorem dX2_isAbove_115 : decode cX2_isAbove 115 = .ok (.ifCond .le 7, 3) := by decide +kernel
theorem dX2_isAbove_118 : decode cX2_isAbove 118 = .ok (.iconst 1, 1) := by decide +kernel
theorem dX2_isAbove_119 : decode cX2_isAbove 119 = .ok (.goto 4, 3) := by decide +kernel
theorem dX2_isAbove_122 : decode cX2_isAbove 122 = .ok (.iconst 0, 1) := by decide +kernel
theorem dX2_isAbove_123 : decode cX2_isAbove 123 = .ok (.ireturn, 1) := by decide +kernel
theorem dX2_isAbove_124 : decode cX2_isAbove 124 = .ok (.lload 10, 2) := by decide +kernel
theorem dX2_isAbove_126 : decode cX2_isAbove 126 = .ok (.lload 6, 2) := by decide +kernel
theorem dX2_isAbove_128 : decode cX2_isAbove 128 = .ok (.lmul, 1) := by decide +kernel
theorem dX2_isAbove_129 : decode cX2_isAbove 129 = .ok (.lstore 16, 2) := by decide +kernel
theorem dX2_isAbove_131 : decode cX2_isAbove 131 = .ok (.lload 12, 2) := by decide +kernel
theorem dX2_isAbove_133 : decode cX2_isAbove 133 = .ok (.lload 6, 2) := by decide +kernel
theorem dX2_isAbove_135 : decode cX2_isAbove 135 = .ok (.lmul, 1) := by decide +kernel
theorem dX2_isAbove_136 : decode cX2_isAbove 136 = .ok (.lstore 18, 2) := by decide +kernel
theorem dX2_isAbove_138 : decode cX2_isAbove 138 = .ok (.lload 14, 2) := by decide +kernel
theorem dX2_isAbove_140 : decode cX2_isAbove 140 = .ok (.lload 6, 2) := by decide +kernel
theorem dX2_isAbove_142 : decode cX2_isAbove 142 = .ok (.lmul, 1) := by decide +kernel
theorem dX2_isAbove_143 : decode cX2_isAbove 143 = .ok (.lstore 20, 2) := by decide +kernel
theorem dX2_isAbove_145 : decode cX2_isAbove 145 = .ok (.lload 16, 2) := by decide +kernel
theorem dX2_isAbove_147 : decode cX2_isAbove 147 = .ok (.ldc2_w 18, 3) := by decide +kernel
theorem dX2_isAbove_150 : decode cX2_isAbove 150 = .ok (.land, 1) := by decide +kernel
theorem dX2_isAbove_151 : decode cX2_isAbove 151 = .ok (.lstore 22, 2) := by decide +kernel
theorem dX2_isAbove_153 : decode cX2_isAbove 153 = .ok (.lload 16, 2) := by decide +kernel
theorem dX2_isAbove_155 : decode cX2_isAbove 155 = .ok (.bipush 32, 2) := by decide +kernel
theorem dX2_isAbove_157 : decode cX2_isAbove 157 = .ok (.lushr, 1) := by decide +kernel
theorem dX2_isAbove_158 : decode cX2_isAbove 158 = .ok (.lload 18, 2) := by decide +kernel
theorem dX2_isAbove_160 : decode cX2_isAbove 160 = .ok (.ldc2_w 18, 3) := by decide +kernel
theorem dX2_isAbove_163 : decode cX2_isAbove 163 = .ok (.land, 1) := by decide +kernel
theorem dX2_isAbove_164 : decode cX2_isAbove 164 = .ok (.ladd, 1) := by decide +kernel
theorem dX2_isAbove_165 : decode cX2_isAbove 165 = .ok (.lload 10, 2) := by decide +kernel
theorem dX2_isAbove_167 : decode cX2_isAbove 167 = .ok (.lload 4, 2) := by decide +kernel
theorem dX2_isAbove_169 : decode cX2_isAbove 169 = .ok (.lmul, 1) := by decide +kernel
theorem dX2_isAbove_170 : decode cX2_isAbove 170 = .ok (.ladd, 1) := by decide +kernel
theorem dX2_isAbove_171 : decode cX2_isAbove 171 = .ok (.lstore 24, 2) := by decide +kernel
theorem dX2_isAbove_173 : decode cX2_isAbove 173 = .ok (.lload 18, 2) := by decide +kernel
theorem dX2_isAbove_175 : decode cX2_isAbove 175 = .ok (.bipush 32, 2) := by decide +kernel
theorem dX2_isAbove_177 : decode cX2_isAbove 177 = .ok (.lushr, 1) := by decide +kernel
theorem dX2_isAbove_178 : decode cX2_isAbove 178 = .ok (.lload 20, 2) := by decide +kernel
theorem dX2_isAbove_180 : decode cX2_isAbove 180 = .ok (.ladd, 1) := by decide +kernel
theorem dX2_isAbove_181 : decode cX2_isAbove 181 = .ok (.lload 12, 2) := by decide +kernel
theorem dX2_isAbove_183 : decode cX2_isAbove 183 = .ok (.lload 4, 2) := by decide +kernel
theorem dX2_isAbove_185 : decode cX2_isAbove 185 = .ok (.lmul, 1) := by decide +kernel
theorem dX2_isAbove_186 : decode cX2_isAbove 186 = .ok (.ladd, 1) := by decide +kernel
theorem dX2_isAbove_187 : decode cX2_isAbove 187 = .ok (.lload 24, 2) := by decide +kernel
theorem dX2_isAbove_189 : decode cX2_isAbove 189 = .ok (.bipush 32, 2) := by decide +kernel
theorem dX2_isAbove_191 : decode cX2_isAbove 191 = .ok (.lushr, 1) := by decide +kernel
theorem dX2_isAbove_192 : decode cX2_isAbove 192 = .ok (.ladd, 1) := by decide +kernel
theorem dX2_isAbove_193 : decode cX2_isAbove 193 = .ok (.lstore 26, 2) := by decide +kernel
theorem dX2_isAbove_195 : decode cX2_isAbove 195 = .ok (.lload 14, 2) := by decide +kernel
theorem dX2_isAbove_197 : decode cX2_isAbove 197 = .ok (.lload 4, 2) := by decide +kernel
theorem dX2_isAbove_199 : decode cX2_isAbove 199 = .ok (.lmul, 1) := by decide +kernel
theorem dX2_isAbove_200 : decode cX2_isAbove 200 = .ok (.lload 26, 2) := by decide +kernel
theorem dX2_isAbove_202 : decode cX2_isAbove 202 = .ok (.bipush 32, 2) := by decide +kernel
theorem dX2_isAbove_204 : decode cX2_isAbove 204 = .ok (.lushr, 1) := by decide +kernel
theorem dX2_isAbove_205 : decode cX2_isAbove 205 = .ok (.ladd, 1) := by decide +kernel
theorem dX2_isAbove_206 : decode cX2_isAbove 206 = .ok (.lstore 28, 2) := by decide +kernel
theorem dX2_isAbove_208 : decode cX2_isAbove 208 = .ok (.lload 24, 2) := by decide +kernel
theorem dX2_isAbove_210 : decode cX2_isAbove 210 = .ok (.ldc2_w 18, 3) := by decide +kernel
theorem dX2_isAbove_213 : decode cX2_isAbove 213 = .ok (.land, 1) := by decide +kernel
theorem dX2_isAbove_214 : decode cX2_isAbove 214 = .ok (.lstore 24, 2) := by decide +kernel
theorem dX2_isAbove_216 : decode cX2_isAbove 216 = .ok (.lload 26, 2) := by decide +kernel
theorem dX2_isAbove_218 : decode cX2_isAbove 218 = .ok (.ldc2_w 18, 3) := by decide +kernel
theorem dX2_isAbove_221 : decode cX2_isAbove 221 = .ok (.land, 1) := by decide +kernel
theorem dX2_isAbove_222 : decode cX2_isAbove 222 = .ok (.lstore 26, 2) := by decide +kernel
theorem dX2_isAbove_224 : decode cX2_isAbove 224 = .ok (.lload 28, 2) := by decide +kernel
theorem dX2_isAbove_226 : decode cX2_isAbove 226 = .ok (.iload_n 2, 1) := by decide +kernel
theorem dX2_isAbove_227 : decode cX2_isAbove 227 = .ok (.i2l, 1) := by decide +kernel
theorem dX2_isAbove_228 : decode cX2_isAbove 228 = .ok (.lcmp, 1) := by decide +kernel
theorem dX2_isAbove_229 : decode cX2_isAbove 229 = .ok (.ifCond .gt 32, 3) := by decide +kernel
theorem dX2_isAbove_232 : decode cX2_isAbove 232 = .ok (.lload 28, 2) := by decide +kernel
theorem dX2_isAbove_234 : decode cX2_isAbove 234 = .ok (.iload_n 2, 1) := by decide +kernel
theorem dX2_isAbove_235 : decode cX2_isAbove 235 = .ok (.i2l, 1) := by decide +kernel
theorem dX2_isAbove_236 : decode cX2_isAbove 236 = .ok (.lcmp, 1) := by decide +kernel
theorem dX2_isAbove_237 : decode cX2_isAbove 237 = .ok (.ifCond .ne 28, 3) := by decide +kernel
theorem dX2_isAbove_240 : decode cX2_isAbove 240 = .ok (.lload 26, 2) := by decide +kernel
theorem dX2_isAbove_242 : decode cX2_isAbove 242 = .ok (.lconst 0, 1) := by decide +kernel
theorem dX2_isAbove_243 : decode cX2_isAbove 243 = .ok (.lcmp, 1) := by decide +kernel
theorem dX2_isAbove_244 : decode cX2_isAbove 244 = .ok (.ifCond .gt 17, 3) := by decide +kernel
theorem dX2_isAbove_247 : decode cX2_isAbove 247 = .ok (.lload 24, 2) := by decide +kernel
theorem dX2_isAbove_249 : decode cX2_isAbove 249 = .ok (.lconst 0, 1) := by decide +kernel
theorem dX2_isAbove_250 : decode cX2_isAbove 250 = .ok (.lcmp, 1) := by decide +kernel
theorem dX2_isAbove_251 : decode cX2_isAbove 251 = .ok (.ifCond .gt 10, 3) := by decide +kernel
theorem dX2_isAbove_254 : decode cX2_isAbove 254 = .ok (.lload 22, 2) := by decide +kernel
theorem dX2_isAbove_256 : decode cX2_isAbove 256 = .ok (.lconst 0, 1) := by decide +kernel
theorem dX2_isAbove_257 : decode cX2_isAbove 257 = .ok (.lcmp, 1) := by decide +kernel
theorem dX2_isAbove_258 : decode cX2_isAbove 258 = .ok (.ifCond .le 7, 3) := by decide +kernel
theorem dX2_isAbove_261 : decode cX2_isAbove 261 = .ok (.iconst 1, 1) := by decide +kernel
theorem dX2_isAbove_262 : decode cX2_isAbove 262 = .ok (.goto 4, 3) := by decide +kernel
theorem dX2_isAbove_265 : decode cX2_isAbove 265 = .ok (.iconst 0, 1) := by decide +kernel
theorem dX2_isAbove_266 : decode cX2_isAbove 266 = .ok (.ireturn, 1) := by decide +kernel
theorem dX2_turn_0 : decode cX2_turn 0 = .ok (.iload_n 0, 1) := by decide +kernel
theorem dX2_turn_1 : decode cX2_turn 1 = .ok (.iload_n 1, 1) := by decide +kernel
theorem dX2_turn_2 : decode cX2_turn 2 = .ok (.iushr, 1) := by decide +kernel
theorem dX2_turn_3 : decode cX2_turn 3 = .ok (.iload_n 0, 1) := by decide +kernel
theorem dX2_turn_4 : decode cX2_turn 4 = .ok (.bipush 32, 2) := by decide +kernel
theorem dX2_turn_6 : decode cX2_turn 6 = .ok (.iload_n 1, 1) := by decide +kernel
theorem dX2_turn_7 : decode cX2_turn 7 = .ok (.isub, 1) := by decide +kernel
theorem dX2_turn_8 : decode cX2_turn 8 = .ok (.ishl, 1) := by decide +kernel
theorem dX2_turn_9 : decode cX2_turn 9 = .ok (.ior, 1) := by decide +kernel
theorem dX2_turn_10 : decode cX2_turn 10 = .ok (.ireturn, 1) := by decide +kernel
theorem dX2_hashByte_0 : decode cX2_hashByte 0 = .ok (.aload_n 0, 1) := by decide +kernel
theorem dX2_hashByte_1 : decode cX2_hashByte 1 = .ok (.getfield 22, 3) := by decide +kernel
theorem dX2_hashByte_4 : decode cX2_hashByte 4 = .ok (.aload_n 0, 1) := by decide +kernel
theorem dX2_hashByte_5 : decode cX2_hashByte 5 = .ok (.getfield 25, 3) := by decide +kernel
theorem dX2_hashByte_8 : decode cX2_hashByte 8 = .ok (.iload_n 1, 1) := by decide +kernel
theorem dX2_hashByte_9 : decode cX2_hashByte 9 = .ok (.sipush 255, 3) := by decide +kernel
theorem dX2_hashByte_12 : decode cX2_hashByte 12 = .ok (.iand, 1) := by decide +kernel
theorem dX2_hashByte_13 : decode cX2_hashByte 13 = .ok (.iastore, 1) := by decide +kernel
theorem dX2_hashByte_14 : decode cX2_hashByte 14 = .ok (.aload_n 0, 1) := by decide +kernel
theorem dX2_hashByte_15 : decode cX2_hashByte 15 = .ok (.aload_n 0, 1) := by decide +kernel
theorem dX2_hashByte_16 : decode cX2_hashByte 16 = .ok (.getfield 25, 3) := by decide +kernel
theorem dX2_hashByte_19 : decode cX2_hashByte 19 = .ok (.iconst 1, 1) := by decide +kernel
theorem dX2_hashByte_20 : decode cX2_hashByte 20 = .ok (.iadd, 1) := by decide +kernel
theorem dX2_hashByte_21 : decode cX2_hashByte 21 = .ok (.putfield 25, 3) := by decide +kernel
theorem dX2_hashByte_24 : decode cX2_hashByte 24 = .ok (.return_, 1) := by decide +kernel
theorem dX2_digest_0 : decode cX2_digest 0 = .ok (.aload_n 0, 1) := by decide +kernel
theorem dX2_digest_1 : decode cX2_digest 1 = .ok (.getfield 25, 3) := by decide +kernel
theorem dX2_digest_4 : decode cX2_digest 4 = .ok (.istore_n 1, 1) := by decide +kernel
theorem dX2_digest_5 : decode cX2_digest 5 = .ok (.aload_n 0, 1) := by decide +kernel
theorem dX2_digest_6 : decode cX2_digest 6 = .ok (.sipush 128, 3) := by decide +kernel
theorem dX2_digest_9 : decode cX2_digest 9 = .ok (.invokevirtual 29, 3) := by decide +kernel
theorem dX2_digest_12 : decode cX2_digest 12 = .ok (.aload_n 0, 1) := by decide +kernel
theorem dX2_digest_13 : decode cX2_digest 13 = .ok (.getfield 25, 3) := by decide +kernel
theorem dX2_digest_16 : decode cX2_digest 16 = .ok (.bipush 64, 2) := by decide +kernel
theorem dX2_digest_18 : decode cX2_digest 18 = .ok (.irem, 1) := by decide +kernel
theorem dX2_digest_19 : decode cX2_digest 19 = .ok (.bipush 56, 2) := by decide +kernel
theorem dX2_digest_21 : decode cX2_digest 21 = .ok (.if_icmp .eq 11, 3) := by decide +kernel
theorem dX2_digest_24 : decode cX2_digest 24 = .ok (.aload_n 0, 1) := by decide +kernel
theorem dX2_digest_25 : decode cX2_digest 25 = .ok (.iconst 0, 1) := by decide +kernel
theorem dX2_digest_26 : decode cX2_digest 26 = .ok (.invokevirtual 29, 3) := by decide +kernel
theorem dX2_digest_29 : decode cX2_digest 29 = .ok (.goto (-17), 3) := by decide +kernel
theorem dX2_digest_32 : decode cX2_digest 32 = .ok (.iconst 0, 1) := by decide +kernel
theorem dX2_digest_33 : decode cX2_digest 33 = .ok (.istore_n 2, 1) := by decide +kernel
theorem dX2_digest_34 : decode cX2_digest 34 = .ok (.iload_n 2, 1) := by decide +kernel
theorem dX2_digest_35 : decode cX2_digest 35 = .ok (.iconst 4, 1) := by decide +kernel
theorem dX2_digest_36 : decode cX2_digest 36 = .ok (.if_icmp .ge 14, 3) := by decide +kernel
theorem dX2_digest_39 : decode cX2_digest 39 = .ok (.aload_n 0, 1) := by decide +kernel
theorem dX2_digest_40 : decode cX2_digest 40 = .ok (.iconst 0, 1) := by decide +kernel
theorem dX2_digest_41 : decode cX2_digest 41 = .ok (.invokevirtual 29, 3) := by decide +kernel
theorem dX2_digest_44 : decode cX2_digest 44 = .ok (.iinc 2 1, 3) := by decide +kernel
theorem dX2_digest_47 : decode cX2_digest 47 = .ok (.goto (-13), 3) := by decide +kernel
theorem dX2_digest_50 : decode cX2_digest 50 = .ok (.iconst 3, 1) := by decide +kernel
theorem dX2_digest_51 : decode cX2_digest 51 = .ok (.istore_n 2, 1) := by decide +kernel
theorem dX2_digest_52 : decode cX2_digest 52 = .ok (.iload_n 2, 1) := by decide +kernel
theorem dX2_digest_53 : decode cX2_digest 53 = .ok (.ifCond .lt 22, 3) := by decide +kernel
theorem dX2_digest_56 : decode cX2_digest 56 = .ok (.aload_n 0, 1) := by decide +kernel
theorem dX2_digest_57 : decode cX2_digest 57 = .ok (.bipush 8, 2) := by decide +kernel
theorem dX2_digest_59 : decode cX2_digest 59 = .ok (.iload_n 1, 1) := by decide +kernel
theorem dX2_digest_60 : decode cX2_digest 60 = .ok (.imul, 1) := by decide +kernel
theorem dX2_digest_61 : decode cX2_digest 61 = .ok (.bipush 8, 2) := by decide +kernel
theorem dX2_digest_63 : decode cX2_digest 63 = .ok (.iload_n 2, 1) := by decide +kernel
theorem dX2_digest_64 : decode cX2_digest 64 = .ok (.imul, 1) := by decide +kernel
theorem dX2_digest_65 : decode cX2_digest 65 = .ok (.iushr, 1) := by decide +kernel
theorem dX2_digest_66 : decode cX2_digest 66 = .ok (.invokevirtual 29, 3) := by decide +kernel
theorem dX2_digest_69 : decode cX2_digest 69 = .ok (.iinc 2 (-1), 3) := by decide +kernel
theorem dX2_digest_72 : decode cX2_digest 72 = .ok (.goto (-20), 3) := by decide +kernel
theorem dX2_digest_75 : decode cX2_digest 75 = .ok (.iconst 0, 1) := by decide +kernel
theorem dX2_digest_76 : decode cX2_digest 76 = .ok (.istore_n 2, 1) := by decide +kernel
theorem dX2_digest_77 : decode cX2_digest 77 = .ok (.iload_n 2, 1) := by decide +kernel
theorem dX2_digest_78 : decode cX2_digest 78 = .ok (.bipush 8, 2) := by decide +kernel
theorem dX2_digest_80 : decode cX2_digest 80 = .ok (.if_icmp .ge 21, 3) := by decide +kernel
theorem dX2_digest_83 : decode cX2_digest 83 = .ok (.aload_n 0, 1) := by decide +kernel
theorem dX2_digest_84 : decode cX2_digest 84 = .ok (.getfield 33, 3) := by decide +kernel
theorem dX2_digest_87 : decode cX2_digest 87 = .ok (.iload_n 2, 1) := by decide +kernel
theorem dX2_digest_88 : decode cX2_digest 88 = .ok (.aload_n 0, 1) := by decide +kernel
theorem dX2_digest_89 : decode cX2_digest 89 = .ok (.getfield 1, 3) := by decide +kernel
theorem dX2_digest_92 : decode cX2_digest 92 = .ok (.iload_n 2, 1) := by decide +kernel
theorem dX2_digest_93 : decode cX2_digest 93 = .ok (.iaload, 1) := by decide +kernel
theorem dX2_digest_94 : decode cX2_digest 94 = .ok (.iastore, 1) := by decide +kernel
theorem dX2_digest_95 : decode cX2_digest 95 = .ok (.iinc 2 1, 3) := by decide +kernel
theorem dX2_digest_98 : decode cX2_digest 98 = .ok (.goto (-21), 3) := by decide +kernel
theorem dX2_digest_101 : decode cX2_digest 101 = .ok (.iconst 0, 1) := by decide +kernel
theorem dX2_digest_102 : decode cX2_digest 102 = .ok (.istore_n 2, 1) := by decide +kernel
theorem dX2_digest_103 : decode cX2_digest 103 = .ok (.iload_n 2, 1) := by decide +kernel
theorem dX2_digest_104 : decode cX2_digest 104 = .ok (.aload_n 0, 1) := by decide +kernel
theorem dX2_digest_105 : decode cX2_digest 105 = .ok (.getfield 25, 3) := by decide +kernel
theorem dX2_digest_108 : decode cX2_digest 108 = .ok (.if_icmp .ge 14, 3) := by decide +kernel
theorem dX2_digest_111 : decode cX2_digest 111 = .ok (.aload_n 0, 1) := by decide +kernel
theorem dX2_digest_112 : decode cX2_digest 112 = .ok (.iload_n 2, 1) := by decide +kernel
theorem dX2_digest_113 : decode cX2_digest 113 = .ok (.invokevirtual 36, 3) := by decide +kernel
theorem dX2_digest_116 : decode cX2_digest 116 = .ok (.iinc 2 64, 3) := by decide +kernel
theorem dX2_digest_119 : decode cX2_digest 119 = .ok (.goto (-16), 3) := by decide +kernel
theorem dX2_digest_122 : decode cX2_digest 122 = .ok (.return_, 1) := by decide +kernel
theorem dX2_compress_0 : decode cX2_compress 0 = .ok (.iconst 0, 1) := by decide +kernel
theorem dX2_compress_1 : decode cX2_compress 1 = .ok (.istore_n 2, 1) := by decide +kernel
theorem dX2_compress_2 : decode cX2_compress 2 = .ok (.iload_n 2, 1) := by decide +kernel
theorem dX2_compress_3 : decode cX2_compress 3 = .ok (.bipush 16, 2) := by decide +kernel
theorem dX2_compress_5 : decode cX2_compress 5 = .ok (.if_icmp .ge 73, 3) := by decide +kernel
theorem dX2_compress_8 : decode cX2_compress 8 = .ok (.aload_n 0, 1) := by decide +kernel
theorem dX2_compress_9 : decode cX2_compress 9 = .ok (.getfield 39, 3) := by decide +kernel
theorem dX2_compress_12 : decode cX2_compress 12 = .ok (.iload_n 2, 1) := by decide +kernel
theorem dX2_compress_13 : decode cX2_compress 13 = .ok (.aload_n 0, 1) := by decide +kernel
theorem dX2_compress_14 : decode cX2_compress 14 = .ok (.getfield 22, 3) := by decide +kernel
theorem dX2_compress_17 : decode cX2_compress 17 = .ok (.iload_n 1, 1) := by decide +kernel
theorem dX2_compress_18 : decode cX2_compress 18 = .ok (.iconst 4, 1) := by decide +kernel
theorem dX2_compress_19 : decode cX2_compress 19 = .ok (.iload_n 2, 1) := by decide +kernel
theorem dX2_compress_20 : decode cX2_compress 20 = .ok (.imul, 1) := by decide +kernel
theorem dX2_compress_21 : decode cX2_compress 21 = .ok (.iadd, 1) := by decide +kernel
theorem dX2_compress_22 : decode cX2_compress 22 = .ok (.iaload, 1) := by decide +kernel
theorem dX2_compress_23 : decode cX2_compress 23 = .ok (.bipush 24, 2) := by decide +kernel
theorem dX2_compress_25 : decode cX2_compress 25 = .ok (.ishl, 1) := by decide +kernel
theorem dX2_compress_26 : decode cX2_compress 26 = .ok (.aload_n 0, 1) := by decide +kernel
theorem dX2_compress_27 : decode cX2_compress 27 = .ok (.getfield 22, 3) := by decide +kernel
theorem dX2_compress_30 : decode cX2_compress 30 = .ok (.iload_n 1, 1) := by decide +kernel
theorem dX2_compress_31 : decode cX2_compress 31 = .ok (.iconst 4, 1) := by decide +kernel
theorem dX2_compress_32 : decode cX2_compress 32 = .ok (.iload_n 2, 1) := by decide +kernel
theorem dX2_compress_33 : decode cX2_compress 33 = .ok (.imul, 1) := by decide +kernel
theorem dX2_compress_34 : decode cX2_compress 34 = .ok (.iadd, 1) := by decide +kernel
theorem dX2_compress_35 : decode cX2_compress 35 = .ok (.iconst 1, 1) := by decide +kernel
theorem dX2_compress_36 : decode cX2_compress 36 = .ok (.iadd, 1) := by decide +kernel
theorem dX2_compress_37 : decode cX2_compress 37 = .ok (.iaload, 1) := by decide +kernel
theorem dX2_compress_38 : decode cX2_compress 38 = .ok (.bipush 16, 2) := by decide +kernel
theorem dX2_compress_40 : decode cX2_compress 40 = .ok (.ishl, 1) := by decide +kernel
theorem dX2_compress_41 : decode cX2_compress 41 = .ok (.ior, 1) := by decide +kernel
theorem dX2_compress_42 : decode cX2_compress 42 = .ok (.aload_n 0, 1) := by decide +kernel
theorem dX2_compress_43 : decode cX2_compress 43 = .ok (.getfield 22, 3) := by decide +kernel
theorem dX2_compress_46 : decode cX2_compress 46 = .ok (.iload_n 1, 1) := by decide +kernel
theorem dX2_compress_47 : decode cX2_compress 47 = .ok (.iconst 4, 1) := by decide +kernel
theorem dX2_compress_48 : decode cX2_compress 48 = .ok (.iload_n 2, 1) := by decide +kernel
theorem dX2_compress_49 : decode cX2_compress 49 = .ok (.imul, 1) := by decide +kernel
theorem dX2_compress_50 : decode cX2_compress 50 = .ok (.iadd, 1) := by decide +kernel
theorem dX2_compress_51 : decode cX2_compress 51 = .ok (.iconst 2, 1) := by decide +kernel
theorem dX2_compress_52 : decode cX2_compress 52 = .ok (.iadd, 1) := by decide +kernel
theorem dX2_compress_53 : decode cX2_compress 53 = .ok (.iaload, 1) := by decide +kernel
theorem dX2_compress_54 : decode cX2_compress 54 = .ok (.bipush 8, 2) := by decide +kernel
theorem dX2_compress_56 : decode cX2_compress 56 = .ok (.ishl, 1) := by decide +kernel
theorem dX2_compress_57 : decode cX2_compress 57 = .ok (.ior, 1) := by decide +kernel
theorem dX2_compress_58 : decode cX2_compress 58 = .ok (.aload_n 0, 1) := by decide +kernel
theorem dX2_compress_59 : decode cX2_compress 59 = .ok (.getfield 22, 3) := by decide +kernel
theorem dX2_compress_62 : decode cX2_compress 62 = .ok (.iload_n 1, 1) := by decide +kernel
theorem dX2_compress_63 : decode cX2_compress 63 = .ok (.iconst 4, 1) := by decide +kernel
theorem dX2_compress_64 : decode cX2_compress 64 = .ok (.iload_n 2, 1) := by decide +kernel
theorem dX2_compress_65 : decode cX2_compress 65 = .ok (.imul, 1) := by decide +kernel
theorem dX2_compress_66 : decode cX2_compress 66 = .ok (.iadd, 1) := by decide +kernel
theorem dX2_compress_67 : decode cX2_compress 67 = .ok (.iconst 3, 1) := by decide +kernel
theorem dX2_compress_68 : decode cX2_compress 68 = .ok (.iadd, 1) := by decide +kernel
theorem dX2_compress_69 : decode cX2_compress 69 = .ok (.iaload, 1) := by decide +kernel
theorem dX2_compress_70 : decode cX2_compress 70 = .ok (.ior, 1) := by decide +kernel
theorem dX2_compress_71 : decode cX2_compress 71 = .ok (.iastore, 1) := by decide +kernel
theorem dX2_compress_72 : decode cX2_compress 72 = .ok (.iinc 2 1, 3) := by decide +kernel
theorem dX2_compress_75 : decode cX2_compress 75 = .ok (.goto (-73), 3) := by decide +kernel
theorem dX2_compress_78 : decode cX2_compress 78 = .ok (.bipush 16, 2) := by decide +kernel
theorem dX2_compress_80 : decode cX2_compress 80 = .ok (.istore_n 2, 1) := by decide +kernel
theorem dX2_compress_81 : decode cX2_compress 81 = .ok (.iload_n 2, 1) := by decide +kernel
theorem dX2_compress_82 : decode cX2_compress 82 = .ok (.bipush 64, 2) := by decide +kernel
theorem dX2_compress_84 : decode cX2_compress 84 = .ok (.if_icmp .ge 94, 3) := by decide +kernel
theorem dX2_compress_87 : decode cX2_compress 87 = .ok (.aload_n 0, 1) := by decide +kernel
theorem dX2_compress_88 : decode cX2_compress 88 = .ok (.getfield 39, 3) := by decide +kernel
theorem dX2_compress_91 : decode cX2_compress 91 = .ok (.iload_n 2, 1) := by decide +kernel
theorem dX2_compress_92 : decode cX2_compress 92 = .ok (.bipush 15, 2) := by decide +kernel
theorem dX2_compress_94 : decode cX2_compress 94 = .ok (.isub, 1) := by decide +kernel
theorem dX2_compress_95 : decode cX2_compress 95 = .ok (.iaload, 1) := by decide +kernel
theorem dX2_compress_96 : decode cX2_compress 96 = .ok (.istore_n 3, 1) := by decide +kernel
theorem dX2_compress_97 : decode cX2_compress 97 = .ok (.aload_n 0, 1) := by decide +kernel
theorem dX2_compress_98 : decode cX2_compress 98 = .ok (.getfield 39, 3) := by decide +kernel
theorem dX2_compress_101 : decode cX2_compress 101 = .ok (.iload_n 2, 1) := by decide +kernel
theorem dX2_compress_102 : decode cX2_compress 102 = .ok (.iconst 2, 1) := by decide +kernel
theorem dX2_compress_103 : decode cX2_compress 103 = .ok (.isub, 1) := by decide +kernel
theorem dX2_compress_104 : decode cX2_compress 104 = .ok (.iaload, 1) := by decide +kernel
theorem dX2_compress_105 : decode cX2_compress 105 = .ok (.istore 4, 2) := by decide +kernel
theorem dX2_compress_107 : decode cX2_compress 107 = .ok (.aload_n 0, 1) := by decide +kernel
theorem dX2_compress_108 : decode cX2_compress 108 = .ok (.getfield 39, 3) := by decide +kernel
theorem dX2_compress_111 : decode cX2_compress 111 = .ok (.iload_n 2, 1) := by decide +kernel
theorem dX2_compress_112 : decode cX2_compress 112 = .ok (.aload_n 0, 1) := by decide +kernel
theorem dX2_compress_113 : decode cX2_compress 113 = .ok (.getfield 39, 3) := by decide +kernel
theorem dX2_compress_116 : decode cX2_compress 116 = .ok (.iload_n 2, 1) := by decide +kernel
theorem dX2_compress_117 : decode cX2_compress 117 = .ok (.bipush 16, 2) := by decide +kernel
theorem dX2_compress_119 : decode cX2_compress 119 = .ok (.isub, 1) := by decide +kernel
theorem dX2_compress_120 : decode cX2_compress 120 = .ok (.iaload, 1) := by decide +kernel
theorem dX2_compress_121 : decode cX2_compress 121 = .ok (.iload_n 3, 1) := by decide +kernel
theorem dX2_compress_122 : decode cX2_compress 122 = .ok (.bipush 7, 2) := by decide +kernel
theorem dX2_compress_124 : decode cX2_compress 124 = .ok (.invokestatic 42, 3) := by decide +kernel
theorem dX2_compress_127 : decode cX2_compress 127 = .ok (.iload_n 3, 1) := by decide +kernel
theorem dX2_compress_128 : decode cX2_compress 128 = .ok (.bipush 18, 2) := by decide +kernel
theorem dX2_compress_130 : decode cX2_compress 130 = .ok (.invokestatic 42, 3) := by decide +kernel
theorem dX2_compress_133 : decode cX2_compress 133 = .ok (.ixor, 1) := by decide +kernel
theorem dX2_compress_134 : decode cX2_compress 134 = .ok (.iload_n 3, 1) := by decide +kernel
theorem dX2_compress_135 : decode cX2_compress 135 = .ok (.iconst 3, 1) := by decide +kernel
theorem dX2_compress_136 : decode cX2_compress 136 = .ok (.iushr, 1) := by decide +kernel
theorem dX2_compress_137 : decode cX2_compress 137 = .ok (.ixor, 1) := by decide +kernel
theorem dX2_compress_138 : decode cX2_compress 138 = .ok (.iadd, 1) := by decide +kernel
theorem dX2_compress_139 : decode cX2_compress 139 = .ok (.aload_n 0, 1) := by decide +kernel
theorem dX2_compress_140 : decode cX2_compress 140 = .ok (.getfield 39, 3) := by decide +kernel
theorem dX2_compress_143 : decode cX2_compress 143 = .ok (.iload_n 2, 1) := by decide +kernel
theorem dX2_compress_144 : decode cX2_compress 144 = .ok (.bipush 7, 2) := by decide +kernel
theorem dX2_compress_146 : decode cX2_compress 146 = .ok (.isub, 1) := by decide +kernel
theorem dX2_compress_147 : decode cX2_compress 147 = .ok (.iaload, 1) := by decide +kernel
theorem dX2_compress_148 : decode cX2_compress 148 = .ok (.iadd, 1) := by decide +kernel
theorem dX2_compress_149 : decode cX2_compress 149 = .ok (.iload 4, 2) := by decide +kernel
theorem dX2_compress_151 : decode cX2_compress 151 = .ok (.bipush 17, 2) := by decide +kernel
theorem dX2_compress_153 : decode cX2_compress 153 = .ok (.invokestatic 42, 3) := by decide +kernel
theorem dX2_compress_156 : decode cX2_compress 156 = .ok (.iload 4, 2) := by decide +kernel
theorem dX2_compress_158 : decode cX2_compress 158 = .ok (.bipush 19, 2) := by decide +kernel
theorem dX2_compress_160 : decode cX2_compress 160 = .ok (.invokestatic 42, 3) := by decide +kernel
theorem dX2_compress_163 : decode cX2_compress 163 = .ok (.ixor, 1) := by decide +kernel
theorem dX2_compress_164 : decode cX2_compress 164 = .ok (.iload 4, 2) := by decide +kernel
theorem dX2_compress_166 : decode cX2_compress 166 = .ok (.bipush 10, 2) := by decide +kernel
theorem dX2_compress_168 : decode cX2_compress 168 = .ok (.iushr, 1) := by decide +kernel
theorem dX2_compress_169 : decode cX2_compress 169 = .ok (.ixor, 1) := by decide +kernel
theorem dX2_compress_170 : decode cX2_compress 170 = .ok (.iadd, 1) := by decide +kernel
theorem dX2_compress_171 : decode cX2_compress 171 = .ok (.iastore, 1) := by decide +kernel
theorem dX2_compress_172 : decode cX2_compress 172 = .ok (.iinc 2 1, 3) := by decide +kernel
theorem dX2_compress_175 : decode cX2_compress 175 = .ok (.goto (-94), 3) := by decide +kernel
theorem dX2_compress_178 : decode cX2_compress 178 = .ok (.aload_n 0, 1) := by decide +kernel
theorem dX2_compress_179 : decode cX2_compress 179 = .ok (.getfield 33, 3) := by decide +kernel
theorem dX2_compress_182 : decode cX2_compress 182 = .ok (.iconst 0, 1) := by decide +kernel
theorem dX2_compress_183 : decode cX2_compress 183 = .ok (.iaload, 1) := by decide +kernel
theorem dX2_compress_184 : decode cX2_compress 184 = .ok (.istore_n 2, 1) := by decide +kernel
theorem dX2_compress_185 : decode cX2_compress 185 = .ok (.aload_n 0, 1) := by decide +kernel
theorem dX2_compress_186 : decode cX2_compress 186 = .ok (.getfield 33, 3) := by decide +kernel
theorem dX2_compress_189 : decode cX2_compress 189 = .ok (.iconst 1, 1) := by decide +kernel
theorem dX2_compress_190 : decode cX2_compress 190 = .ok (.iaload, 1) := by decide +kernel
theorem dX2_compress_191 : decode cX2_compress 191 = .ok (.istore_n 3, 1) := by decide +kernel
theorem dX2_compress_192 : decode cX2_compress 192 = .ok (.aload_n 0, 1) := by decide +kernel
theorem dX2_compress_193 : decode cX2_compress 193 = .ok (.getfield 33, 3) := by decide +kernel
theorem dX2_compress_196 : decode cX2_compress 196 = .ok (.iconst 2, 1) := by decide +kernel
theorem dX2_compress_197 : decode cX2_compress 197 = .ok (.iaload, 1) := by decide +kernel
theorem dX2_compress_198 : decode cX2_compress 198 = .ok (.istore 4, 2) := by decide +kernel
theorem dX2_compress_200 : decode cX2_compress 200 = .ok (.aload_n 0, 1) := by decide +kernel
theorem dX2_compress_201 : decode cX2_compress 201 = .ok (.getfield 33, 3) := by decide +kernel
theorem dX2_compress_204 : decode cX2_compress 204 = .ok (.iconst 3, 1) := by decide +kernel
theorem dX2_compress_205 : decode cX2_compress 205 = .ok (.iaload, 1) := by decide +kernel
theorem dX2_compress_206 : decode cX2_compress 206 = .ok (.istore 5, 2) := by decide +kernel
theorem dX2_compress_208 : decode cX2_compress 208 = .ok (.aload_n 0, 1) := by decide +kernel
theorem dX2_compress_209 : decode cX2_compress 209 = .ok (.getfield 33, 3) := by decide +kernel
theorem dX2_compress_212 : decode cX2_compress 212 = .ok (.iconst 4, 1) := by decide +kernel
theorem dX2_compress_213 : decode cX2_compress 213 = .ok (.iaload, 1) := by decide +kernel
theorem dX2_compress_214 : decode cX2_compress 214 = .ok (.istore 6, 2) := by decide +kernel
theorem dX2_compress_216 : decode cX2_compress 216 = .ok (.aload_n 0, 1) := by decide +kernel
theorem dX2_compress_217 : decode cX2_compress 217 = .ok (.getfield 33, 3) := by decide +kernel
theorem dX2_compress_220 : decode cX2_compress 220 = .ok (.iconst 5, 1) := by decide +kernel
theorem dX2_compress_221 : decode cX2_compress 221 = .ok (.iaload, 1) := by decide +kernel
theorem dX2_compress_222 : decode cX2_compress 222 = .ok (.istore 7, 2) := by decide +kernel
theorem dX2_compress_224 : decode cX2_compress 224 = .ok (.aload_n 0, 1) := by decide +kernel
theorem dX2_compress_225 : decode cX2_compress 225 = .ok (.getfield 33, 3) := by decide +kernel
theorem dX2_compress_228 : decode cX2_compress 228 = .ok (.bipush 6, 2) := by decide +kernel
theorem dX2_compress_230 : decode cX2_compress 230 = .ok (.iaload, 1) := by decide +kernel
theorem dX2_compress_231 : decode cX2_compress 231 = .ok (.istore 8, 2) := by decide +kernel
theorem dX2_compress_233 : decode cX2_compress 233 = .ok (.aload_n 0, 1) := by decide +kernel
theorem dX2_compress_234 : decode cX2_compress 234 = .ok (.getfield 33, 3) := by decide +kernel
theorem dX2_compress_237 : decode cX2_compress 237 = .ok (.bipush 7, 2) := by decide +kernel
theorem dX2_compress_239 : decode cX2_compress 239 = .ok (.iaload, 1) := by decide +kernel
theorem dX2_compress_240 : decode cX2_compress 240 = .ok (.istore 9, 2) := by decide +kernel
theorem dX2_compress_242 : decode cX2_compress 242 = .ok (.iconst 0, 1) := by decide +kernel
theorem dX2_compress_243 : decode cX2_compress 243 = .ok (.istore 10, 2) := by decide +kernel
theorem dX2_compress_245 : decode cX2_compress 245 = .ok (.iload 10, 2) := by decide +kernel
theorem dX2_compress_247 : decode cX2_compress 247 = .ok (.bipush 64, 2) := by decide +kernel
theorem dX2_compress_249 : decode cX2_compress 249 = .ok (.if_icmp .ge 136, 3) := by decide +kernel
theorem dX2_compress_252 : decode cX2_compress 252 = .ok (.iload 9, 2) := by decide +kernel
theorem dX2_compress_254 : decode cX2_compress 254 = .ok (.iload 6, 2) := by decide +kernel
theorem dX2_compress_256 : decode cX2_compress 256 = .ok (.bipush 6, 2) := by decide +kernel
theorem dX2_compress_258 : decode cX2_compress 258 = .ok (.invokestatic 42, 3) := by decide +kernel
theorem dX2_compress_261 : decode cX2_compress 261 = .ok (.iload 6, 2) := by decide +kernel
theorem dX2_compress_263 : decode cX2_compress 263 = .ok (.bipush 11, 2) := by decide +kernel
theorem dX2_compress_265 : decode cX2_compress 265 = .ok (.invokestatic 42, 3) := by decide +kernel
theorem dX2_compress_268 : decode cX2_compress 268 = .ok (.ixor, 1) := by decide +kernel
theorem dX2_compress_269 : decode cX2_compress 269 = .ok (.iload 6, 2) := by decide +kernel
theorem dX2_compress_271 : decode cX2_compress 271 = .ok (.bipush 25, 2) := by decide +kernel
theorem dX2_compress_273 : decode cX2_compress 273 = .ok (.invokestatic 42, 3) := by decide +kernel
theorem dX2_compress_276 : decode cX2_compress 276 = .ok (.ixor, 1) := by decide +kernel
theorem dX2_compress_277 : decode cX2_compress 277 = .ok (.iadd, 1) := by decide +kernel
theorem dX2_compress_278 : decode cX2_compress 278 = .ok (.iload 6, 2) := by decide +kernel
theorem dX2_compress_280 : decode cX2_compress 280 = .ok (.iload 7, 2) := by decide +kernel
theorem dX2_compress_282 : decode cX2_compress 282 = .ok (.iand, 1) := by decide +kernel
theorem dX2_compress_283 : decode cX2_compress 283 = .ok (.iload 6, 2) := by decide +kernel
theorem dX2_compress_285 : decode cX2_compress 285 = .ok (.iconst (-1), 1) := by decide +kernel
theorem dX2_compress_286 : decode cX2_compress 286 = .ok (.ixor, 1) := by decide +kernel
theorem dX2_compress_287 : decode cX2_compress 287 = .ok (.iload 8, 2) := by decide +kernel
theorem dX2_compress_289 : decode cX2_compress 289 = .ok (.iand, 1) := by decide +kernel
theorem dX2_compress_290 : decode cX2_compress 290 = .ok (.ixor, 1) := by decide +kernel
theorem dX2_compress_291 : decode cX2_compress 291 = .ok (.iadd, 1) := by decide +kernel
theorem dX2_compress_292 : decode cX2_compress 292 = .ok (.aload_n 0, 1) := by decide +kernel
theorem dX2_compress_293 : decode cX2_compress 293 = .ok (.getfield 11, 3) := by decide +kernel
theorem dX2_compress_296 : decode cX2_compress 296 = .ok (.iload 10, 2) := by decide +kernel
theorem dX2_compress_298 : decode cX2_compress 298 = .ok (.iaload, 1) := by decide +kernel
theorem dX2_compress_299 : decode cX2_compress 299 = .ok (.iadd, 1) := by decide +kernel
theorem dX2_compress_300 : decode cX2_compress 300 = .ok (.aload_n 0, 1) := by decide +kernel
theorem dX2_compress_301 : decode cX2_compress 301 = .ok (.getfield 39, 3) := by decide +kernel
theorem dX2_compress_304 : decode cX2_compress 304 = .ok (.iload 10, 2) := by decide +kernel
theorem dX2_compress_306 : decode cX2_compress 306 = .ok (.iaload, 1) := by decide +kernel
theorem dX2_compress_307 : decode cX2_compress 307 = .ok (.iadd, 1) := by decide +kernel
theorem dX2_compress_308 : decode cX2_compress 308 = .ok (.istore 11, 2) := by decide +kernel
theorem dX2_compress_310 : decode cX2_compress 310 = .ok (.iload_n 2, 1) := by decide +kernel
theorem dX2_compress_311 : decode cX2_compress 311 = .ok (.iconst 2, 1) := by decide +kernel
theorem dX2_compress_312 : decode cX2_compress 312 = .ok (.invokestatic 42, 3) := by decide +kernel
theorem dX2_compress_315 : decode cX2_compress 315 = .ok (.iload_n 2, 1) := by decide +kernel
theorem dX2_compress_316 : decode cX2_compress 316 = .ok (.bipush 13, 2) := by decide +kernel
theorem dX2_compress_318 : decode cX2_compress 318 = .ok (.invokestatic 42, 3) := by decide +kernel
theorem dX2_compress_321 : decode cX2_compress 321 = .ok (.ixor, 1) := by decide +kernel
theorem dX2_compress_322 : decode cX2_compress 322 = .ok (.iload_n 2, 1) := by decide +kernel
theorem dX2_compress_323 : decode cX2_compress 323 = .ok (.bipush 22, 2) := by decide +kernel
theorem dX2_compress_325 : decode cX2_compress 325 = .ok (.invokestatic 42, 3) := by decide +kernel
theorem dX2_compress_328 : decode cX2_compress 328 = .ok (.ixor, 1) := by decide +kernel
theorem dX2_compress_329 : decode cX2_compress 329 = .ok (.iload_n 2, 1) := by decide +kernel
theorem dX2_compress_330 : decode cX2_compress 330 = .ok (.iload_n 3, 1) := by decide +kernel
theorem dX2_compress_331 : decode cX2_compress 331 = .ok (.iand, 1) := by decide +kernel
theorem dX2_compress_332 : decode cX2_compress 332 = .ok (.iload_n 2, 1) := by decide +kernel
theorem dX2_compress_333 : decode cX2_compress 333 = .ok (.iload 4, 2) := by decide +kernel
theorem dX2_compress_335 : decode cX2_compress 335 = .ok (.iand, 1) := by decide +kernel
theorem dX2_compress_336 : decode cX2_compress 336 = .ok (.ixor, 1) := by decide +kernel
theorem dX2_compress_337 : decode cX2_compress 337 = .ok (.iload_n 3, 1) := by decide +kernel
theorem dX2_compress_338 : decode cX2_compress 338 = .ok (.iload 4, 2) := by decide +kernel
theorem dX2_compress_340 : decode cX2_compress 340 = .ok (.iand, 1) := by decide +kernel
theorem dX2_compress_341 : decode cX2_compress 341 = .ok (.ixor, 1) := by decide +kernel
theorem dX2_compress_342 : decode cX2_compress 342 = .ok (.iadd, 1) := by decide +kernel
theorem dX2_compress_343 : decode cX2_compress 343 = .ok (.istore 12, 2) := by decide +kernel
theorem dX2_compress_345 : decode cX2_compress 345 = .ok (.iload 8, 2) := by decide +kernel
theorem dX2_compress_347 : decode cX2_compress 347 = .ok (.istore 9, 2) := by decide +kernel
theorem dX2_compress_349 : decode cX2_compress 349 = .ok (.iload 7, 2) := by decide +kernel
theorem dX2_compress_351 : decode cX2_compress 351 = .ok (.istore 8, 2) := by decide +kernel
theorem dX2_compress_353 : decode cX2_compress 353 = .ok (.iload 6, 2) := by decide +kernel
theorem dX2_compress_355 : decode cX2_compress 355 = .ok (.istore 7, 2) := by decide +kernel
theorem dX2_compress_357 : decode cX2_compress 357 = .ok (.iload 5, 2) := by decide +kernel
theorem dX2_compress_359 : decode cX2_compress 359 = .ok (.iload 11, 2) := by decide +kernel
theorem dX2_compress_361 : decode cX2_compress 361 = .ok (.iadd, 1) := by decide +kernel
theorem dX2_compress_362 : decode cX2_compress 362 = .ok (.istore 6, 2) := by decide +kernel
theorem dX2_compress_364 : decode cX2_compress 364 = .ok (.iload 4, 2) := by decide +kernel
theorem dX2_compress_366 : decode cX2_compress 366 = .ok (.istore 5, 2) := by decide +kernel
theorem dX2_compress_368 : decode cX2_compress 368 = .ok (.iload_n 3, 1) := by decide +kernel
theorem dX2_compress_369 : decode cX2_compress 369 = .ok (.istore 4, 2) := by decide +kernel
theorem dX2_compress_371 : decode cX2_compress 371 = .ok (.iload_n 2, 1) := by decide +kernel
theorem dX2_compress_372 : decode cX2_compress 372 = .ok (.istore_n 3, 1) := by decide +kernel
theorem dX2_compress_373 : decode cX2_compress 373 = .ok (.iload 11, 2) := by decide +kernel
theorem dX2_compress_375 : decode cX2_compress 375 = .ok (.iload 12, 2) := by decide +kernel
theorem dX2_compress_377 : decode cX2_compress 377 = .ok (.iadd, 1) := by decide +kernel
theorem dX2_compress_378 : decode cX2_compress 378 = .ok (.istore_n 2, 1) := by decide +kernel
theorem dX2_compress_379 : decode cX2_compress 379 = .ok (.iinc 10 1, 3) := by decide +kernel
theorem dX2_compress_382 : decode cX2_compress 382 = .ok (.goto (-137), 3) := by decide +kernel
theorem dX2_compress_385 : decode cX2_compress 385 = .ok (.aload_n 0, 1) := by decide +kernel
theorem dX2_compress_386 : decode cX2_compress 386 = .ok (.getfield 33, 3) := by decide +kernel
theorem dX2_compress_389 : decode cX2_compress 389 = .ok (.iconst 0, 1) := by decide +kernel
theorem dX2_compress_390 : decode cX2_compress 390 = .ok (.aload_n 0, 1) := by decide +kernel
theorem dX2_compress_391 : decode cX2_compress 391 = .ok (.getfield 33, 3) := by decide +kernel
theorem dX2_compress_394 : decode cX2_compress 394 = .ok (.iconst 0, 1) := by decide +kernel
theorem dX2_compress_395 : decode cX2_compress 395 = .ok (.iaload, 1) := by decide +kernel
theorem dX2_compress_396 : decode cX2_compress 396 = .ok (.iload_n 2, 1) := by decide +kernel
theorem dX2_compress_397 : decode cX2_compress 397 = .ok (.iadd, 1) := by decide +kernel
theorem dX2_compress_398 : decode cX2_compress 398 = .ok (.iastore, 1) := by decide +kernel
theorem dX2_compress_399 : decode cX2_compress 399 = .ok (.aload_n 0, 1) := by decide +kernel
theorem dX2_compress_400 : decode cX2_compress 400 = .ok (.getfield 33, 3) := by decide +kernel
theorem dX2_compress_403 : decode cX2_compress 403 = .ok (.iconst 1, 1) := by decide +kernel
theorem dX2_compress_404 : decode cX2_compress 404 = .ok (.aload_n 0, 1) := by decide +kernel
theorem dX2_compress_405 : decode cX2_compress 405 = .ok (.getfield 33, 3) := by decide +kernel
theorem dX2_compress_408 : decode cX2_compress 408 = .ok (.iconst 1, 1) := by decide +kernel
theorem dX2_compress_409 : decode cX2_compress 409 = .ok (.iaload, 1) := by decide +kernel
theorem dX2_compress_410 : decode cX2_compress 410 = .ok (.iload_n 3, 1) := by decide +kernel
theorem dX2_compress_411 : decode cX2_compress 411 = .ok (.iadd, 1) := by decide +kernel
theorem dX2_compress_412 : decode cX2_compress 412 = .ok (.iastore, 1) := by decide +kernel
theorem dX2_compress_413 : decode cX2_compress 413 = .ok (.aload_n 0, 1) := by decide +kernel
theorem dX2_compress_414 : decode cX2_compress 414 = .ok (.getfield 33, 3) := by decide +kernel
theorem dX2_compress_417 : decode cX2_compress 417 = .ok (.iconst 2, 1) := by decide +kernel
theorem dX2_compress_418 : decode cX2_compress 418 = .ok (.aload_n 0, 1) := by decide +kernel
theorem dX2_compress_419 : decode cX2_compress 419 = .ok (.getfield 33, 3) := by decide +kernel
theorem dX2_compress_422 : decode cX2_compress 422 = .ok (.iconst 2, 1) := by decide +kernel
theorem dX2_compress_423 : decode cX2_compress 423 = .ok (.iaload, 1) := by decide +kernel
theorem dX2_compress_424 : decode cX2_compress 424 = .ok (.iload 4, 2) := by decide +kernel
theorem dX2_compress_426 : decode cX2_compress 426 = .ok (.iadd, 1) := by decide +kernel
theorem dX2_compress_427 : decode cX2_compress 427 = .ok (.iastore, 1) := by decide +kernel
theorem dX2_compress_428 : decode cX2_compress 428 = .ok (.aload_n 0, 1) := by decide +kernel
theorem dX2_compress_429 : decode cX2_compress 429 = .ok (.getfield 33, 3) := by decide +kernel
theorem dX2_compress_432 : decode cX2_compress 432 = .ok (.iconst 3, 1) := by decide +kernel
theorem dX2_compress_433 : decode cX2_compress 433 = .ok (.aload_n 0, 1) := by decide +kernel
theorem dX2_compress_434 : decode cX2_compress 434 = .ok (.getfield 33, 3) := by decide +kernel
theorem dX2_compress_437 : decode cX2_compress 437 = .ok (.iconst 3, 1) := by decide +kernel
theorem dX2_compress_438 : decode cX2_compress 438 = .ok (.iaload, 1) := by decide +kernel
theorem dX2_compress_439 : decode cX2_compress 439 = .ok (.iload 5, 2) := by decide +kernel
theorem dX2_compress_441 : decode cX2_compress 441 = .ok (.iadd, 1) := by decide +kernel
theorem dX2_compress_442 : decode cX2_compress 442 = .ok (.iastore, 1) := by decide +kernel
theorem dX2_compress_443 : decode cX2_compress 443 = .ok (.aload_n 0, 1) := by decide +kernel
theorem dX2_compress_444 : decode cX2_compress 444 = .ok (.getfield 33, 3) := by decide +kernel
theorem dX2_compress_447 : decode cX2_compress 447 = .ok (.iconst 4, 1) := by decide +kernel
theorem dX2_compress_448 : decode cX2_compress 448 = .ok (.aload_n 0, 1) := by decide +kernel
theorem dX2_compress_449 : decode cX2_compress 449 = .ok (.getfield 33, 3) := by decide +kernel
theorem dX2_compress_452 : decode cX2_compress 452 = .ok (.iconst 4, 1) := by decide +kernel
theorem dX2_compress_453 : decode cX2_compress 453 = .ok (.iaload, 1) := by decide +kernel
theorem dX2_compress_454 : decode cX2_compress 454 = .ok (.iload 6, 2) := by decide +kernel
theorem dX2_compress_456 : decode cX2_compress 456 = .ok (.iadd, 1) := by decide +kernel
theorem dX2_compress_457 : decode cX2_compress 457 = .ok (.iastore, 1) := by decide +kernel
theorem dX2_compress_458 : decode cX2_compress 458 = .ok (.aload_n 0, 1) := by decide +kernel
theorem dX2_compress_459 : decode cX2_compress 459 = .ok (.getfield 33, 3) := by decide +kernel
theorem dX2_compress_462 : decode cX2_compress 462 = .ok (.iconst 5, 1) := by decide +kernel
theorem dX2_compress_463 : decode cX2_compress 463 = .ok (.aload_n 0, 1) := by decide +kernel
theorem dX2_compress_464 : decode cX2_compress 464 = .ok (.getfield 33, 3) := by decide +kernel
theorem dX2_compress_467 : decode cX2_compress 467 = .ok (.iconst 5, 1) := by decide +kernel
theorem dX2_compress_468 : decode cX2_compress 468 = .ok (.iaload, 1) := by decide +kernel
theorem dX2_compress_469 : decode cX2_compress 469 = .ok (.iload 7, 2) := by decide +kernel
theorem dX2_compress_471 : decode cX2_compress 471 = .ok (.iadd, 1) := by decide +kernel
theorem dX2_compress_472 : decode cX2_compress 472 = .ok (.iastore, 1) := by decide +kernel
theorem dX2_compress_473 : decode cX2_compress 473 = .ok (.aload_n 0, 1) := by decide +kernel
theorem dX2_compress_474 : decode cX2_compress 474 = .ok (.getfield 33, 3) := by decide +kernel
theorem dX2_compress_477 : decode cX2_compress 477 = .ok (.bipush 6, 2) := by decide +kernel
theorem dX2_compress_479 : decode cX2_compress 479 = .ok (.aload_n 0, 1) := by decide +kernel
theorem dX2_compress_480 : decode cX2_compress 480 = .ok (.getfield 33, 3) := by decide +kernel
theorem dX2_compress_483 : decode cX2_compress 483 = .ok (.bipush 6, 2) := by decide +kernel
theorem dX2_compress_485 : decode cX2_compress 485 = .ok (.iaload, 1) := by decide +kernel
theorem dX2_compress_486 : decode cX2_compress 486 = .ok (.iload 8, 2) := by decide +kernel
theorem dX2_compress_488 : decode cX2_compress 488 = .ok (.iadd, 1) := by decide +kernel
theorem dX2_compress_489 : decode cX2_compress 489 = .ok (.iastore, 1) := by decide +kernel
theorem dX2_compress_490 : decode cX2_compress 490 = .ok (.aload_n 0, 1) := by decide +kernel
theorem dX2_compress_491 : decode cX2_compress 491 = .ok (.getfield 33, 3) := by decide +kernel
theorem dX2_compress_494 : decode cX2_compress 494 = .ok (.bipush 7, 2) := by decide +kernel
theorem dX2_compress_496 : decode cX2_compress 496 = .ok (.aload_n 0, 1) := by decide +kernel
theorem dX2_compress_497 : decode cX2_compress 497 = .ok (.getfield 33, 3) := by decide +kernel
theorem dX2_compress_500 : decode cX2_compress 500 = .ok (.bipush 7, 2) := by decide +kernel
theorem dX2_compress_502 : decode cX2_compress 502 = .ok (.iaload, 1) := by decide +kernel
theorem dX2_compress_503 : decode cX2_compress 503 = .ok (.iload 9, 2) := by decide +kernel
theorem dX2_compress_505 : decode cX2_compress 505 = .ok (.iadd, 1) := by decide +kernel
theorem dX2_compress_506 : decode cX2_compress 506 = .ok (.iastore, 1) := by decide +kernel
theorem dX2_compress_507 : decode cX2_compress 507 = .ok (.return_, 1) := by decide +kernel
theorem dX2_sum_0 : decode cX2_sum 0 = .ok (.aload_n 0, 1) := by decide +kernel
theorem dX2_sum_1 : decode cX2_sum 1 = .ok (.getfield 33, 3) := by decide +kernel
theorem dX2_sum_4 : decode cX2_sum 4 = .ok (.iconst 2, 1) := by decide +kernel
theorem dX2_sum_5 : decode cX2_sum 5 = .ok (.iload_n 1, 1) := by decide +kernel
theorem dX2_sum_6 : decode cX2_sum 6 = .ok (.imul, 1) := by decide +kernel
theorem dX2_sum_7 : decode cX2_sum 7 = .ok (.iaload, 1) := by decide +kernel
theorem dX2_sum_8 : decode cX2_sum 8 = .ok (.i2l, 1) := by decide +kernel
theorem dX2_sum_9 : decode cX2_sum 9 = .ok (.bipush 32, 2) := by decide +kernel
theorem dX2_sum_11 : decode cX2_sum 11 = .ok (.lshl, 1) := by decide +kernel
theorem dX2_sum_12 : decode cX2_sum 12 = .ok (.aload_n 0, 1) := by decide +kernel
theorem dX2_sum_13 : decode cX2_sum 13 = .ok (.getfield 33, 3) := by decide +kernel
theorem dX2_sum_16 : decode cX2_sum 16 = .ok (.iconst 2, 1) := by decide +kernel
theorem dX2_sum_17 : decode cX2_sum 17 = .ok (.iload_n 1, 1) := by decide +kernel
theorem dX2_sum_18 : decode cX2_sum 18 = .ok (.imul, 1) := by decide +kernel
theorem dX2_sum_19 : decode cX2_sum 19 = .ok (.iconst 1, 1) := by decide +kernel
theorem dX2_sum_20 : decode cX2_sum 20 = .ok (.iadd, 1) := by decide +kernel
theorem dX2_sum_21 : decode cX2_sum 21 = .ok (.iaload, 1) := by decide +kernel
theorem dX2_sum_22 : decode cX2_sum 22 = .ok (.i2l, 1) := by decide +kernel
theorem dX2_sum_23 : decode cX2_sum 23 = .ok (.ldc2_w 18, 3) := by decide +kernel
theorem dX2_sum_26 : decode cX2_sum 26 = .ok (.land, 1) := by decide +kernel
theorem dX2_sum_27 : decode cX2_sum 27 = .ok (.lor, 1) := by decide +kernel
theorem dX2_sum_28 : decode cX2_sum 28 = .ok (.lreturn, 1) := by decide +kernel
theorem dX2_byteIn_0 : decode cX2_byteIn 0 = .ok (.lload_n 0, 1) := by decide +kernel
theorem dX2_byteIn_1 : decode cX2_byteIn 1 = .ok (.bipush 56, 2) := by decide +kernel
theorem dX2_byteIn_3 : decode cX2_byteIn 3 = .ok (.bipush 8, 2) := by decide +kernel
theorem dX2_byteIn_5 : decode cX2_byteIn 5 = .ok (.iload_n 2, 1) := by decide +kernel
theorem dX2_byteIn_6 : decode cX2_byteIn 6 = .ok (.imul, 1) := by decide +kernel
theorem dX2_byteIn_7 : decode cX2_byteIn 7 = .ok (.isub, 1) := by decide +kernel
theorem dX2_byteIn_8 : decode cX2_byteIn 8 = .ok (.lshr, 1) := by decide +kernel
theorem dX2_byteIn_9 : decode cX2_byteIn 9 = .ok (.l2i, 1) := by decide +kernel
theorem dX2_byteIn_10 : decode cX2_byteIn 10 = .ok (.sipush 255, 3) := by decide +kernel
theorem dX2_byteIn_13 : decode cX2_byteIn 13 = .ok (.iand, 1) := by decide +kernel
theorem dX2_byteIn_14 : decode cX2_byteIn 14 = .ok (.ireturn, 1) := by decide +kernel
theorem dX2_init_0 : decode cX2_init 0 = .ok (.aload_n 0, 1) := by decide +kernel
theorem dX2_init_1 : decode cX2_init 1 = .ok (.invokespecial 45, 3) := by decide +kernel
theorem dX2_init_4 : decode cX2_init 4 = .ok (.aload_n 0, 1) := by decide +kernel
theorem dX2_init_5 : decode cX2_init 5 = .ok (.sipush 512, 3) := by decide +kernel
theorem dX2_init_8 : decode cX2_init 8 = .ok (.newarray .int, 2) := by decide +kernel
theorem dX2_init_10 : decode cX2_init 10 = .ok (.putfield 22, 3) := by decide +kernel
theorem dX2_init_13 : decode cX2_init 13 = .ok (.aload_n 0, 1) := by decide +kernel
theorem dX2_init_14 : decode cX2_init 14 = .ok (.bipush 8, 2) := by decide +kernel
theorem dX2_init_16 : decode cX2_init 16 = .ok (.newarray .int, 2) := by decide +kernel
theorem dX2_init_18 : decode cX2_init 18 = .ok (.putfield 33, 3) := by decide +kernel
theorem dX2_init_21 : decode cX2_init 21 = .ok (.aload_n 0, 1) := by decide +kernel
theorem dX2_init_22 : decode cX2_init 22 = .ok (.bipush 64, 2) := by decide +kernel
end
section
theorem dX2_init_24 : decode cX2_init 24 = .ok (.newarray .int, 2) := by decide +kernel
theorem dX2_init_26 : decode cX2_init 26 = .ok (.putfield 39, 3) := by decide +kernel
theorem dX2_init_29 : decode cX2_init 29 = .ok (.aload_n 0, 1) := by decide +kernel
theorem dX2_init_30 : decode cX2_init 30 = .ok (.bipush 64, 2) := by decide +kernel
theorem dX2_init_32 : decode cX2_init 32 = .ok (.newarray .int, 2) := by decide +kernel
theorem dX2_init_34 : decode cX2_init 34 = .ok (.putfield 11, 3) := by decide +kernel
theorem dX2_init_37 : decode cX2_init 37 = .ok (.aload_n 0, 1) := by decide +kernel
theorem dX2_init_38 : decode cX2_init 38 = .ok (.bipush 8, 2) := by decide +kernel
theorem dX2_init_40 : decode cX2_init 40 = .ok (.newarray .int, 2) := by decide +kernel
theorem dX2_init_42 : decode cX2_init 42 = .ok (.putfield 1, 3) := by decide +kernel
theorem dX2_init_45 : decode cX2_init 45 = .ok (.aload_n 0, 1) := by decide +kernel
theorem dX2_init_46 : decode cX2_init 46 = .ok (.sipush 150, 3) := by decide +kernel
theorem dX2_init_49 : decode cX2_init 49 = .ok (.newarray .int, 2) := by decide +kernel
theorem dX2_init_51 : decode cX2_init 51 = .ok (.putfield 51, 3) := by decide +kernel
theorem dX2_init_54 : decode cX2_init 54 = .ok (.aload_n 0, 1) := by decide +kernel
theorem dX2_init_55 : decode cX2_init 55 = .ok (.sipush 15000, 3) := by decide +kernel
theorem dX2_init_58 : decode cX2_init 58 = .ok (.newarray .int, 2) := by decide +kernel
theorem dX2_init_60 : decode cX2_init 60 = .ok (.putfield 54, 3) := by decide +kernel
theorem dX2_init_63 : decode cX2_init 63 = .ok (.aload_n 0, 1) := by decide +kernel
theorem dX2_init_64 : decode cX2_init 64 = .ok (.bipush 100, 2) := by decide +kernel
theorem dX2_init_66 : decode cX2_init 66 = .ok (.newarray .int, 2) := by decide +kernel
theorem dX2_init_68 : decode cX2_init 68 = .ok (.putfield 57, 3) := by decide +kernel
theorem dX2_init_71 : decode cX2_init 71 = .ok (.aload_n 0, 1) := by decide +kernel
theorem dX2_init_72 : decode cX2_init 72 = .ok (.sipush 400, 3) := by decide +kernel
theorem dX2_init_75 : decode cX2_init 75 = .ok (.newarray .long, 2) := by decide +kernel
theorem dX2_init_77 : decode cX2_init 77 = .ok (.putfield 60, 3) := by decide +kernel
theorem dX2_init_80 : decode cX2_init 80 = .ok (.aload_n 0, 1) := by decide +kernel
theorem dX2_init_81 : decode cX2_init 81 = .ok (.iconst 4, 1) := by decide +kernel
theorem dX2_init_82 : decode cX2_init 82 = .ok (.newarray .long, 2) := by decide +kernel
theorem dX2_init_84 : decode cX2_init 84 = .ok (.putfield 64, 3) := by decide +kernel
theorem dX2_init_87 : decode cX2_init 87 = .ok (.aload_n 0, 1) := by decide +kernel
theorem dX2_init_88 : decode cX2_init 88 = .ok (.invokevirtual 67, 3) := by decide +kernel
theorem dX2_init_91 : decode cX2_init 91 = .ok (.return_, 1) := by decide +kernel
theorem dX2_put_0 : decode cX2_put 0 = .ok (.iload_n 3, 1) := by decide +kernel
theorem dX2_put_1 : decode cX2_put 1 = .ok (.iconst 1, 1) := by decide +kernel
theorem dX2_put_2 : decode cX2_put 2 = .ok (.if_icmp .lt 21, 3) := by decide +kernel
theorem dX2_put_5 : decode cX2_put 5 = .ok (.iload_n 3, 1) := by decide +kernel
theorem dX2_put_6 : decode cX2_put 6 = .ok (.bipush 8, 2) := by decide +kernel
theorem dX2_put_8 : decode cX2_put 8 = .ok (.if_icmp .gt 15, 3) := by decide +kernel
theorem dX2_put_11 : decode cX2_put 11 = .ok (.aload_n 0, 1) := by decide +kernel
theorem dX2_put_12 : decode cX2_put 12 = .ok (.getfield 70, 3) := by decide +kernel
theorem dX2_put_15 : decode cX2_put 15 = .ok (.iload_n 3, 1) := by decide +kernel
theorem dX2_put_16 : decode cX2_put 16 = .ok (.iadd, 1) := by decide +kernel
theorem dX2_put_17 : decode cX2_put 17 = .ok (.sipush 150, 3) := by decide +kernel
theorem dX2_put_20 : decode cX2_put 20 = .ok (.if_icmp .le 5, 3) := by decide +kernel
theorem dX2_put_23 : decode cX2_put 23 = .ok (.iconst 0, 1) := by decide +kernel
theorem dX2_put_24 : decode cX2_put 24 = .ok (.ireturn, 1) := by decide +kernel
theorem dX2_put_25 : decode cX2_put 25 = .ok (.iload_n 3, 1) := by decide +kernel
theorem dX2_put_26 : decode cX2_put 26 = .ok (.iconst 1, 1) := by decide +kernel
theorem dX2_put_27 : decode cX2_put 27 = .ok (.isub, 1) := by decide +kernel
theorem dX2_put_28 : decode cX2_put 28 = .ok (.istore 4, 2) := by decide +kernel
theorem dX2_put_30 : decode cX2_put 30 = .ok (.iload 4, 2) := by decide +kernel
theorem dX2_put_32 : decode cX2_put 32 = .ok (.ifCond .lt 40, 3) := by decide +kernel
theorem dX2_put_35 : decode cX2_put 35 = .ok (.aload_n 0, 1) := by decide +kernel
theorem dX2_put_36 : decode cX2_put 36 = .ok (.getfield 51, 3) := by decide +kernel
theorem dX2_put_39 : decode cX2_put 39 = .ok (.aload_n 0, 1) := by decide +kernel
theorem dX2_put_40 : decode cX2_put 40 = .ok (.getfield 70, 3) := by decide +kernel
theorem dX2_put_43 : decode cX2_put 43 = .ok (.lload_n 1, 1) := by decide +kernel
theorem dX2_put_44 : decode cX2_put 44 = .ok (.bipush 8, 2) := by decide +kernel
theorem dX2_put_46 : decode cX2_put 46 = .ok (.iload 4, 2) := by decide +kernel
theorem dX2_put_48 : decode cX2_put 48 = .ok (.imul, 1) := by decide +kernel
theorem dX2_put_49 : decode cX2_put 49 = .ok (.lshr, 1) := by decide +kernel
theorem dX2_put_50 : decode cX2_put 50 = .ok (.l2i, 1) := by decide +kernel
theorem dX2_put_51 : decode cX2_put 51 = .ok (.sipush 255, 3) := by decide +kernel
theorem dX2_put_54 : decode cX2_put 54 = .ok (.iand, 1) := by decide +kernel
theorem dX2_put_55 : decode cX2_put 55 = .ok (.iastore, 1) := by decide +kernel
theorem dX2_put_56 : decode cX2_put 56 = .ok (.aload_n 0, 1) := by decide +kernel
theorem dX2_put_57 : decode cX2_put 57 = .ok (.aload_n 0, 1) := by decide +kernel
theorem dX2_put_58 : decode cX2_put 58 = .ok (.getfield 70, 3) := by decide +kernel
theorem dX2_put_61 : decode cX2_put 61 = .ok (.iconst 1, 1) := by decide +kernel
theorem dX2_put_62 : decode cX2_put 62 = .ok (.iadd, 1) := by decide +kernel
theorem dX2_put_63 : decode cX2_put 63 = .ok (.putfield 70, 3) := by decide +kernel
theorem dX2_put_66 : decode cX2_put 66 = .ok (.iinc 4 (-1), 3) := by decide +kernel
theorem dX2_put_69 : decode cX2_put 69 = .ok (.goto (-39), 3) := by decide +kernel
theorem dX2_put_72 : decode cX2_put 72 = .ok (.iconst 1, 1) := by decide +kernel
theorem dX2_put_73 : decode cX2_put 73 = .ok (.ireturn, 1) := by decide +kernel
theorem dX2_hashTape_0 : decode cX2_hashTape 0 = .ok (.iconst 0, 1) := by decide +kernel
theorem dX2_hashTape_1 : decode cX2_hashTape 1 = .ok (.istore_n 1, 1) := by decide +kernel
theorem dX2_hashTape_2 : decode cX2_hashTape 2 = .ok (.iload_n 1, 1) := by decide +kernel
theorem dX2_hashTape_3 : decode cX2_hashTape 3 = .ok (.aload_n 0, 1) := by decide +kernel
theorem dX2_hashTape_4 : decode cX2_hashTape 4 = .ok (.getfield 70, 3) := by decide +kernel
theorem dX2_hashTape_7 : decode cX2_hashTape 7 = .ok (.if_icmp .ge 19, 3) := by decide +kernel
theorem dX2_hashTape_10 : decode cX2_hashTape 10 = .ok (.aload_n 0, 1) := by decide +kernel
theorem dX2_hashTape_11 : decode cX2_hashTape 11 = .ok (.aload_n 0, 1) := by decide +kernel
theorem dX2_hashTape_12 : decode cX2_hashTape 12 = .ok (.getfield 51, 3) := by decide +kernel
theorem dX2_hashTape_15 : decode cX2_hashTape 15 = .ok (.iload_n 1, 1) := by decide +kernel
theorem dX2_hashTape_16 : decode cX2_hashTape 16 = .ok (.iaload, 1) := by decide +kernel
theorem dX2_hashTape_17 : decode cX2_hashTape 17 = .ok (.invokevirtual 29, 3) := by decide +kernel
theorem dX2_hashTape_20 : decode cX2_hashTape 20 = .ok (.iinc 1 1, 3) := by decide +kernel
theorem dX2_hashTape_23 : decode cX2_hashTape 23 = .ok (.goto (-21), 3) := by decide +kernel
theorem dX2_hashTape_26 : decode cX2_hashTape 26 = .ok (.aload_n 0, 1) := by decide +kernel
theorem dX2_hashTape_27 : decode cX2_hashTape 27 = .ok (.invokevirtual 73, 3) := by decide +kernel
theorem dX2_hashTape_30 : decode cX2_hashTape 30 = .ok (.return_, 1) := by decide +kernel
theorem dX2_hash_0 : decode cX2_hash 0 = .ok (.iload_n 1, 1) := by decide +kernel
theorem dX2_hash_1 : decode cX2_hash 1 = .ok (.ifCond .lt 8, 3) := by decide +kernel
theorem dX2_hash_4 : decode cX2_hash 4 = .ok (.iload_n 1, 1) := by decide +kernel
theorem dX2_hash_5 : decode cX2_hash 5 = .ok (.iconst 3, 1) := by decide +kernel
theorem dX2_hash_6 : decode cX2_hash 6 = .ok (.if_icmp .le 5, 3) := by decide +kernel
theorem dX2_hash_9 : decode cX2_hash 9 = .ok (.lconst 0, 1) := by decide +kernel
theorem dX2_hash_10 : decode cX2_hash 10 = .ok (.lreturn, 1) := by decide +kernel
theorem dX2_hash_11 : decode cX2_hash 11 = .ok (.aload_n 0, 1) := by decide +kernel
theorem dX2_hash_12 : decode cX2_hash 12 = .ok (.iconst 0, 1) := by decide +kernel
theorem dX2_hash_13 : decode cX2_hash 13 = .ok (.putfield 25, 3) := by decide +kernel
theorem dX2_hash_16 : decode cX2_hash 16 = .ok (.aload_n 0, 1) := by decide +kernel
theorem dX2_hash_17 : decode cX2_hash 17 = .ok (.invokevirtual 76, 3) := by decide +kernel
theorem dX2_hash_20 : decode cX2_hash 20 = .ok (.aload_n 0, 1) := by decide +kernel
theorem dX2_hash_21 : decode cX2_hash 21 = .ok (.iload_n 1, 1) := by decide +kernel
theorem dX2_hash_22 : decode cX2_hash 22 = .ok (.invokevirtual 79, 3) := by decide +kernel
theorem dX2_hash_25 : decode cX2_hash 25 = .ok (.lreturn, 1) := by decide +kernel
theorem dX2_lay_0 : decode cX2_lay 0 = .ok (.iconst 0, 1) := by decide +kernel
theorem dX2_lay_1 : decode cX2_lay 1 = .ok (.istore_n 2, 1) := by decide +kernel
theorem dX2_lay_2 : decode cX2_lay 2 = .ok (.iload_n 2, 1) := by decide +kernel
theorem dX2_lay_3 : decode cX2_lay 3 = .ok (.aload_n 0, 1) := by decide +kernel
theorem dX2_lay_4 : decode cX2_lay 4 = .ok (.getfield 70, 3) := by decide +kernel
theorem dX2_lay_7 : decode cX2_lay 7 = .ok (.if_icmp .ge 27, 3) := by decide +kernel
theorem dX2_lay_10 : decode cX2_lay 10 = .ok (.aload_n 0, 1) := by decide +kernel
theorem dX2_lay_11 : decode cX2_lay 11 = .ok (.getfield 54, 3) := by decide +kernel
theorem dX2_lay_14 : decode cX2_lay 14 = .ok (.sipush 150, 3) := by decide +kernel
theorem dX2_lay_17 : decode cX2_lay 17 = .ok (.iload_n 1, 1) := by decide +kernel
theorem dX2_lay_18 : decode cX2_lay 18 = .ok (.imul, 1) := by decide +kernel
theorem dX2_lay_19 : decode cX2_lay 19 = .ok (.iload_n 2, 1) := by decide +kernel
theorem dX2_lay_20 : decode cX2_lay 20 = .ok (.iadd, 1) := by decide +kernel
theorem dX2_lay_21 : decode cX2_lay 21 = .ok (.aload_n 0, 1) := by decide +kernel
theorem dX2_lay_22 : decode cX2_lay 22 = .ok (.getfield 51, 3) := by decide +kernel
theorem dX2_lay_25 : decode cX2_lay 25 = .ok (.iload_n 2, 1) := by decide +kernel
theorem dX2_lay_26 : decode cX2_lay 26 = .ok (.iaload, 1) := by decide +kernel
theorem dX2_lay_27 : decode cX2_lay 27 = .ok (.iastore, 1) := by decide +kernel
theorem dX2_lay_28 : decode cX2_lay 28 = .ok (.iinc 2 1, 3) := by decide +kernel
theorem dX2_lay_31 : decode cX2_lay 31 = .ok (.goto (-29), 3) := by decide +kernel
theorem dX2_lay_34 : decode cX2_lay 34 = .ok (.aload_n 0, 1) := by decide +kernel
theorem dX2_lay_35 : decode cX2_lay 35 = .ok (.getfield 57, 3) := by decide +kernel
theorem dX2_lay_38 : decode cX2_lay 38 = .ok (.iload_n 1, 1) := by decide +kernel
theorem dX2_lay_39 : decode cX2_lay 39 = .ok (.aload_n 0, 1) := by decide +kernel
theorem dX2_lay_40 : decode cX2_lay 40 = .ok (.getfield 70, 3) := by decide +kernel
theorem dX2_lay_43 : decode cX2_lay 43 = .ok (.iastore, 1) := by decide +kernel
theorem dX2_lay_44 : decode cX2_lay 44 = .ok (.aload_n 0, 1) := by decide +kernel
theorem dX2_lay_45 : decode cX2_lay 45 = .ok (.iconst 0, 1) := by decide +kernel
theorem dX2_lay_46 : decode cX2_lay 46 = .ok (.putfield 70, 3) := by decide +kernel
theorem dX2_lay_49 : decode cX2_lay 49 = .ok (.return_, 1) := by decide +kernel
theorem dX2_add_0 : decode cX2_add 0 = .ok (.aload_n 0, 1) := by decide +kernel
theorem dX2_add_1 : decode cX2_add 1 = .ok (.getfield 83, 3) := by decide +kernel
theorem dX2_add_4 : decode cX2_add 4 = .ok (.bipush 100, 2) := by decide +kernel
theorem dX2_add_6 : decode cX2_add 6 = .ok (.if_icmp .ne 5, 3) := by decide +kernel
theorem dX2_add_9 : decode cX2_add 9 = .ok (.iconst (-1), 1) := by decide +kernel
theorem dX2_add_10 : decode cX2_add 10 = .ok (.ireturn, 1) := by decide +kernel
theorem dX2_add_11 : decode cX2_add 11 = .ok (.aload_n 0, 1) := by decide +kernel
theorem dX2_add_12 : decode cX2_add 12 = .ok (.aload_n 0, 1) := by decide +kernel
theorem dX2_add_13 : decode cX2_add 13 = .ok (.getfield 83, 3) := by decide +kernel
theorem dX2_add_16 : decode cX2_add 16 = .ok (.invokevirtual 86, 3) := by decide +kernel
theorem dX2_add_19 : decode cX2_add 19 = .ok (.aload_n 0, 1) := by decide +kernel
theorem dX2_add_20 : decode cX2_add 20 = .ok (.aload_n 0, 1) := by decide +kernel
theorem dX2_add_21 : decode cX2_add 21 = .ok (.getfield 83, 3) := by decide +kernel
theorem dX2_add_24 : decode cX2_add 24 = .ok (.iconst 1, 1) := by decide +kernel
theorem dX2_add_25 : decode cX2_add 25 = .ok (.iadd, 1) := by decide +kernel
theorem dX2_add_26 : decode cX2_add 26 = .ok (.putfield 83, 3) := by decide +kernel
theorem dX2_add_29 : decode cX2_add 29 = .ok (.aload_n 0, 1) := by decide +kernel
theorem dX2_add_30 : decode cX2_add 30 = .ok (.getfield 83, 3) := by decide +kernel
theorem dX2_add_33 : decode cX2_add 33 = .ok (.iconst 1, 1) := by decide +kernel
theorem dX2_add_34 : decode cX2_add 34 = .ok (.isub, 1) := by decide +kernel
theorem dX2_add_35 : decode cX2_add 35 = .ok (.ireturn, 1) := by decide +kernel
theorem dX2_isLeaf_0 : decode cX2_isLeaf 0 = .ok (.iload_n 1, 1) := by decide +kernel
theorem dX2_isLeaf_1 : decode cX2_isLeaf 1 = .ok (.ifCond .lt 15, 3) := by decide +kernel
theorem dX2_isLeaf_4 : decode cX2_isLeaf 4 = .ok (.iload_n 1, 1) := by decide +kernel
theorem dX2_isLeaf_5 : decode cX2_isLeaf 5 = .ok (.aload_n 0, 1) := by decide +kernel
theorem dX2_isLeaf_6 : decode cX2_isLeaf 6 = .ok (.getfield 83, 3) := by decide +kernel
theorem dX2_isLeaf_9 : decode cX2_isLeaf 9 = .ok (.if_icmp .ge 7, 3) := by decide +kernel
theorem dX2_isLeaf_12 : decode cX2_isLeaf 12 = .ok (.iconst 1, 1) := by decide +kernel
theorem dX2_isLeaf_13 : decode cX2_isLeaf 13 = .ok (.goto 4, 3) := by decide +kernel
theorem dX2_isLeaf_16 : decode cX2_isLeaf 16 = .ok (.iconst 0, 1) := by decide +kernel
theorem dX2_isLeaf_17 : decode cX2_isLeaf 17 = .ok (.ireturn, 1) := by decide +kernel
theorem dX2_change_0 : decode cX2_change 0 = .ok (.aload_n 0, 1) := by decide +kernel
theorem dX2_change_1 : decode cX2_change 1 = .ok (.iload_n 1, 1) := by decide +kernel
theorem dX2_change_2 : decode cX2_change 2 = .ok (.invokevirtual 89, 3) := by decide +kernel
theorem dX2_change_5 : decode cX2_change 5 = .ok (.ifCond .ne 5, 3) := by decide +kernel
theorem dX2_change_8 : decode cX2_change 8 = .ok (.iconst 0, 1) := by decide +kernel
theorem dX2_change_9 : decode cX2_change 9 = .ok (.ireturn, 1) := by decide +kernel
theorem dX2_change_10 : decode cX2_change 10 = .ok (.aload_n 0, 1) := by decide +kernel
theorem dX2_change_11 : decode cX2_change 11 = .ok (.iload_n 1, 1) := by decide +kernel
theorem dX2_change_12 : decode cX2_change 12 = .ok (.invokevirtual 86, 3) := by decide +kernel
theorem dX2_change_15 : decode cX2_change 15 = .ok (.iconst 1, 1) := by decide +kernel
theorem dX2_change_16 : decode cX2_change 16 = .ok (.ireturn, 1) := by decide +kernel
theorem dX2_drop_0 : decode cX2_drop 0 = .ok (.aload_n 0, 1) := by decide +kernel
theorem dX2_drop_1 : decode cX2_drop 1 = .ok (.getfield 83, 3) := by decide +kernel
theorem dX2_drop_4 : decode cX2_drop 4 = .ok (.ifCond .ne 5, 3) := by decide +kernel
theorem dX2_drop_7 : decode cX2_drop 7 = .ok (.iconst (-1), 1) := by decide +kernel
theorem dX2_drop_8 : decode cX2_drop 8 = .ok (.ireturn, 1) := by decide +kernel
theorem dX2_drop_9 : decode cX2_drop 9 = .ok (.aload_n 0, 1) := by decide +kernel
theorem dX2_drop_10 : decode cX2_drop 10 = .ok (.aload_n 0, 1) := by decide +kernel
theorem dX2_drop_11 : decode cX2_drop 11 = .ok (.getfield 83, 3) := by decide +kernel
theorem dX2_drop_14 : decode cX2_drop 14 = .ok (.iconst 1, 1) := by decide +kernel
theorem dX2_drop_15 : decode cX2_drop 15 = .ok (.isub, 1) := by decide +kernel
theorem dX2_drop_16 : decode cX2_drop 16 = .ok (.putfield 83, 3) := by decide +kernel
theorem dX2_drop_19 : decode cX2_drop 19 = .ok (.aload_n 0, 1) := by decide +kernel
theorem dX2_drop_20 : decode cX2_drop 20 = .ok (.getfield 83, 3) := by decide +kernel
theorem dX2_drop_23 : decode cX2_drop 23 = .ok (.ireturn, 1) := by decide +kernel
theorem dX2_keep_0 : decode cX2_keep 0 = .ok (.iconst 0, 1) := by decide +kernel
theorem dX2_keep_1 : decode cX2_keep 1 = .ok (.istore_n 2, 1) := by decide +kernel
theorem dX2_keep_2 : decode cX2_keep 2 = .ok (.iload_n 2, 1) := by decide +kernel
theorem dX2_keep_3 : decode cX2_keep 3 = .ok (.iconst 4, 1) := by decide +kernel
theorem dX2_keep_4 : decode cX2_keep 4 = .ok (.if_icmp .ge 24, 3) := by decide +kernel
theorem dX2_keep_7 : decode cX2_keep 7 = .ok (.aload_n 0, 1) := by decide +kernel
theorem dX2_keep_8 : decode cX2_keep 8 = .ok (.getfield 60, 3) := by decide +kernel
theorem dX2_keep_11 : decode cX2_keep 11 = .ok (.iconst 4, 1) := by decide +kernel
theorem dX2_keep_12 : decode cX2_keep 12 = .ok (.iload_n 1, 1) := by decide +kernel
theorem dX2_keep_13 : decode cX2_keep 13 = .ok (.imul, 1) := by decide +kernel
theorem dX2_keep_14 : decode cX2_keep 14 = .ok (.iload_n 2, 1) := by decide +kernel
theorem dX2_keep_15 : decode cX2_keep 15 = .ok (.iadd, 1) := by decide +kernel
theorem dX2_keep_16 : decode cX2_keep 16 = .ok (.aload_n 0, 1) := by decide +kernel
theorem dX2_keep_17 : decode cX2_keep 17 = .ok (.iload_n 2, 1) := by decide +kernel
theorem dX2_keep_18 : decode cX2_keep 18 = .ok (.invokevirtual 79, 3) := by decide +kernel
theorem dX2_keep_21 : decode cX2_keep 21 = .ok (.lastore, 1) := by decide +kernel
theorem dX2_keep_22 : decode cX2_keep 22 = .ok (.iinc 2 1, 3) := by decide +kernel
theorem dX2_keep_25 : decode cX2_keep 25 = .ok (.goto (-23), 3) := by decide +kernel
theorem dX2_keep_28 : decode cX2_keep 28 = .ok (.return_, 1) := by decide +kernel
theorem dX2_lowest_0 : decode cX2_lowest 0 = .ok (.iconst 0, 1) := by decide +kernel
theorem dX2_lowest_1 : decode cX2_lowest 1 = .ok (.istore_n 1, 1) := by decide +kernel
theorem dX2_lowest_2 : decode cX2_lowest 2 = .ok (.iload_n 1, 1) := by decide +kernel
theorem dX2_lowest_3 : decode cX2_lowest 3 = .ok (.aload_n 0, 1) := by decide +kernel
theorem dX2_lowest_4 : decode cX2_lowest 4 = .ok (.getfield 83, 3) := by decide +kernel
theorem dX2_lowest_7 : decode cX2_lowest 7 = .ok (.if_icmp .ge 62, 3) := by decide +kernel
theorem dX2_lowest_10 : decode cX2_lowest 10 = .ok (.aload_n 0, 1) := by decide +kernel
theorem dX2_lowest_11 : decode cX2_lowest 11 = .ok (.iconst 0, 1) := by decide +kernel
theorem dX2_lowest_12 : decode cX2_lowest 12 = .ok (.putfield 25, 3) := by decide +kernel
theorem dX2_lowest_15 : decode cX2_lowest 15 = .ok (.aload_n 0, 1) := by decide +kernel
theorem dX2_lowest_16 : decode cX2_lowest 16 = .ok (.iconst 0, 1) := by decide +kernel
theorem dX2_lowest_17 : decode cX2_lowest 17 = .ok (.invokevirtual 29, 3) := by decide +kernel
theorem dX2_lowest_20 : decode cX2_lowest 20 = .ok (.iconst 0, 1) := by decide +kernel
theorem dX2_lowest_21 : decode cX2_lowest 21 = .ok (.istore_n 2, 1) := by decide +kernel
theorem dX2_lowest_22 : decode cX2_lowest 22 = .ok (.iload_n 2, 1) := by decide +kernel
theorem dX2_lowest_23 : decode cX2_lowest 23 = .ok (.aload_n 0, 1) := by decide +kernel
theorem dX2_lowest_24 : decode cX2_lowest 24 = .ok (.getfield 57, 3) := by decide +kernel
theorem dX2_lowest_27 : decode cX2_lowest 27 = .ok (.iload_n 1, 1) := by decide +kernel
theorem dX2_lowest_28 : decode cX2_lowest 28 = .ok (.iaload, 1) := by decide +kernel
theorem dX2_lowest_29 : decode cX2_lowest 29 = .ok (.if_icmp .ge 25, 3) := by decide +kernel
theorem dX2_lowest_32 : decode cX2_lowest 32 = .ok (.aload_n 0, 1) := by decide +kernel
theorem dX2_lowest_33 : decode cX2_lowest 33 = .ok (.aload_n 0, 1) := by decide +kernel
theorem dX2_lowest_34 : decode cX2_lowest 34 = .ok (.getfield 54, 3) := by decide +kernel
theorem dX2_lowest_37 : decode cX2_lowest 37 = .ok (.sipush 150, 3) := by decide +kernel
theorem dX2_lowest_40 : decode cX2_lowest 40 = .ok (.iload_n 1, 1) := by decide +kernel
theorem dX2_lowest_41 : decode cX2_lowest 41 = .ok (.imul, 1) := by decide +kernel
theorem dX2_lowest_42 : decode cX2_lowest 42 = .ok (.iload_n 2, 1) := by decide +kernel
theorem dX2_lowest_43 : decode cX2_lowest 43 = .ok (.iadd, 1) := by decide +kernel
theorem dX2_lowest_44 : decode cX2_lowest 44 = .ok (.iaload, 1) := by decide +kernel
theorem dX2_lowest_45 : decode cX2_lowest 45 = .ok (.invokevirtual 29, 3) := by decide +kernel
theorem dX2_lowest_48 : decode cX2_lowest 48 = .ok (.iinc 2 1, 3) := by decide +kernel
theorem dX2_lowest_51 : decode cX2_lowest 51 = .ok (.goto (-29), 3) := by decide +kernel
theorem dX2_lowest_54 : decode cX2_lowest 54 = .ok (.aload_n 0, 1) := by decide +kernel
theorem dX2_lowest_55 : decode cX2_lowest 55 = .ok (.invokevirtual 73, 3) := by decide +kernel
theorem dX2_lowest_58 : decode cX2_lowest 58 = .ok (.aload_n 0, 1) := by decide +kernel
theorem dX2_lowest_59 : decode cX2_lowest 59 = .ok (.iload_n 1, 1) := by decide +kernel
theorem dX2_lowest_60 : decode cX2_lowest 60 = .ok (.invokevirtual 93, 3) := by decide +kernel
theorem dX2_lowest_63 : decode cX2_lowest 63 = .ok (.iinc 1 1, 3) := by decide +kernel
theorem dX2_lowest_66 : decode cX2_lowest 66 = .ok (.goto (-64), 3) := by decide +kernel
theorem dX2_lowest_69 : decode cX2_lowest 69 = .ok (.aload_n 0, 1) := by decide +kernel
theorem dX2_lowest_70 : decode cX2_lowest 70 = .ok (.aload_n 0, 1) := by decide +kernel
theorem dX2_lowest_71 : decode cX2_lowest 71 = .ok (.getfield 83, 3) := by decide +kernel
theorem dX2_lowest_74 : decode cX2_lowest 74 = .ok (.putfield 96, 3) := by decide +kernel
theorem dX2_lowest_77 : decode cX2_lowest 77 = .ok (.aload_n 0, 1) := by decide +kernel
theorem dX2_lowest_78 : decode cX2_lowest 78 = .ok (.aload_n 0, 1) := by decide +kernel
theorem dX2_lowest_79 : decode cX2_lowest 79 = .ok (.getfield 83, 3) := by decide +kernel
theorem dX2_lowest_82 : decode cX2_lowest 82 = .ok (.ifCond .le 7, 3) := by decide +kernel
theorem dX2_lowest_85 : decode cX2_lowest 85 = .ok (.iconst 1, 1) := by decide +kernel
theorem dX2_lowest_86 : decode cX2_lowest 86 = .ok (.goto 4, 3) := by decide +kernel
theorem dX2_lowest_89 : decode cX2_lowest 89 = .ok (.iconst 0, 1) := by decide +kernel
theorem dX2_lowest_90 : decode cX2_lowest 90 = .ok (.putfield 99, 3) := by decide +kernel
theorem dX2_lowest_93 : decode cX2_lowest 93 = .ok (.return_, 1) := by decide +kernel
theorem dX2_up_0 : decode cX2_up 0 = .ok (.iconst 0, 1) := by decide +kernel
theorem dX2_up_1 : decode cX2_up 1 = .ok (.istore_n 1, 1) := by decide +kernel
theorem dX2_up_2 : decode cX2_up 2 = .ok (.iload_n 1, 1) := by decide +kernel
theorem dX2_up_3 : decode cX2_up 3 = .ok (.aload_n 0, 1) := by decide +kernel
theorem dX2_up_4 : decode cX2_up 4 = .ok (.getfield 96, 3) := by decide +kernel
theorem dX2_up_7 : decode cX2_up 7 = .ok (.iconst 2, 1) := by decide +kernel
theorem dX2_up_8 : decode cX2_up 8 = .ok (.idiv, 1) := by decide +kernel
theorem dX2_up_9 : decode cX2_up 9 = .ok (.if_icmp .ge 67, 3) := by decide +kernel
theorem dX2_up_12 : decode cX2_up 12 = .ok (.aload_n 0, 1) := by decide +kernel
theorem dX2_up_13 : decode cX2_up 13 = .ok (.iconst 0, 1) := by decide +kernel
theorem dX2_up_14 : decode cX2_up 14 = .ok (.putfield 25, 3) := by decide +kernel
theorem dX2_up_17 : decode cX2_up 17 = .ok (.aload_n 0, 1) := by decide +kernel
theorem dX2_up_18 : decode cX2_up 18 = .ok (.iconst 1, 1) := by decide +kernel
theorem dX2_up_19 : decode cX2_up 19 = .ok (.invokevirtual 29, 3) := by decide +kernel
theorem dX2_up_22 : decode cX2_up 22 = .ok (.iconst 0, 1) := by decide +kernel
theorem dX2_up_23 : decode cX2_up 23 = .ok (.istore_n 2, 1) := by decide +kernel
theorem dX2_up_24 : decode cX2_up 24 = .ok (.iload_n 2, 1) := by decide +kernel
theorem dX2_up_25 : decode cX2_up 25 = .ok (.bipush 64, 2) := by decide +kernel
theorem dX2_up_27 : decode cX2_up 27 = .ok (.if_icmp .ge 34, 3) := by decide +kernel
theorem dX2_up_30 : decode cX2_up 30 = .ok (.aload_n 0, 1) := by decide +kernel
theorem dX2_up_31 : decode cX2_up 31 = .ok (.aload_n 0, 1) := by decide +kernel
theorem dX2_up_32 : decode cX2_up 32 = .ok (.getfield 60, 3) := by decide +kernel
theorem dX2_up_35 : decode cX2_up 35 = .ok (.bipush 8, 2) := by decide +kernel
theorem dX2_up_37 : decode cX2_up 37 = .ok (.iload_n 1, 1) := by decide +kernel
theorem dX2_up_38 : decode cX2_up 38 = .ok (.imul, 1) := by decide +kernel
theorem dX2_up_39 : decode cX2_up 39 = .ok (.iload_n 2, 1) := by decide +kernel
theorem dX2_up_40 : decode cX2_up 40 = .ok (.bipush 8, 2) := by decide +kernel
theorem dX2_up_42 : decode cX2_up 42 = .ok (.idiv, 1) := by decide +kernel
theorem dX2_up_43 : decode cX2_up 43 = .ok (.iadd, 1) := by decide +kernel
theorem dX2_up_44 : decode cX2_up 44 = .ok (.laload, 1) := by decide +kernel
theorem dX2_up_45 : decode cX2_up 45 = .ok (.iload_n 2, 1) := by decide +kernel
theorem dX2_up_46 : decode cX2_up 46 = .ok (.bipush 8, 2) := by decide +kernel
theorem dX2_up_48 : decode cX2_up 48 = .ok (.irem, 1) := by decide +kernel
theorem dX2_up_49 : decode cX2_up 49 = .ok (.invokestatic 102, 3) := by decide +kernel
theorem dX2_up_52 : decode cX2_up 52 = .ok (.invokevirtual 29, 3) := by decide +kernel
theorem dX2_up_55 : decode cX2_up 55 = .ok (.iinc 2 1, 3) := by decide +kernel
theorem dX2_up_58 : decode cX2_up 58 = .ok (.goto (-34), 3) := by decide +kernel
theorem dX2_up_61 : decode cX2_up 61 = .ok (.aload_n 0, 1) := by decide +kernel
theorem dX2_up_62 : decode cX2_up 62 = .ok (.invokevirtual 73, 3) := by decide +kernel
theorem dX2_up_65 : decode cX2_up 65 = .ok (.aload_n 0, 1) := by decide +kernel
theorem dX2_up_66 : decode cX2_up 66 = .ok (.iload_n 1, 1) := by decide +kernel
theorem dX2_up_67 : decode cX2_up 67 = .ok (.invokevirtual 93, 3) := by decide +kernel
theorem dX2_up_70 : decode cX2_up 70 = .ok (.iinc 1 1, 3) := by decide +kernel
theorem dX2_up_73 : decode cX2_up 73 = .ok (.goto (-71), 3) := by decide +kernel
theorem dX2_up_76 : decode cX2_up 76 = .ok (.iconst 0, 1) := by decide +kernel
theorem dX2_up_77 : decode cX2_up 77 = .ok (.istore_n 1, 1) := by decide +kernel
theorem dX2_up_78 : decode cX2_up 78 = .ok (.aload_n 0, 1) := by decide +kernel
theorem dX2_up_79 : decode cX2_up 79 = .ok (.getfield 96, 3) := by decide +kernel
theorem dX2_up_82 : decode cX2_up 82 = .ok (.iconst 2, 1) := by decide +kernel
theorem dX2_up_83 : decode cX2_up 83 = .ok (.irem, 1) := by decide +kernel
theorem dX2_up_84 : decode cX2_up 84 = .ok (.iconst 1, 1) := by decide +kernel
theorem dX2_up_85 : decode cX2_up 85 = .ok (.if_icmp .ne 44, 3) := by decide +kernel
theorem dX2_up_88 : decode cX2_up 88 = .ok (.iload_n 1, 1) := by decide +kernel
theorem dX2_up_89 : decode cX2_up 89 = .ok (.iconst 4, 1) := by decide +kernel
theorem dX2_up_90 : decode cX2_up 90 = .ok (.if_icmp .ge 39, 3) := by decide +kernel
theorem dX2_up_93 : decode cX2_up 93 = .ok (.aload_n 0, 1) := by decide +kernel
theorem dX2_up_94 : decode cX2_up 94 = .ok (.getfield 60, 3) := by decide +kernel
theorem dX2_up_97 : decode cX2_up 97 = .ok (.iconst 2, 1) := by decide +kernel
theorem dX2_up_98 : decode cX2_up 98 = .ok (.aload_n 0, 1) := by decide +kernel
theorem dX2_up_99 : decode cX2_up 99 = .ok (.getfield 96, 3) := by decide +kernel
theorem dX2_up_102 : decode cX2_up 102 = .ok (.iconst 1, 1) := by decide +kernel
theorem dX2_up_103 : decode cX2_up 103 = .ok (.isub, 1) := by decide +kernel
theorem dX2_up_104 : decode cX2_up 104 = .ok (.imul, 1) := by decide +kernel
theorem dX2_up_105 : decode cX2_up 105 = .ok (.iload_n 1, 1) := by decide +kernel
theorem dX2_up_106 : decode cX2_up 106 = .ok (.iadd, 1) := by decide +kernel
theorem dX2_up_107 : decode cX2_up 107 = .ok (.aload_n 0, 1) := by decide +kernel
theorem dX2_up_108 : decode cX2_up 108 = .ok (.getfield 60, 3) := by decide +kernel
theorem dX2_up_111 : decode cX2_up 111 = .ok (.iconst 4, 1) := by decide +kernel
theorem dX2_up_112 : decode cX2_up 112 = .ok (.aload_n 0, 1) := by decide +kernel
theorem dX2_up_113 : decode cX2_up 113 = .ok (.getfield 96, 3) := by decide +kernel
theorem dX2_up_116 : decode cX2_up 116 = .ok (.iconst 1, 1) := by decide +kernel
theorem dX2_up_117 : decode cX2_up 117 = .ok (.isub, 1) := by decide +kernel
theorem dX2_up_118 : decode cX2_up 118 = .ok (.imul, 1) := by decide +kernel
theorem dX2_up_119 : decode cX2_up 119 = .ok (.iload_n 1, 1) := by decide +kernel
theorem dX2_up_120 : decode cX2_up 120 = .ok (.iadd, 1) := by decide +kernel
theorem dX2_up_121 : decode cX2_up 121 = .ok (.laload, 1) := by decide +kernel
theorem dX2_up_122 : decode cX2_up 122 = .ok (.lastore, 1) := by decide +kernel
theorem dX2_up_123 : decode cX2_up 123 = .ok (.iinc 1 1, 3) := by decide +kernel
theorem dX2_up_126 : decode cX2_up 126 = .ok (.goto (-48), 3) := by decide +kernel
theorem dX2_up_129 : decode cX2_up 129 = .ok (.aload_n 0, 1) := by decide +kernel
theorem dX2_up_130 : decode cX2_up 130 = .ok (.aload_n 0, 1) := by decide +kernel
theorem dX2_up_131 : decode cX2_up 131 = .ok (.getfield 96, 3) := by decide +kernel
theorem dX2_up_134 : decode cX2_up 134 = .ok (.iconst 1, 1) := by decide +kernel
theorem dX2_up_135 : decode cX2_up 135 = .ok (.iadd, 1) := by decide +kernel
theorem dX2_up_136 : decode cX2_up 136 = .ok (.iconst 2, 1) := by decide +kernel
theorem dX2_up_137 : decode cX2_up 137 = .ok (.idiv, 1) := by decide +kernel
theorem dX2_up_138 : decode cX2_up 138 = .ok (.putfield 96, 3) := by decide +kernel
theorem dX2_up_141 : decode cX2_up 141 = .ok (.aload_n 0, 1) := by decide +kernel
theorem dX2_up_142 : decode cX2_up 142 = .ok (.aload_n 0, 1) := by decide +kernel
theorem dX2_up_143 : decode cX2_up 143 = .ok (.getfield 99, 3) := by decide +kernel
theorem dX2_up_146 : decode cX2_up 146 = .ok (.iconst 1, 1) := by decide +kernel
theorem dX2_up_147 : decode cX2_up 147 = .ok (.iadd, 1) := by decide +kernel
theorem dX2_up_148 : decode cX2_up 148 = .ok (.putfield 99, 3) := by decide +kernel
theorem dX2_up_151 : decode cX2_up 151 = .ok (.return_, 1) := by decide +kernel
theorem dX2_root2_0 : decode cX2_root2 0 = .ok (.iload_n 1, 1) := by decide +kernel
theorem dX2_root2_1 : decode cX2_root2 1 = .ok (.ifCond .lt 15, 3) := by decide +kernel
theorem dX2_root2_4 : decode cX2_root2 4 = .ok (.iload_n 1, 1) := by decide +kernel
theorem dX2_root2_5 : decode cX2_root2 5 = .ok (.iconst 3, 1) := by decide +kernel
theorem dX2_root2_6 : decode cX2_root2 6 = .ok (.if_icmp .gt 10, 3) := by decide +kernel
theorem dX2_root2_9 : decode cX2_root2 9 = .ok (.aload_n 0, 1) := by decide +kernel
theorem dX2_root2_10 : decode cX2_root2 10 = .ok (.getfield 83, 3) := by decide +kernel
theorem dX2_root2_13 : decode cX2_root2 13 = .ok (.ifCond .ne 5, 3) := by decide +kernel
theorem dX2_root2_16 : decode cX2_root2 16 = .ok (.lconst 0, 1) := by decide +kernel
theorem dX2_root2_17 : decode cX2_root2 17 = .ok (.lreturn, 1) := by decide +kernel
theorem dX2_root2_18 : decode cX2_root2 18 = .ok (.aload_n 0, 1) := by decide +kernel
theorem dX2_root2_19 : decode cX2_root2 19 = .ok (.invokevirtual 106, 3) := by decide +kernel
theorem dX2_root2_22 : decode cX2_root2 22 = .ok (.aload_n 0, 1) := by decide +kernel
theorem dX2_root2_23 : decode cX2_root2 23 = .ok (.getfield 96, 3) := by decide +kernel
theorem dX2_root2_26 : decode cX2_root2 26 = .ok (.iconst 1, 1) := by decide +kernel
theorem dX2_root2_27 : decode cX2_root2 27 = .ok (.if_icmp .le 10, 3) := by decide +kernel
theorem dX2_root2_30 : decode cX2_root2 30 = .ok (.aload_n 0, 1) := by decide +kernel
theorem dX2_root2_31 : decode cX2_root2 31 = .ok (.invokevirtual 109, 3) := by decide +kernel
theorem dX2_root2_34 : decode cX2_root2 34 = .ok (.goto (-12), 3) := by decide +kernel
theorem dX2_root2_37 : decode cX2_root2 37 = .ok (.aload_n 0, 1) := by decide +kernel
theorem dX2_root2_38 : decode cX2_root2 38 = .ok (.getfield 60, 3) := by decide +kernel
theorem dX2_root2_41 : decode cX2_root2 41 = .ok (.iload_n 1, 1) := by decide +kernel
theorem dX2_root2_42 : decode cX2_root2 42 = .ok (.laload, 1) := by decide +kernel
theorem dX2_root2_43 : decode cX2_root2 43 = .ok (.lreturn, 1) := by decide +kernel
theorem dX2_climb_0 : decode cX2_climb 0 = .ok (.aload_n 0, 1) := by decide +kernel
theorem dX2_climb_1 : decode cX2_climb 1 = .ok (.invokevirtual 106, 3) := by decide +kernel
theorem dX2_climb_4 : decode cX2_climb 4 = .ok (.iload_n 1, 1) := by decide +kernel
theorem dX2_climb_5 : decode cX2_climb 5 = .ok (.istore_n 3, 1) := by decide +kernel
theorem dX2_climb_6 : decode cX2_climb 6 = .ok (.aload_n 0, 1) := by decide +kernel
theorem dX2_climb_7 : decode cX2_climb 7 = .ok (.iconst 0, 1) := by decide +kernel
theorem dX2_climb_8 : decode cX2_climb 8 = .ok (.putfield 112, 3) := by decide +kernel
theorem dX2_climb_11 : decode cX2_climb 11 = .ok (.aload_n 0, 1) := by decide +kernel
theorem dX2_climb_12 : decode cX2_climb 12 = .ok (.getfield 96, 3) := by decide +kernel
theorem dX2_climb_15 : decode cX2_climb 15 = .ok (.iconst 1, 1) := by decide +kernel
theorem dX2_climb_16 : decode cX2_climb 16 = .ok (.if_icmp .le 61, 3) := by decide +kernel
theorem dX2_climb_19 : decode cX2_climb 19 = .ok (.iload_n 3, 1) := by decide +kernel
theorem dX2_climb_20 : decode cX2_climb 20 = .ok (.iconst 2, 1) := by decide +kernel
theorem dX2_climb_21 : decode cX2_climb 21 = .ok (.irem, 1) := by decide +kernel
theorem dX2_climb_22 : decode cX2_climb 22 = .ok (.ifCond .ne 9, 3) := by decide +kernel
theorem dX2_climb_25 : decode cX2_climb 25 = .ok (.iload_n 3, 1) := by decide +kernel
theorem dX2_climb_26 : decode cX2_climb 26 = .ok (.iconst 1, 1) := by decide +kernel
theorem dX2_climb_27 : decode cX2_climb 27 = .ok (.iadd, 1) := by decide +kernel
theorem dX2_climb_28 : decode cX2_climb 28 = .ok (.goto 6, 3) := by decide +kernel
theorem dX2_climb_31 : decode cX2_climb 31 = .ok (.iload_n 3, 1) := by decide +kernel
theorem dX2_climb_32 : decode cX2_climb 32 = .ok (.iconst 1, 1) := by decide +kernel
theorem dX2_climb_33 : decode cX2_climb 33 = .ok (.isub, 1) := by decide +kernel
theorem dX2_climb_34 : decode cX2_climb 34 = .ok (.istore 4, 2) := by decide +kernel
theorem dX2_climb_36 : decode cX2_climb 36 = .ok (.iload 4, 2) := by decide +kernel
theorem dX2_climb_38 : decode cX2_climb 38 = .ok (.aload_n 0, 1) := by decide +kernel
theorem dX2_climb_39 : decode cX2_climb 39 = .ok (.getfield 96, 3) := by decide +kernel
theorem dX2_climb_42 : decode cX2_climb 42 = .ok (.if_icmp .ge 24, 3) := by decide +kernel
theorem dX2_climb_45 : decode cX2_climb 45 = .ok (.aload_n 0, 1) := by decide +kernel
theorem dX2_climb_46 : decode cX2_climb 46 = .ok (.getfield 112, 3) := by decide +kernel
theorem dX2_climb_49 : decode cX2_climb 49 = .ok (.iload_n 2, 1) := by decide +kernel
theorem dX2_climb_50 : decode cX2_climb 50 = .ok (.if_icmp .ne 6, 3) := by decide +kernel
theorem dX2_climb_53 : decode cX2_climb 53 = .ok (.iload 4, 2) := by decide +kernel
theorem dX2_climb_55 : decode cX2_climb 55 = .ok (.ireturn, 1) := by decide +kernel
theorem dX2_climb_56 : decode cX2_climb 56 = .ok (.aload_n 0, 1) := by decide +kernel
theorem dX2_climb_57 : decode cX2_climb 57 = .ok (.aload_n 0, 1) := by decide +kernel
theorem dX2_climb_58 : decode cX2_climb 58 = .ok (.getfield 112, 3) := by decide +kernel
theorem dX2_climb_61 : decode cX2_climb 61 = .ok (.iconst 1, 1) := by decide +kernel
theorem dX2_climb_62 : decode cX2_climb 62 = .ok (.iadd, 1) := by decide +kernel
theorem dX2_climb_63 : decode cX2_climb 63 = .ok (.putfield 112, 3) := by decide +kernel
theorem dX2_climb_66 : decode cX2_climb 66 = .ok (.iload_n 3, 1) := by decide +kernel
theorem dX2_climb_67 : decode cX2_climb 67 = .ok (.iconst 2, 1) := by decide +kernel
theorem dX2_climb_68 : decode cX2_climb 68 = .ok (.idiv, 1) := by decide +kernel
theorem dX2_climb_69 : decode cX2_climb 69 = .ok (.istore_n 3, 1) := by decide +kernel
theorem dX2_climb_70 : decode cX2_climb 70 = .ok (.aload_n 0, 1) := by decide +kernel
theorem dX2_climb_71 : decode cX2_climb 71 = .ok (.invokevirtual 109, 3) := by decide +kernel
theorem dX2_climb_74 : decode cX2_climb 74 = .ok (.goto (-63), 3) := by decide +kernel
theorem dX2_climb_77 : decode cX2_climb 77 = .ok (.iconst (-1), 1) := by decide +kernel
theorem dX2_climb_78 : decode cX2_climb 78 = .ok (.ireturn, 1) := by decide +kernel
theorem dX2_way_0 : decode cX2_way 0 = .ok (.aload_n 0, 1) := by decide +kernel
theorem dX2_way_1 : decode cX2_way 1 = .ok (.iload_n 1, 1) := by decide +kernel
theorem dX2_way_2 : decode cX2_way 2 = .ok (.invokevirtual 89, 3) := by decide +kernel
theorem dX2_way_5 : decode cX2_way 5 = .ok (.ifCond .ne 5, 3) := by decide +kernel
theorem dX2_way_8 : decode cX2_way 8 = .ok (.iconst (-1), 1) := by decide +kernel
theorem dX2_way_9 : decode cX2_way 9 = .ok (.ireturn, 1) := by decide +kernel
theorem dX2_way_10 : decode cX2_way 10 = .ok (.aload_n 0, 1) := by decide +kernel
theorem dX2_way_11 : decode cX2_way 11 = .ok (.iload_n 1, 1) := by decide +kernel
theorem dX2_way_12 : decode cX2_way 12 = .ok (.iconst (-1), 1) := by decide +kernel
theorem dX2_way_13 : decode cX2_way 13 = .ok (.invokevirtual 115, 3) := by decide +kernel
theorem dX2_way_16 : decode cX2_way 16 = .ok (.pop, 1) := by decide +kernel
theorem dX2_way_17 : decode cX2_way 17 = .ok (.aload_n 0, 1) := by decide +kernel
theorem dX2_way_18 : decode cX2_way 18 = .ok (.getfield 112, 3) := by decide +kernel
theorem dX2_way_21 : decode cX2_way 21 = .ok (.ireturn, 1) := by decide +kernel
theorem dX2_beside_0 : decode cX2_beside 0 = .ok (.aload_n 0, 1) := by decide +kernel
theorem dX2_beside_1 : decode cX2_beside 1 = .ok (.iload_n 1, 1) := by decide +kernel
theorem dX2_beside_2 : decode cX2_beside 2 = .ok (.invokevirtual 89, 3) := by decide +kernel
theorem dX2_beside_5 : decode cX2_beside 5 = .ok (.ifCond .eq 16, 3) := by decide +kernel
theorem dX2_beside_8 : decode cX2_beside 8 = .ok (.iload_n 2, 1) := by decide +kernel
theorem dX2_beside_9 : decode cX2_beside 9 = .ok (.ifCond .lt 12, 3) := by decide +kernel
theorem dX2_beside_12 : decode cX2_beside 12 = .ok (.iload_n 3, 1) := by decide +kernel
theorem dX2_beside_13 : decode cX2_beside 13 = .ok (.ifCond .lt 8, 3) := by decide +kernel
theorem dX2_beside_16 : decode cX2_beside 16 = .ok (.iload_n 3, 1) := by decide +kernel
theorem dX2_beside_17 : decode cX2_beside 17 = .ok (.iconst 3, 1) := by decide +kernel
theorem dX2_beside_18 : decode cX2_beside 18 = .ok (.if_icmp .le 5, 3) := by decide +kernel
theorem dX2_beside_21 : decode cX2_beside 21 = .ok (.lconst 0, 1) := by decide +kernel
theorem dX2_beside_22 : decode cX2_beside 22 = .ok (.lreturn, 1) := by decide +kernel
theorem dX2_beside_23 : decode cX2_beside 23 = .ok (.aload_n 0, 1) := by decide +kernel
theorem dX2_beside_24 : decode cX2_beside 24 = .ok (.iload_n 1, 1) := by decide +kernel
theorem dX2_beside_25 : decode cX2_beside 25 = .ok (.iload_n 2, 1) := by decide +kernel
theorem dX2_beside_26 : decode cX2_beside 26 = .ok (.invokevirtual 115, 3) := by decide +kernel
theorem dX2_beside_29 : decode cX2_beside 29 = .ok (.istore 4, 2) := by decide +kernel
theorem dX2_beside_31 : decode cX2_beside 31 = .ok (.iload 4, 2) := by decide +kernel
theorem dX2_beside_33 : decode cX2_beside 33 = .ok (.ifCond .ge 7, 3) := by decide +kernel
theorem dX2_beside_36 : decode cX2_beside 36 = .ok (.lconst 0, 1) := by decide +kernel
theorem dX2_beside_37 : decode cX2_beside 37 = .ok (.goto 14, 3) := by decide +kernel
theorem dX2_beside_40 : decode cX2_beside 40 = .ok (.aload_n 0, 1) := by decide +kernel
theorem dX2_beside_41 : decode cX2_beside 41 = .ok (.getfield 60, 3) := by decide +kernel
theorem dX2_beside_44 : decode cX2_beside 44 = .ok (.iconst 4, 1) := by decide +kernel
theorem dX2_beside_45 : decode cX2_beside 45 = .ok (.iload 4, 2) := by decide +kernel
theorem dX2_beside_47 : decode cX2_beside 47 = .ok (.imul, 1) := by decide +kernel
theorem dX2_beside_48 : decode cX2_beside 48 = .ok (.iload_n 3, 1) := by decide +kernel
theorem dX2_beside_49 : decode cX2_beside 49 = .ok (.iadd, 1) := by decide +kernel
theorem dX2_beside_50 : decode cX2_beside 50 = .ok (.laload, 1) := by decide +kernel
theorem dX2_beside_51 : decode cX2_beside 51 = .ok (.lreturn, 1) := by decide +kernel
theorem dX2_isLeft_0 : decode cX2_isLeft 0 = .ok (.aload_n 0, 1) := by decide +kernel
theorem dX2_isLeft_1 : decode cX2_isLeft 1 = .ok (.iload_n 1, 1) := by decide +kernel
theorem dX2_isLeft_2 : decode cX2_isLeft 2 = .ok (.invokevirtual 89, 3) := by decide +kernel
theorem dX2_isLeft_5 : decode cX2_isLeft 5 = .ok (.ifCond .eq 7, 3) := by decide +kernel
theorem dX2_isLeft_8 : decode cX2_isLeft 8 = .ok (.iload_n 2, 1) := by decide +kernel
theorem dX2_isLeft_9 : decode cX2_isLeft 9 = .ok (.ifCond .ge 5, 3) := by decide +kernel
theorem dX2_isLeft_12 : decode cX2_isLeft 12 = .ok (.iconst (-1), 1) := by decide +kernel
theorem dX2_isLeft_13 : decode cX2_isLeft 13 = .ok (.ireturn, 1) := by decide +kernel
theorem dX2_isLeft_14 : decode cX2_isLeft 14 = .ok (.aload_n 0, 1) := by decide +kernel
theorem dX2_isLeft_15 : decode cX2_isLeft 15 = .ok (.iload_n 1, 1) := by decide +kernel
theorem dX2_isLeft_16 : decode cX2_isLeft 16 = .ok (.iload_n 2, 1) := by decide +kernel
theorem dX2_isLeft_17 : decode cX2_isLeft 17 = .ok (.invokevirtual 115, 3) := by decide +kernel
theorem dX2_isLeft_20 : decode cX2_isLeft 20 = .ok (.istore_n 3, 1) := by decide +kernel
theorem dX2_isLeft_21 : decode cX2_isLeft 21 = .ok (.iload_n 3, 1) := by decide +kernel
theorem dX2_isLeft_22 : decode cX2_isLeft 22 = .ok (.ifCond .ge 7, 3) := by decide +kernel
theorem dX2_isLeft_25 : decode cX2_isLeft 25 = .ok (.iconst (-1), 1) := by decide +kernel
theorem dX2_isLeft_26 : decode cX2_isLeft 26 = .ok (.goto 14, 3) := by decide +kernel
theorem dX2_isLeft_29 : decode cX2_isLeft 29 = .ok (.iload_n 3, 1) := by decide +kernel
theorem dX2_isLeft_30 : decode cX2_isLeft 30 = .ok (.iconst 2, 1) := by decide +kernel
theorem dX2_isLeft_31 : decode cX2_isLeft 31 = .ok (.irem, 1) := by decide +kernel
theorem dX2_isLeft_32 : decode cX2_isLeft 32 = .ok (.ifCond .ne 7, 3) := by decide +kernel
theorem dX2_isLeft_35 : decode cX2_isLeft 35 = .ok (.iconst 1, 1) := by decide +kernel
theorem dX2_isLeft_36 : decode cX2_isLeft 36 = .ok (.goto 4, 3) := by decide +kernel
theorem dX2_isLeft_39 : decode cX2_isLeft 39 = .ok (.iconst 0, 1) := by decide +kernel
theorem dX2_isLeft_40 : decode cX2_isLeft 40 = .ok (.ireturn, 1) := by decide +kernel
theorem dX2_proves_0 : decode cX2_proves 0 = .ok (.aload_n 0, 1) := by decide +kernel
theorem dX2_proves_1 : decode cX2_proves 1 = .ok (.iload_n 1, 1) := by decide +kernel
theorem dX2_proves_2 : decode cX2_proves 2 = .ok (.invokevirtual 89, 3) := by decide +kernel
theorem dX2_proves_5 : decode cX2_proves 5 = .ok (.ifCond .ne 5, 3) := by decide +kernel
theorem dX2_proves_8 : decode cX2_proves 8 = .ok (.iconst (-1), 1) := by decide +kernel
theorem dX2_proves_9 : decode cX2_proves 9 = .ok (.ireturn, 1) := by decide +kernel
theorem dX2_proves_10 : decode cX2_proves 10 = .ok (.aload_n 0, 1) := by decide +kernel
theorem dX2_proves_11 : decode cX2_proves 11 = .ok (.iconst 0, 1) := by decide +kernel
theorem dX2_proves_12 : decode cX2_proves 12 = .ok (.putfield 25, 3) := by decide +kernel
theorem dX2_proves_15 : decode cX2_proves 15 = .ok (.aload_n 0, 1) := by decide +kernel
theorem dX2_proves_16 : decode cX2_proves 16 = .ok (.iconst 0, 1) := by decide +kernel
theorem dX2_proves_17 : decode cX2_proves 17 = .ok (.invokevirtual 29, 3) := by decide +kernel
theorem dX2_proves_20 : decode cX2_proves 20 = .ok (.aload_n 0, 1) := by decide +kernel
theorem dX2_proves_21 : decode cX2_proves 21 = .ok (.invokevirtual 76, 3) := by decide +kernel
theorem dX2_proves_24 : decode cX2_proves 24 = .ok (.iconst 0, 1) := by decide +kernel
theorem dX2_proves_25 : decode cX2_proves 25 = .ok (.istore_n 2, 1) := by decide +kernel
theorem dX2_proves_26 : decode cX2_proves 26 = .ok (.iload_n 2, 1) := by decide +kernel
theorem dX2_proves_27 : decode cX2_proves 27 = .ok (.iconst 4, 1) := by decide +kernel
theorem dX2_proves_28 : decode cX2_proves 28 = .ok (.if_icmp .ge 20, 3) := by decide +kernel
theorem dX2_proves_31 : decode cX2_proves 31 = .ok (.aload_n 0, 1) := by decide +kernel
theorem dX2_proves_32 : decode cX2_proves 32 = .ok (.getfield 64, 3) := by decide +kernel
theorem dX2_proves_35 : decode cX2_proves 35 = .ok (.iload_n 2, 1) := by decide +kernel
theorem dX2_proves_36 : decode cX2_proves 36 = .ok (.aload_n 0, 1) := by decide +kernel
theorem dX2_proves_37 : decode cX2_proves 37 = .ok (.iload_n 2, 1) := by decide +kernel
theorem dX2_proves_38 : decode cX2_proves 38 = .ok (.invokevirtual 79, 3) := by decide +kernel
theorem dX2_proves_41 : decode cX2_proves 41 = .ok (.lastore, 1) := by decide +kernel
theorem dX2_proves_42 : decode cX2_proves 42 = .ok (.iinc 2 1, 3) := by decide +kernel
theorem dX2_proves_45 : decode cX2_proves 45 = .ok (.goto (-19), 3) := by decide +kernel
theorem dX2_proves_48 : decode cX2_proves 48 = .ok (.aload_n 0, 1) := by decide +kernel
theorem dX2_proves_49 : decode cX2_proves 49 = .ok (.iload_n 1, 1) := by decide +kernel
theorem dX2_proves_50 : decode cX2_proves 50 = .ok (.invokevirtual 118, 3) := by decide +kernel
theorem dX2_proves_53 : decode cX2_proves 53 = .ok (.istore_n 2, 1) := by decide +kernel
theorem dX2_proves_54 : decode cX2_proves 54 = .ok (.iconst 0, 1) := by decide +kernel
theorem dX2_proves_55 : decode cX2_proves 55 = .ok (.istore_n 3, 1) := by decide +kernel
theorem dX2_proves_56 : decode cX2_proves 56 = .ok (.iload_n 3, 1) := by decide +kernel
theorem dX2_proves_57 : decode cX2_proves 57 = .ok (.iload_n 2, 1) := by decide +kernel
theorem dX2_proves_58 : decode cX2_proves 58 = .ok (.if_icmp .ge 164, 3) := by decide +kernel
theorem dX2_proves_61 : decode cX2_proves 61 = .ok (.aload_n 0, 1) := by decide +kernel
theorem dX2_proves_62 : decode cX2_proves 62 = .ok (.iload_n 1, 1) := by decide +kernel
theorem dX2_proves_63 : decode cX2_proves 63 = .ok (.iload_n 3, 1) := by decide +kernel
theorem dX2_proves_64 : decode cX2_proves 64 = .ok (.invokevirtual 115, 3) := by decide +kernel
theorem dX2_proves_67 : decode cX2_proves 67 = .ok (.istore 4, 2) := by decide +kernel
theorem dX2_proves_69 : decode cX2_proves 69 = .ok (.iload 4, 2) := by decide +kernel
theorem dX2_proves_71 : decode cX2_proves 71 = .ok (.iconst 2, 1) := by decide +kernel
theorem dX2_proves_72 : decode cX2_proves 72 = .ok (.irem, 1) := by decide +kernel
theorem dX2_proves_73 : decode cX2_proves 73 = .ok (.ifCond .ne 7, 3) := by decide +kernel
theorem dX2_proves_76 : decode cX2_proves 76 = .ok (.iconst 1, 1) := by decide +kernel
theorem dX2_proves_77 : decode cX2_proves 77 = .ok (.goto 4, 3) := by decide +kernel
theorem dX2_proves_80 : decode cX2_proves 80 = .ok (.iconst 0, 1) := by decide +kernel
theorem dX2_proves_81 : decode cX2_proves 81 = .ok (.istore 5, 2) := by decide +kernel
theorem dX2_proves_83 : decode cX2_proves 83 = .ok (.aload_n 0, 1) := by decide +kernel
theorem dX2_proves_84 : decode cX2_proves 84 = .ok (.iconst 0, 1) := by decide +kernel
theorem dX2_proves_85 : decode cX2_proves 85 = .ok (.putfield 25, 3) := by decide +kernel
theorem dX2_proves_88 : decode cX2_proves 88 = .ok (.aload_n 0, 1) := by decide +kernel
theorem dX2_proves_89 : decode cX2_proves 89 = .ok (.iconst 1, 1) := by decide +kernel
theorem dX2_proves_90 : decode cX2_proves 90 = .ok (.invokevirtual 29, 3) := by decide +kernel
theorem dX2_proves_93 : decode cX2_proves 93 = .ok (.iconst 0, 1) := by decide +kernel
theorem dX2_proves_94 : decode cX2_proves 94 = .ok (.istore 6, 2) := by decide +kernel
theorem dX2_proves_96 : decode cX2_proves 96 = .ok (.iload 6, 2) := by decide +kernel
theorem dX2_proves_98 : decode cX2_proves 98 = .ok (.bipush 64, 2) := by decide +kernel
theorem dX2_proves_100 : decode cX2_proves 100 = .ok (.if_icmp .ge 84, 3) := by decide +kernel
theorem dX2_proves_103 : decode cX2_proves 103 = .ok (.iload 6, 2) := by decide +kernel
theorem dX2_proves_105 : decode cX2_proves 105 = .ok (.bipush 32, 2) := by decide +kernel
theorem dX2_proves_107 : decode cX2_proves 107 = .ok (.if_icmp .ge 7, 3) := by decide +kernel
theorem dX2_proves_110 : decode cX2_proves 110 = .ok (.iconst 1, 1) := by decide +kernel
theorem dX2_proves_111 : decode cX2_proves 111 = .ok (.goto 4, 3) := by decide +kernel
theorem dX2_proves_114 : decode cX2_proves 114 = .ok (.iconst 0, 1) := by decide +kernel
theorem dX2_proves_115 : decode cX2_proves 115 = .ok (.iload 5, 2) := by decide +kernel
theorem dX2_proves_117 : decode cX2_proves 117 = .ok (.if_icmp .ne 7, 3) := by decide +kernel
theorem dX2_proves_120 : decode cX2_proves 120 = .ok (.iconst 1, 1) := by decide +kernel
theorem dX2_proves_121 : decode cX2_proves 121 = .ok (.goto 4, 3) := by decide +kernel
theorem dX2_proves_124 : decode cX2_proves 124 = .ok (.iconst 0, 1) := by decide +kernel
theorem dX2_proves_125 : decode cX2_proves 125 = .ok (.istore 7, 2) := by decide +kernel
theorem dX2_proves_127 : decode cX2_proves 127 = .ok (.aload_n 0, 1) := by decide +kernel
theorem dX2_proves_128 : decode cX2_proves 128 = .ok (.iload 7, 2) := by decide +kernel
theorem dX2_proves_130 : decode cX2_proves 130 = .ok (.ifCond .eq 24, 3) := by decide +kernel
theorem dX2_proves_133 : decode cX2_proves 133 = .ok (.aload_n 0, 1) := by decide +kernel
theorem dX2_proves_134 : decode cX2_proves 134 = .ok (.getfield 60, 3) := by decide +kernel
theorem dX2_proves_137 : decode cX2_proves 137 = .ok (.iconst 4, 1) := by decide +kernel
theorem dX2_proves_138 : decode cX2_proves 138 = .ok (.iload 4, 2) := by decide +kernel
theorem dX2_proves_140 : decode cX2_proves 140 = .ok (.imul, 1) := by decide +kernel
theorem dX2_proves_141 : decode cX2_proves 141 = .ok (.iload 6, 2) := by decide +kernel
theorem dX2_proves_143 : decode cX2_proves 143 = .ok (.bipush 32, 2) := by decide +kernel
theorem dX2_proves_145 : decode cX2_proves 145 = .ok (.irem, 1) := by decide +kernel
theorem dX2_proves_146 : decode cX2_proves 146 = .ok (.bipush 8, 2) := by decide +kernel
theorem dX2_proves_148 : decode cX2_proves 148 = .ok (.idiv, 1) := by decide +kernel
theorem dX2_proves_149 : decode cX2_proves 149 = .ok (.iadd, 1) := by decide +kernel
theorem dX2_proves_150 : decode cX2_proves 150 = .ok (.laload, 1) := by decide +kernel
theorem dX2_proves_151 : decode cX2_proves 151 = .ok (.goto 16, 3) := by decide +kernel
theorem dX2_proves_154 : decode cX2_proves 154 = .ok (.aload_n 0, 1) := by decide +kernel
theorem dX2_proves_155 : decode cX2_proves 155 = .ok (.getfield 64, 3) := by decide +kernel
theorem dX2_proves_158 : decode cX2_proves 158 = .ok (.iload 6, 2) := by decide +kernel
theorem dX2_proves_160 : decode cX2_proves 160 = .ok (.bipush 32, 2) := by decide +kernel
theorem dX2_proves_162 : decode cX2_proves 162 = .ok (.irem, 1) := by decide +kernel
theorem dX2_proves_163 : decode cX2_proves 163 = .ok (.bipush 8, 2) := by decide +kernel
theorem dX2_proves_165 : decode cX2_proves 165 = .ok (.idiv, 1) := by decide +kernel
theorem dX2_proves_166 : decode cX2_proves 166 = .ok (.laload, 1) := by decide +kernel
theorem dX2_proves_167 : decode cX2_proves 167 = .ok (.iload 6, 2) := by decide +kernel
theorem dX2_proves_169 : decode cX2_proves 169 = .ok (.bipush 8, 2) := by decide +kernel
theorem dX2_proves_171 : decode cX2_proves 171 = .ok (.irem, 1) := by decide +kernel
theorem dX2_proves_172 : decode cX2_proves 172 = .ok (.invokestatic 102, 3) := by decide +kernel
theorem dX2_proves_175 : decode cX2_proves 175 = .ok (.invokevirtual 29, 3) := by decide +kernel
theorem dX2_proves_178 : decode cX2_proves 178 = .ok (.iinc 6 1, 3) := by decide +kernel
theorem dX2_proves_181 : decode cX2_proves 181 = .ok (.goto (-85), 3) := by decide +kernel
theorem dX2_proves_184 : decode cX2_proves 184 = .ok (.aload_n 0, 1) := by decide +kernel
theorem dX2_proves_185 : decode cX2_proves 185 = .ok (.invokevirtual 73, 3) := by decide +kernel
theorem dX2_proves_188 : decode cX2_proves 188 = .ok (.iconst 0, 1) := by decide +kernel
theorem dX2_proves_189 : decode cX2_proves 189 = .ok (.istore 6, 2) := by decide +kernel
theorem dX2_proves_191 : decode cX2_proves 191 = .ok (.iload 6, 2) := by decide +kernel
theorem dX2_proves_193 : decode cX2_proves 193 = .ok (.iconst 4, 1) := by decide +kernel
theorem dX2_proves_194 : decode cX2_proves 194 = .ok (.if_icmp .ge 22, 3) := by decide +kernel
theorem dX2_proves_197 : decode cX2_proves 197 = .ok (.aload_n 0, 1) := by decide +kernel
theorem dX2_proves_198 : decode cX2_proves 198 = .ok (.getfield 64, 3) := by decide +kernel
theorem dX2_proves_201 : decode cX2_proves 201 = .ok (.iload 6, 2) := by decide +kernel
theorem dX2_proves_203 : decode cX2_proves 203 = .ok (.aload_n 0, 1) := by decide +kernel
theorem dX2_proves_204 : decode cX2_proves 204 = .ok (.iload 6, 2) := by decide +kernel
theorem dX2_proves_206 : decode cX2_proves 206 = .ok (.invokevirtual 79, 3) := by decide +kernel
theorem dX2_proves_209 : decode cX2_proves 209 = .ok (.lastore, 1) := by decide +kernel
theorem dX2_proves_210 : decode cX2_proves 210 = .ok (.iinc 6 1, 3) := by decide +kernel
theorem dX2_proves_213 : decode cX2_proves 213 = .ok (.goto (-22), 3) := by decide +kernel
theorem dX2_proves_216 : decode cX2_proves 216 = .ok (.iinc 3 1, 3) := by decide +kernel
theorem dX2_proves_219 : decode cX2_proves 219 = .ok (.goto (-163), 3) := by decide +kernel
theorem dX2_proves_222 : decode cX2_proves 222 = .ok (.iconst 1, 1) := by decide +kernel
theorem dX2_proves_223 : decode cX2_proves 223 = .ok (.istore_n 3, 1) := by decide +kernel
theorem dX2_proves_224 : decode cX2_proves 224 = .ok (.iconst 0, 1) := by decide +kernel
theorem dX2_proves_225 : decode cX2_proves 225 = .ok (.istore 4, 2) := by decide +kernel
theorem dX2_proves_227 : decode cX2_proves 227 = .ok (.iload 4, 2) := by decide +kernel
theorem dX2_proves_229 : decode cX2_proves 229 = .ok (.iconst 4, 1) := by decide +kernel
theorem dX2_proves_230 : decode cX2_proves 230 = .ok (.if_icmp .ge 36, 3) := by decide +kernel
theorem dX2_proves_233 : decode cX2_proves 233 = .ok (.iload_n 3, 1) := by decide +kernel
theorem dX2_proves_234 : decode cX2_proves 234 = .ok (.ifCond .eq 24, 3) := by decide +kernel
theorem dX2_proves_237 : decode cX2_proves 237 = .ok (.aload_n 0, 1) := by decide +kernel
theorem dX2_proves_238 : decode cX2_proves 238 = .ok (.getfield 64, 3) := by decide +kernel
theorem dX2_proves_241 : decode cX2_proves 241 = .ok (.iload 4, 2) := by decide +kernel
theorem dX2_proves_243 : decode cX2_proves 243 = .ok (.laload, 1) := by decide +kernel
theorem dX2_proves_244 : decode cX2_proves 244 = .ok (.aload_n 0, 1) := by decide +kernel
theorem dX2_proves_245 : decode cX2_proves 245 = .ok (.iload 4, 2) := by decide +kernel
theorem dX2_proves_247 : decode cX2_proves 247 = .ok (.invokevirtual 122, 3) := by decide +kernel
theorem dX2_proves_250 : decode cX2_proves 250 = .ok (.lcmp, 1) := by decide +kernel
theorem dX2_proves_251 : decode cX2_proves 251 = .ok (.ifCond .ne 7, 3) := by decide +kernel
theorem dX2_proves_254 : decode cX2_proves 254 = .ok (.iconst 1, 1) := by decide +kernel
theorem dX2_proves_255 : decode cX2_proves 255 = .ok (.goto 4, 3) := by decide +kernel
theorem dX2_proves_258 : decode cX2_proves 258 = .ok (.iconst 0, 1) := by decide +kernel
theorem dX2_proves_259 : decode cX2_proves 259 = .ok (.istore_n 3, 1) := by decide +kernel
theorem dX2_proves_260 : decode cX2_proves 260 = .ok (.iinc 4 1, 3) := by decide +kernel
theorem dX2_proves_263 : decode cX2_proves 263 = .ok (.goto (-36), 3) := by decide +kernel
theorem dX2_proves_266 : decode cX2_proves 266 = .ok (.iload_n 3, 1) := by decide +kernel
theorem dX2_proves_267 : decode cX2_proves 267 = .ok (.ifCond .eq 7, 3) := by decide +kernel
theorem dX2_proves_270 : decode cX2_proves 270 = .ok (.iconst 1, 1) := by decide +kernel
theorem dX2_proves_271 : decode cX2_proves 271 = .ok (.goto 4, 3) := by decide +kernel
theorem dX2_proves_274 : decode cX2_proves 274 = .ok (.iconst 0, 1) := by decide +kernel
theorem dX2_proves_275 : decode cX2_proves 275 = .ok (.ireturn, 1) := by decide +kernel
theorem dX2_count_0 : decode cX2_count 0 = .ok (.iload_n 1, 1) := by decide +kernel
theorem dX2_count_1 : decode cX2_count 1 = .ok (.tableswitch 94 0 3 #[31, 36, 41, 65], 31) := by decide +kernel
theorem dX2_count_32 : decode cX2_count 32 = .ok (.aload_n 0, 1) := by decide +kernel
theorem dX2_count_33 : decode cX2_count 33 = .ok (.getfield 70, 3) := by decide +kernel
theorem dX2_count_36 : decode cX2_count 36 = .ok (.ireturn, 1) := by decide +kernel
theorem dX2_count_37 : decode cX2_count 37 = .ok (.aload_n 0, 1) := by decide +kernel
theorem dX2_count_38 : decode cX2_count 38 = .ok (.getfield 83, 3) := by decide +kernel
theorem dX2_count_41 : decode cX2_count 41 = .ok (.ireturn, 1) := by decide +kernel
theorem dX2_count_42 : decode cX2_count 42 = .ok (.aload_n 0, 1) := by decide +kernel
theorem dX2_count_43 : decode cX2_count 43 = .ok (.invokevirtual 106, 3) := by decide +kernel
theorem dX2_count_46 : decode cX2_count 46 = .ok (.aload_n 0, 1) := by decide +kernel
theorem dX2_count_47 : decode cX2_count 47 = .ok (.getfield 96, 3) := by decide +kernel
theorem dX2_count_50 : decode cX2_count 50 = .ok (.iconst 1, 1) := by decide +kernel
theorem dX2_count_51 : decode cX2_count 51 = .ok (.if_icmp .le 10, 3) := by decide +kernel
theorem dX2_count_54 : decode cX2_count 54 = .ok (.aload_n 0, 1) := by decide +kernel
theorem dX2_count_55 : decode cX2_count 55 = .ok (.invokevirtual 109, 3) := by decide +kernel
theorem dX2_count_58 : decode cX2_count 58 = .ok (.goto (-12), 3) := by decide +kernel
theorem dX2_count_61 : decode cX2_count 61 = .ok (.aload_n 0, 1) := by decide +kernel
theorem dX2_count_62 : decode cX2_count 62 = .ok (.getfield 99, 3) := by decide +kernel
theorem dX2_count_65 : decode cX2_count 65 = .ok (.ireturn, 1) := by decide +kernel
theorem dX2_count_66 : decode cX2_count 66 = .ok (.iconst 0, 1) := by decide +kernel
theorem dX2_count_67 : decode cX2_count 67 = .ok (.istore_n 2, 1) := by decide +kernel
theorem dX2_count_68 : decode cX2_count 68 = .ok (.iconst 0, 1) := by decide +kernel
theorem dX2_count_69 : decode cX2_count 69 = .ok (.istore_n 3, 1) := by decide +kernel
theorem dX2_count_70 : decode cX2_count 70 = .ok (.iload_n 3, 1) := by decide +kernel
theorem dX2_count_71 : decode cX2_count 71 = .ok (.aload_n 0, 1) := by decide +kernel
theorem dX2_count_72 : decode cX2_count 72 = .ok (.getfield 83, 3) := by decide +kernel
theorem dX2_count_75 : decode cX2_count 75 = .ok (.if_icmp .ge 18, 3) := by decide +kernel
theorem dX2_count_78 : decode cX2_count 78 = .ok (.iload_n 2, 1) := by decide +kernel
theorem dX2_count_79 : decode cX2_count 79 = .ok (.aload_n 0, 1) := by decide +kernel
theorem dX2_count_80 : decode cX2_count 80 = .ok (.getfield 57, 3) := by decide +kernel
theorem dX2_count_83 : decode cX2_count 83 = .ok (.iload_n 3, 1) := by decide +kernel
theorem dX2_count_84 : decode cX2_count 84 = .ok (.iaload, 1) := by decide +kernel
theorem dX2_count_85 : decode cX2_count 85 = .ok (.iadd, 1) := by decide +kernel
theorem dX2_count_86 : decode cX2_count 86 = .ok (.istore_n 2, 1) := by decide +kernel
theorem dX2_count_87 : decode cX2_count 87 = .ok (.iinc 3 1, 3) := by decide +kernel
theorem dX2_count_90 : decode cX2_count 90 = .ok (.goto (-20), 3) := by decide +kernel
theorem dX2_count_93 : decode cX2_count 93 = .ok (.iload_n 2, 1) := by decide +kernel
theorem dX2_count_94 : decode cX2_count 94 = .ok (.ireturn, 1) := by decide +kernel
theorem dX2_count_95 : decode cX2_count 95 = .ok (.iconst (-1), 1) := by decide +kernel
theorem dX2_count_96 : decode cX2_count 96 = .ok (.ireturn, 1) := by decide +kernel
end
section
/-! the reference's pure words -/
theorem a255 (x : Int32) : (x &&& 255) &&& 255 = x &&& 255 := by
  rw [Int32.and_assoc]
  rfl
theorem b255 (x : Int32) : x.toInt8.toInt32 &&& 255 = x &&& 255 := by
  apply Int32.toBitVec_inj.mp
  rw [Int32.toBitVec_and, Int32.toBitVec_and, Int8.toBitVec_toInt32, Int32.toBitVec_toInt8]
  apply BitVec.eq_of_getLsbD_eq
  intro i hi
  rw [BitVec.getLsbD_and, BitVec.getLsbD_and]
  have hm : ∀ i < 32, 8 ≤ i → (255 : Int32).toBitVec.getLsbD i = false := by decide
  rcases Nat.lt_or_ge i 8 with z | z
  · rw [BitVec.getLsbD_signExtend, BitVec.getLsbD_signExtend, if_pos z, if_pos hi]
    simp only [z, hi, decide_true, Bool.true_and]
  · rw [hm i hi z]; simp
theorem wdm_eq {hs M : Nat → Int32} {f i : Nat} (h : ∀ j, f ≤ j → j < f + 64 → hs j = M j &&& 255) (hi : i < 16) : (((hs (f + 4 * i) <<< ((24 : Int32) &&& 31) ||| hs (f + 4 * i + 1) <<< ((16 : Int32) &&& 31)) ||| hs (f + 4 * i + 2) <<< ((8 : Int32) &&& 31)) ||| hs (f + 4 * i + 3)) = wd M f i := by
  unfold wd
  rw [h (f + 4 * i) (by omega) (by omega), h (f + 4 * i + 1) (by omega) (by omega), h (f + 4 * i + 2) (by omega) (by omega), h (f + 4 * i + 3) (by omega) (by omega)]
theorem rds_s2 {sc : Nat → Int32} {x : R8} {i : Nat} {a b c d e f g h k : Int32} (hi : rds sc x i = (a, b, c, d, e, f, g, h)) (hk : k = rwv i) : rds sc x (i + 1) = ((((h + ((tn e 6 ^^^ tn e 11) ^^^ tn e 25)) + ((e &&& f) ^^^ ((e ^^^ (-1)) &&& g))) + k + sc i) + (((tn a 2 ^^^ tn a 13) ^^^ tn a 22) + (((a &&& b) ^^^ (a &&& c)) ^^^ (b &&& c))), a, b, c, d + (((h + ((tn e 6 ^^^ tn e 11) ^^^ tn e 25)) + ((e &&& f) ^^^ ((e ^^^ (-1)) &&& g))) + k + sc i), e, f, g) := by
  rw [rds_s hi, hk, ← Int32.add_assoc]
  rfl
def mpd (n j : Nat) : Int32 := pd n j &&& 255
theorem mpd_0 (n : Nat) : (128 : Int32) &&& 255 = mpd n 0 := by
  unfold mpd pd
  rw [if_pos rfl]
  rfl
theorem mpd_z {n i : Nat} (h : i < pz n) : (0 : Int32) &&& 255 = mpd n (1 + i) := by
  unfold mpd
  rw [← pd_0 h]
  rfl
theorem mpd_h {n i : Nat} (hn : n < 184) (h : i < 4) : (0 : Int32) &&& 255 = mpd n (1 + pz n + i) := by
  unfold mpd
  rw [← pd_b n (by omega)]
  have key : ∀ n, n < 184 → ∀ i, i < 4 → (0 : Int32) &&& 255 = ((((8 : Int64) * (nI n).toInt64).toUInt64 >>> ((sf i).toInt64.toUInt64 &&& Int64.toUInt64 63)).toInt64.toInt32).toInt8.toInt32 &&& 255 := by decide +kernel
  exact key n hn i h
theorem mpd_l {n i : Nat} (hn : n < 184) (h : i < 4) : ((nI (8 * n)).toUInt32 >>> ((nI (8 * (3 - i))).toUInt32 &&& Int32.toUInt32 31)).toInt32 &&& 255 = mpd n (1 + pz n + 4 + i) := by
  unfold mpd
  rw [show 1 + pz n + 4 + i = 1 + pz n + (4 + i) by omega, ← pd_b n (by omega)]
  have key : ∀ n, n < 184 → ∀ i, i < 4 → ((nI (8 * n)).toUInt32 >>> ((nI (8 * (3 - i))).toUInt32 &&& Int32.toUInt32 31)).toInt32 &&& 255 = ((((8 : Int64) * (nI n).toInt64).toUInt64 >>> ((sf (4 + i)).toInt64.toUInt64 &&& Int64.toUInt64 63)).toInt64.toInt32).toInt8.toInt32 &&& 255 := by decide +kernel
  exact key n hn i h
def sg (i : Nat) : Int32 := 3 - nI i
theorem sg_lt {i : Nat} (h : i ≤ 4) (c : sg i < 0) : i = 4 := by
  have key : ∀ i, i < 4 → ¬ sg i < 0 := by decide
  rcases Nat.lt_or_ge i 4 with q | q
  · exact absurd c (key i q)
  · omega
theorem sg_nlt {i : Nat} (h : i ≤ 4) (c : ¬ sg i < 0) : i < 4 := by
  rcases Nat.lt_or_ge i 4 with q | q
  · exact q
  · have e : i = 4 := by omega
    subst e
    exact absurd (by decide) c
theorem sg_n {i : Nat} (h : i < 4) : sg i = nI (3 - i) := by
  have key : ∀ i, i < 4 → sg i = nI (3 - i) := by decide
  exact key i h
theorem sg_s {i : Nat} (h : i < 4) : nI (3 - i) + Int32.ofInt (-1) = sg (i + 1) := by
  have key : ∀ i, i < 4 → nI (3 - i) + Int32.ofInt (-1) = sg (i + 1) := by decide
  exact key i h
theorem msg_rel {hs ms : Nat → Int32} {n : Nat} (h : ∀ j, j < n → hs j = ms j &&& 255) : ∀ j, j < n + pl n → cat hs n (mpd n) (pl n) j = cat ms n (pd n) (pl n) j &&& 255 := by
  intro j hj
  unfold cat
  by_cases q : n ≤ j ∧ j < n + pl n
  · rw [if_pos q, if_pos q]
    rfl
  · rw [if_neg q, if_neg q]
    exact h j (by omega)
theorem tape_rel {hs ms tp ct : Nat → Int32} {n k : Nat} (h : ∀ j, j < n → hs j = ms j &&& 255) (h5 : ∀ j, j < k → tp j = ct j &&& 255) : ∀ j, j < n + k → cat hs n (fun j => tp j &&& 255) k j = cat ms n ct k j &&& 255 := by
  intro j hj
  unfold cat
  by_cases q : n ≤ j ∧ j < n + k
  · rw [if_pos q, if_pos q]
    show tp (j - n) &&& 255 = _
    rw [h5 _ (by omega), a255]
  · rw [if_neg q, if_neg q]
    exact h j (by omega)
theorem shs_back2 {M st1 : Nat → Int32} {u : (Nat → Int32) × (Nat → Int32)} {b : Nat} (h : ∀ j, j < 8 → st1 j = shs M b j) (h2 : ∀ j, j < 8 → u.1 j = mx st1 (swl (wd M (64 * b)) 48) j) : ∀ j, j < 8 → u.1 j = shs M (b + 1) j := by
  intro j hj
  rw [h2 j hj]
  exact mx_congr h (fun _ _ => rfl) j hj
/-- two words as a long; the bytes of a long -/
def lw8 (f : Nat → Int32) (k : Nat) : Int64 := ((f (2 * k)).toInt64 <<< ((32 : Int32).toInt64 &&& 63)) ||| ((f (2 * k + 1)).toInt64 &&& 4294967295)
def byi (w : Int64) (k : Nat) : Int32 := (w >>> ((nI (56 - 8 * k)).toInt64 &&& 63)).toInt32 &&& 255
theorem lw8_e8 {f : Nat → Int32} {j : Nat} (h : j ≤ 3) : lw8 f j = e8 f (nI j) := e8_in h
def catL (ms : Nat → Int64) (n : Nat) (f : Nat → Int64) (k : Nat) : Nat → Int64 := fun j => if n ≤ j ∧ j < n + k then f (j - n) else ms j
theorem catL_0 (ms : Nat → Int64) (n : Nat) (f : Nat → Int64) : catL ms n f 0 = ms := by
  funext j
  unfold catL
  rw [if_neg (by omega)]
theorem catL_s (ms : Nat → Int64) (n : Nat) (f : Nat → Int64) (k : Nat) {x : Int64} (hx : x = f k) : vp_updL (catL ms n f k) (n + k) x = catL ms n f (k + 1) := by
  subst hx
  funext j
  unfold vp_updL catL
  by_cases h : j = n + k
  · subst h
    rw [if_pos rfl, if_pos (by omega), Nat.add_sub_cancel_left]
  · rw [if_neg h]
    by_cases h2 : n ≤ j ∧ j < n + k
    · rw [if_pos h2, if_pos (by omega)]
    · rw [if_neg h2, if_neg (by omega)]
theorem catL_in {ms : Nat → Int64} {n : Nat} {f : Nat → Int64} {k j : Nat} (h : j < k) : catL ms n f k (n + j) = f j := by
  unfold catL
  rw [if_pos (by omega), Nat.add_sub_cancel_left]
theorem catL_out {ms : Nat → Int64} {n : Nat} {f : Nat → Int64} {k j : Nat} (h : j < n ∨ n + k ≤ j) : catL ms n f k j = ms j := by
  unfold catL
  rw [if_neg (by omega)]
end
section
/-- the reference's world -/
abbrev wm (r : Nat → Nat) (cI cJ : ClassId) (hz tl lv mn vs cb : Nat) (hs su sc ro be tp bs : Nat → Int32) (sz : Nat → Nat) (lw mi : Nat → Int64) : va_W :=
  [(r 0, .inr (2, [.ref (r 1), .int (nI hz), .ref (r 2), .ref (r 3), .ref (r 4), .ref (r 5), .ref (r 6), .int (nI tl), .int (nI lv), .ref (r 7), .ref (r 8), .ref (r 9), .int (nI mn), .int (nI vs), .int (nI cb), .ref (r 10)])), (r 1, .inl (cI, 512, .inl hs)), (r 2, .inl (cI, 8, .inl su)), (r 3, .inl (cI, 64, .inl sc)), (r 4, .inl (cI, 64, .inl ro)), (r 5, .inl (cI, 8, .inl be)), (r 6, .inl (cI, 150, .inl tp)), (r 7, .inl (cI, 15000, .inl bs)), (r 8, .inl (cI, 100, .inl (fun j => nI (sz j)))), (r 9, .inl (cJ, 400, .inr (.inl lw))), (r 10, .inl (cJ, 4, .inr (.inl mi)))]
end
section
/-! bits: begun from BITS.to-paste's first family -/
def bt (x : Int32) (i : Nat) : Bool := x.toBitVec.getLsbD i
theorem b_ext {x y : Int32} (h : ∀ i, i < 32 → bt x i = bt y i) : x = y := Int32.toBitVec_inj.mp (BitVec.eq_of_getLsbD_eq (fun i hi => h i hi))
theorem b_or (x y : Int32) (i : Nat) : bt (x ||| y) i = (bt x i || bt y i) := by unfold bt; rw [Int32.toBitVec_or, BitVec.getLsbD_or]
theorem b_and (x y : Int32) (i : Nat) : bt (x &&& y) i = (bt x i && bt y i) := by unfold bt; rw [Int32.toBitVec_and, BitVec.getLsbD_and]
theorem b_xor (x y : Int32) (i : Nat) : bt (x ^^^ y) i = (bt x i ^^ bt y i) := by unfold bt; rw [Int32.toBitVec_xor, BitVec.getLsbD_xor]
theorem b_big {x : Int32} {i : Nat} (h : 32 ≤ i) : bt x i = false := BitVec.getLsbD_of_ge _ _ h
theorem b_255 (i : Nat) : bt 255 i = decide (i < 8) := by
  rcases Nat.lt_or_ge i 32 with h | h
  · exact (by decide +kernel : ∀ i, i < 32 → bt 255 i = decide (i < 8)) i h
  · rw [b_big h, decide_eq_false (by omega)]
theorem b_65535 (i : Nat) : bt 65535 i = decide (i < 16) := by
  rcases Nat.lt_or_ge i 32 with h | h
  · exact (by decide +kernel : ∀ i, i < 32 → bt 65535 i = decide (i < 16)) i h
  · rw [b_big h, decide_eq_false (by omega)]
theorem b_m1 : ∀ i, i < 32 → bt (-1) i = true := by decide +kernel
theorem b_0 (i : Nat) : bt 0 i = false := BitVec.getLsbD_zero
theorem s_l : ∀ n, n < 32 → ((nI n &&& 31).toBitVec.smod 32).toNat = n := by decide +kernel
theorem s_u : ∀ n, n < 32 → (((nI n).toUInt32 &&& Int32.toUInt32 31).toBitVec % 32).toNat = n := by decide +kernel
theorem b_shl (n : Nat) (hn : n < 32) (x : Int32) {i : Nat} (hi : i < 32) : bt (x <<< (nI n &&& 31)) i = (decide (n ≤ i) && bt x (i - n)) := by
  unfold bt
  rw [Int32.toBitVec_shiftLeft]
  show (x.toBitVec <<< ((nI n &&& 31).toBitVec.smod 32).toNat).getLsbD i = _
  rw [s_l n hn, BitVec.getLsbD_shiftLeft]
  rcases Nat.lt_or_ge i n with h | h
  · simp [h, Nat.not_le.mpr h]
  · simp [hi, h, Nat.not_lt.mpr h]
theorem b_ushr (n : Nat) (hn : n < 32) (x : Int32) (i : Nat) : bt ((x.toUInt32 >>> ((nI n).toUInt32 &&& Int32.toUInt32 31)).toInt32) i = bt x (n + i) := by
  show (x.toUInt32 >>> ((nI n).toUInt32 &&& Int32.toUInt32 31)).toBitVec.getLsbD i = x.toUInt32.toBitVec.getLsbD (n + i)
  rw [UInt32.toBitVec_shiftRight]
  show (x.toUInt32.toBitVec >>> (((nI n).toUInt32 &&& Int32.toUInt32 31).toBitVec % 32).toNat).getLsbD i = _
  rw [s_u n hn, BitVec.getLsbD_ushiftRight]
theorem b_sshr (n : Nat) (hn : n < 32) (x : Int32) {i : Nat} (hi : i < 32) : bt (x >>> (nI n &&& 31)) i = if n + i < 32 then bt x (n + i) else bt x 31 := by
  unfold bt
  rw [Int32.toBitVec_shiftRight]
  show (x.toBitVec.sshiftRight ((nI n &&& 31).toBitVec.smod 32).toNat).getLsbD i = _
  rw [s_l n hn, BitVec.getLsbD_sshiftRight, BitVec.msb_eq_getLsbD_last]
  simp [hi]
def bl (w : Int64) (i : Nat) : Bool := w.toBitVec.getLsbD i
theorem t_l : ∀ n, n < 64 → (((nI n).toInt64 &&& 63).toBitVec.smod 64).toNat = n := by decide +kernel
theorem t_u : ∀ n, n < 64 → (((nI n).toInt64.toUInt64 &&& Int64.toUInt64 63).toBitVec % 64).toNat = n := by decide +kernel
theorem l_sshr (n : Nat) (w : Int64) {i : Nat} (hi : n + i < 64) : bl (w >>> ((nI n).toInt64 &&& 63)) i = bl w (n + i) := by
  unfold bl
  rw [Int64.toBitVec_shiftRight]
  show (w.toBitVec.sshiftRight (((nI n).toInt64 &&& 63).toBitVec.smod 64).toNat).getLsbD i = _
  rw [t_l n (by omega), BitVec.getLsbD_sshiftRight]
  have h2 : i < 64 := by omega
  simp [hi, h2]
theorem l_ushr (n : Nat) (hn : n < 64) (w : Int64) (i : Nat) : bl ((w.toUInt64 >>> ((nI n).toInt64.toUInt64 &&& Int64.toUInt64 63)).toInt64) i = bl w (n + i) := by
  show (w.toUInt64 >>> ((nI n).toInt64.toUInt64 &&& Int64.toUInt64 63)).toBitVec.getLsbD i = w.toUInt64.toBitVec.getLsbD (n + i)
  rw [UInt64.toBitVec_shiftRight]
  show (w.toUInt64.toBitVec >>> (((nI n).toInt64.toUInt64 &&& Int64.toUInt64 63).toBitVec % 64).toNat).getLsbD i = _
  rw [t_u n hn, BitVec.getLsbD_ushiftRight]
theorem l_i32 (w : Int64) {i : Nat} (hi : i < 32) : bt w.toInt32 i = bl w i := by
  unfold bt bl
  rw [Int64.toBitVec_toInt32, BitVec.getLsbD_signExtend]
  have h2 : i < 64 := by omega
  simp [hi, h2]
theorem l_sx (x : Int32) {i : Nat} (hi : i < 32) : bl x.toInt64 i = bt x i := by
  unfold bt bl
  rw [Int32.toBitVec_toInt64, BitVec.getLsbD_signExtend]
  have h2 : i < 64 := by omega
  simp [hi, h2]
theorem l_shl (w : Int64) {i : Nat} (hi : i < 64) : bl (w <<< ((32 : Int32).toInt64 &&& 63)) i = (decide (32 ≤ i) && bl w (i - 32)) := by
  unfold bl
  rw [Int64.toBitVec_shiftLeft]
  show (w.toBitVec <<< (((nI 32).toInt64 &&& 63).toBitVec.smod 64).toNat).getLsbD i = _
  rw [t_l 32 (by decide), BitVec.getLsbD_shiftLeft]
  rcases Nat.lt_or_ge i 32 with h | h
  · simp [h, Nat.not_le.mpr h]
  · simp [hi, h, Nat.not_lt.mpr h]
theorem l_m32 : ∀ i, i < 64 → bl 4294967295 i = decide (i < 32) := by decide +kernel
theorem lw8_bits (f : Nat → Int32) (k : Nat) {i : Nat} (hi : i < 64) : bl (lw8 f k) i = if i < 32 then bt (f (2 * k + 1)) i else bt (f (2 * k)) (i - 32) := by
  have e : bl (lw8 f k) i = (bl ((f (2 * k)).toInt64 <<< ((32 : Int32).toInt64 &&& 63)) i || (bl (f (2 * k + 1)).toInt64 i && bl 4294967295 i)) := by
    unfold lw8 bl
    rw [Int64.toBitVec_or, BitVec.getLsbD_or, Int64.toBitVec_and, BitVec.getLsbD_and]
  rw [e, l_shl _ hi, l_m32 i hi]
  by_cases h : i < 32
  · rw [if_pos h, l_sx _ h, decide_eq_false (by omega), decide_eq_true h]
    simp
  · rw [if_neg h, l_sx _ (by omega), decide_eq_true (by omega), decide_eq_false h]
    simp
theorem lw8_inj {f g : Nat → Int32} {k : Nat} (h : lw8 f k = lw8 g k) : f (2 * k) = g (2 * k) ∧ f (2 * k + 1) = g (2 * k + 1) := by
  constructor
  · refine b_ext (fun i hi => ?_)
    have h1 := lw8_bits f k (i := i + 32) (by omega)
    have h2 := lw8_bits g k (i := i + 32) (by omega)
    rw [if_neg (by omega), Nat.add_sub_cancel] at h1 h2
    rw [← h1, ← h2, h]
  · refine b_ext (fun i hi => ?_)
    have h1 := lw8_bits f k (i := i) (by omega)
    have h2 := lw8_bits g k (i := i) (by omega)
    rw [if_pos hi] at h1 h2
    rw [← h1, ← h2, h]
theorem lw8_all {f g : Nat → Int32} (h : ∀ k, k < 4 → lw8 f k = lw8 g k) : ∀ j, j < 8 → f j = g j := by
  intro j hj
  have h1 := lw8_inj (h (j / 2) (by omega))
  rcases (show j = 2 * (j / 2) ∨ j = 2 * (j / 2) + 1 by omega) with e | e
  · rw [e]
    exact h1.1
  · rw [e]
    exact h1.2
theorem lw8_congr {f g : Nat → Int32} (h : ∀ j, j < 8 → f j = g j) : ∀ k, k < 4 → lw8 f k = lw8 g k := by
  intro k hk
  unfold lw8
  rw [h (2 * k) (by omega), h (2 * k + 1) (by omega)]
theorem low8 {x y : Int32} (h : ∀ i, i < 8 → bt x i = bt y i) : x &&& 255 = y &&& 255 := by
  refine b_ext (fun i hi => ?_)
  rw [b_and, b_and, b_255]
  by_cases q : i < 8
  · rw [h i q]
  · rw [decide_eq_false q, Bool.and_false, Bool.and_false]
theorem wb_bits (w : Int32) {b i : Nat} (hb : b < 4) (hi : i < 8) : wb w b &&& 255 = us w (nI (24 - 8 * b)) &&& 255 := by
  rcases (show b = 0 ∨ b = 1 ∨ b = 2 ∨ b = 3 by omega) with rfl | rfl | rfl | rfl
  · exact b255 _
  · exact b255 _
  · exact b255 _
  · show w.toInt8.toInt32 &&& 255 = _
    rw [b255]
    refine low8 (fun i hi => ?_)
    show _ = bt ((w.toUInt32 >>> ((nI 0).toUInt32 &&& Int32.toUInt32 31)).toInt32) i
    rw [b_ushr 0 (by decide), Nat.zero_add]
theorem byi_lw8 (f : Nat → Int32) (a : Nat) {b : Nat} (hb : b < 8) : byi (lw8 f a) b = wb (f (2 * a + b / 4)) (b % 4) &&& 255 := by
  rw [wb_bits (i := 0) _ (by omega) (by decide)]
  unfold byi
  refine low8 (fun i hi => ?_)
  rw [l_i32 _ (by omega), l_sshr _ _ (by omega), lw8_bits _ _ (by omega)]
  show _ = bt ((_ : Int32).toUInt32 >>> ((nI (24 - 8 * (b % 4))).toUInt32 &&& Int32.toUInt32 31)).toInt32 i
  rw [b_ushr _ (by omega)]
  by_cases h : b < 4
  · rw [if_neg (by omega), show b / 4 = 0 by omega, show b % 4 = b by omega, Nat.add_zero]
    congr 1
    omega
  · rw [if_pos (by omega), show b / 4 = 1 by omega]
    congr 1
    omega
/-- the two tapes: one byte put -/
theorem put_eq (v : Int64) {n j : Nat} (hn : n ≤ 8) : (v >>> ((nI (8 * (n - 1 - j))).toInt64 &&& 63)).toInt32 &&& 255 = pb v n j &&& 255 := by
  unfold pb
  rw [b255]
  refine low8 (fun i hi => ?_)
  rw [l_i32 _ (by omega), l_i32 _ (by omega), l_sshr _ _ (by omega), l_ushr _ (by omega)]
end
section
/-! the reference's levels -/
def Lw (n : Nat) (L : Nat → Nat → Int32) (t : Nat) (lw : Nat → Int64) : Prop := ∀ x, x < wdl n t → ∀ a, a < 4 → lw (4 * x + a) = lw8 (nv n L t x) a
/-- the leaves' ids -/
def lid (LB : Nat → Nat → Int32) (sz : Nat → Nat) : Nat → Nat → Int32 := fun k => lfh (LB k) (sz k)
theorem low_rel {hs bs : Nat → Int32} {LB : Nat → Nat → Int32} {sz : Nat → Nat} {i : Nat} (h : ∀ y, y < sz i → bs (150 * i + y) = LB i y &&& 255) : ∀ j, j < 0 + 1 + sz i → cat (upd hs 0 ((0 : Int32) &&& 255)) (0 + 1) (fun y => bs (150 * i + y) &&& 255) (sz i) j = lfm (LB i) j &&& 255 := by
  intro j hj
  unfold lfm
  by_cases q : j = 0
  · subst q
    rw [if_pos rfl, cat_lo (by omega), pk_us]
    rfl
  · rw [if_neg q, b255]
    unfold cat
    rw [if_pos (by omega)]
    show bs (150 * i + (j - (0 + 1))) &&& 255 = _
    rw [h _ (by omega), a255]
theorem low_id {LB : Nat → Nat → Int32} {sz : Nat → Nat} {i : Nat} {su : Nat → Int32} (h : ∀ j, j < 8 → su j = hm (lfm (LB i)) (0 + 1 + sz i) j) : ∀ j, j < 8 → su j = lid LB sz i j := by
  intro j hj
  rw [h j hj, show 0 + 1 + sz i = sz i + 1 by omega]
  rfl
theorem low_back {lw : Nat → Int64} {L : Nat → Nat → Int32} {su : Nat → Int32} {i : Nat} (h : ∀ x, x < i → ∀ a, a < 4 → lw (4 * x + a) = lw8 (L x) a) (hs : ∀ j, j < 8 → su j = L i j) : ∀ x, x < i + 1 → ∀ a, a < 4 → catL lw (4 * i) (lw8 su) 4 (4 * x + a) = lw8 (L x) a := by
  intro x hx a ha
  by_cases q : x = i
  · subst q
    rw [catL_in ha]
    exact lw8_congr hs a ha
  · rw [catL_out (by omega)]
    exact h x (by omega) a ha
/-- up: the message of node i -/
theorem up_rel {hs : Nat → Int32} {lw : Nat → Int64} {f g : Nat → Int32} {i : Nat} (h : ∀ a, a < 4 → lw (4 * (2 * i) + a) = lw8 f a) (h2 : ∀ a, a < 4 → lw (4 * (2 * i + 1) + a) = lw8 g a) : ∀ j, j < 0 + 1 + 64 → cat (upd hs 0 ((1 : Int32) &&& 255)) (0 + 1) (fun y => byi (lw (8 * i + y / 8)) (y % 8) &&& 255) 64 j = ndm f g j &&& 255 := by
  intro j hj
  unfold ndm
  by_cases q : j = 0
  · subst q
    rw [if_pos rfl, cat_lo (by omega), pk_us]
    rfl
  · rw [if_neg q]
    unfold cat
    rw [if_pos (by omega)]
    show byi (lw (8 * i + (j - (0 + 1)) / 8)) ((j - (0 + 1)) % 8) &&& 255 = _
    by_cases q2 : j < 33
    · rw [if_pos q2, show 8 * i + (j - (0 + 1)) / 8 = 4 * (2 * i) + (j - 1) / 8 by omega, h _ (by omega), byi_lw8 _ _ (by omega), a255]
      rw [show 2 * ((j - 1) / 8) + (j - (0 + 1)) % 8 / 4 = (j - 1) / 4 by omega, show (j - (0 + 1)) % 8 % 4 = (j - 1) % 4 by omega]
    · rw [if_neg q2, show 8 * i + (j - (0 + 1)) / 8 = 4 * (2 * i + 1) + ((j - 33) / 8) by omega, h2 _ (by omega), byi_lw8 _ _ (by omega), a255]
      rw [show 2 * ((j - 33) / 8) + (j - (0 + 1)) % 8 / 4 = (j - 33) / 4 by omega, show (j - (0 + 1)) % 8 % 4 = (j - 33) % 4 by omega]
theorem up_a {lw : Nat → Int64} {n t i : Nat} {L : Nat → Nat → Int32} {su : Nat → Int32} (hi : i < wdl n t / 2) (h : ∀ x, x < i → ∀ a, a < 4 → lw (4 * x + a) = lw8 (nv n L (t + 1) x) a) (hs : ∀ j, j < 8 → su j = hm (ndm (nv n L t (2 * i)) (nv n L t (2 * i + 1))) (0 + 1 + 64) j) : ∀ x, x < i + 1 → ∀ a, a < 4 → catL lw (4 * i) (lw8 su) 4 (4 * x + a) = lw8 (nv n L (t + 1) x) a := by
  refine low_back h (fun j hj => ?_)
  rw [hs j hj, nv_s, if_pos (by omega)]
  rfl
theorem up_b {lw : Nat → Int64} {n t i m : Nat} {L : Nat → Nat → Int32} {su : Nat → Int32} (h : ∀ x, 2 * i ≤ x → x < m → ∀ a, a < 4 → lw (4 * x + a) = lw8 (nv n L t x) a) : ∀ x, 2 * (i + 1) ≤ x → x < m → ∀ a, a < 4 → catL lw (4 * i) (lw8 su) 4 (4 * x + a) = lw8 (nv n L t x) a := by
  intro x h1 h2 a ha
  rw [catL_out (by omega)]
  exact h x (by omega) h2 a ha
theorem up_even {lw : Nat → Int64} {n t m : Nat} {L : Nat → Nat → Int32} (hm : m = wdl n t) (he : m % 2 ≠ 1) (h : ∀ x, x < m / 2 → ∀ a, a < 4 → lw (4 * x + a) = lw8 (nv n L (t + 1) x) a) : Lw n L (t + 1) lw := by
  intro x hx a ha
  have hx2 : x < (wdl n t + 1) / 2 := hx
  exact h x (by omega) a ha
theorem up_odd {lw : Nat → Int64} {n t m : Nat} {L : Nat → Nat → Int32} (hm : m = wdl n t) (h3 : 1 < m) (he : m % 2 = 1) (h : ∀ x, x < m / 2 → ∀ a, a < 4 → lw (4 * x + a) = lw8 (nv n L (t + 1) x) a) (hb : ∀ x, 2 * (m / 2) ≤ x → x < m → ∀ a, a < 4 → lw (4 * x + a) = lw8 (nv n L t x) a) : Lw n L (t + 1) (catL lw (2 * (m - 1)) (fun a => lw (4 * (m - 1) + a)) 4) := by
  intro x hx a ha
  have hx2 : x < (wdl n t + 1) / 2 := hx
  by_cases q : x = m / 2
  · rw [show 4 * x + a = 2 * (m - 1) + a by omega, catL_in ha]
    show lw (4 * (m - 1) + a) = _
    rw [hb (m - 1) (by omega) (by omega) a ha, nv_s, if_neg (by omega), show 2 * x = m - 1 by omega]
  · rw [catL_out (by omega)]
    exact h x (by omega) a ha
theorem up_ev0 {lw F : Nat → Int64} {n t m k z : Nat} {L : Nat → Nat → Int32} (hik : m % 2 = 1 ∨ k = 0) (hm : m = wdl n t) (he : m % 2 ≠ 1) (h : ∀ x, x < m / 2 → ∀ a, a < 4 → lw (4 * x + a) = lw8 (nv n L (t + 1) x) a) : Lw n L (t + 1) (catL lw z F k) := by
  have e : k = 0 := hik.resolve_left he
  subst e
  rw [catL_0]
  exact up_even hm he h
theorem up_cp {lw : Nat → Int64} {m i : Nat} (h3 : 1 < m) (he : m % 2 = 1) (hi : i < 4) : catL lw (2 * (m - 1)) (fun a => lw (4 * (m - 1) + a)) i (4 * (m - 1) + i) = (fun a => lw (4 * (m - 1) + a)) i := catL_out (by omega)
theorem Lw_root {n : Nat} {L : Nat → Nat → Int32} {lw : Nat → Int64} (hn : 0 < n) (h : Lw n L (rl n) lw) {j : Nat} (hj : j ≤ 3) : lw j = e8 (nv n L (rl n) 0) (nI j) := by
  have h1 := wdl_in hn (rl n)
  rw [Nat.zero_div] at h1
  have h2 := h 0 h1 j (by omega)
  rw [Nat.mul_zero, Nat.zero_add] at h2
  rw [h2]
  exact lw8_e8 hj
theorem xo_ev {a : Nat} (c : a % 2 = 0) : nI a + nI 1 = nI (xo a) := by
  unfold xo
  rw [if_pos c]
  exact nI_add a 1
theorem xo_od {a : Nat} (c : a % 2 ≠ 0) : nI a - nI 1 = nI (xo a) := by
  unfold xo
  rw [if_neg c]
  exact pk_sub (by omega)
theorem nt_dv2 {i t : Nat} (h : i / 2 ^ t < 2 ^ 31) : nI (i / 2 ^ t) / nI 2 = nI (i / 2 ^ (t + 1)) := by rw [pk_div h (by decide) (by decide), nt_pw]
theorem hb_no {n i t : Nat} (c : wdl n t ≤ xo (i / 2 ^ t)) : hbt n i t = false := decide_eq_false (by omega)
theorem hb_yes {n i t : Nat} (c : xo (i / 2 ^ t) < wdl n t) : hbt n i t = true := decide_eq_true c
/-- what climbing found -/
def clm (n i : Nat) (L : Nat → Nat → Int32) (y r : Int32) (cb : Nat) (lw : Nat → Int64) : Prop := (∃ t, t < rl n ∧ hbt n i t = true ∧ y = nI (stc n i t) ∧ r = nI (xo (i / 2 ^ t)) ∧ Lw n L t lw) ∨ (r = -1 ∧ cb = stc n i (rl n) ∧ ∀ t, t < rl n → hbt n i t = true → y ≠ nI (stc n i t))
theorem clm_t {n i s : Nat} {y : Int32} (h : ∀ t, t < s → hbt n i t = true → y ≠ nI (stc n i t)) (c : ¬ nI (stc n i s) = y) : ∀ t, t < s + 1 → hbt n i t = true → y ≠ nI (stc n i t) := by
  intro t ht hb
  rcases Nat.lt_or_eq_of_le (Nat.le_of_lt_succ ht) with q | q
  · exact h t q hb
  · rw [q]
    exact fun e => c e.symm
theorem clm_f {n i s : Nat} {y : Int32} (h : ∀ t, t < s → hbt n i t = true → y ≠ nI (stc n i t)) (c : hbt n i s = false) : ∀ t, t < s + 1 → hbt n i t = true → y ≠ nI (stc n i t) := by
  intro t ht hb
  rcases Nat.lt_or_eq_of_le (Nat.le_of_lt_succ ht) with q | q
  · exact h t q hb
  · rw [q, c] at hb
    cases hb
/-- beyond the root's level nothing is beside -/
theorem hb_hi {n i t : Nat} (hn : n ≤ 100) (hi : i < n) (h : rl n ≤ t) : hbt n i t = false := by
  have h1 := (rl_ok n (by omega)).1
  have h2 : ∀ s, rl n ≤ s → wdl n s ≤ 1 := by
    intro s
    induction s with
    | zero =>
      intro hs
      have e : rl n = 0 := by omega
      rw [e] at h1
      exact h1
    | succ s ih =>
      intro hs
      rcases Nat.lt_or_eq_of_le hs with q | q
      · have h3 := ih (by omega)
        show (wdl n s + 1) / 2 ≤ 1
        omega
      · rw [← q]
        exact h1
  have h4 := h2 t h
  have h5 := wdl_in hi t
  refine hb_no ?_
  have h6 : i / 2 ^ t = 0 := Nat.lt_one_iff.mp (Nat.lt_of_lt_of_le h5 h4)
  rw [h6]
  exact h4
theorem stc_rl {n i : Nat} (hn : n ≤ 100) (hi : i < n) : ∀ t, rl n ≤ t → stc n i t = stc n i (rl n) := by
  intro t
  induction t with
  | zero =>
    intro h
    rw [show rl n = 0 by omega]
  | succ t ih =>
    intro h
    rcases Nat.lt_or_eq_of_le h with q | q
    · rw [stc_f (hb_hi hn hi (by omega))]
      exact ih (by omega)
    · rw [q]
/-- all bytes of all leaves -/
def tot (f : Nat → Nat) : Nat → Nat
  | 0 => 0
  | k + 1 => tot f k + f k
theorem tot_le {f : Nat → Nat} {n : Nat} (h : ∀ k, k < n → f k ≤ 150) : tot f n ≤ 150 * n := by
  induction n with
  | zero => exact Nat.le_refl _
  | succ n ih =>
    have h1 := ih (fun k hk => h k (by omega))
    have h2 := h n (by omega)
    show tot f n + f n ≤ _
    omega
theorem rt_no {x : Int32} {n : Nat} (c1 : ¬ x < 0) (c2 : ¬ 3 < x) (c3 : n ≠ 0) : ¬ (n = 0 ∨ x < 0 ∨ 3 < x) := by
  intro h
  rcases h with h | h | h
  · exact c3 h
  · exact c1 h
  · exact c2 h
theorem clm_way {n i : Nat} {L : Nat → Nat → Int32} {r : Int32} {cb : Nat} {lw : Nat → Int64} (h : clm n i L (-1) r cb lw) : cb = stc n i (rl n) := by
  rcases h with ⟨t, ht, hb, hy, -⟩ | h
  · have h2 := stc_le n i t
    have h3 := rl_lt n
    exact absurd (nI_pos' (n := stc n i t) (by omega)) (by rw [← hy]; decide)
  · exact h.2.1
theorem clm_ge {n i : Nat} {L : Nat → Nat → Int32} {y r : Int32} {cb : Nat} {lw : Nat → Int64} (h : clm n i L y r cb lw) (c : 0 ≤ r) : ∃ t, t < rl n ∧ hbt n i t = true ∧ y = nI (stc n i t) ∧ r = nI (xo (i / 2 ^ t)) ∧ Lw n L t lw := by
  rcases h with h | h
  · exact h
  · rw [h.1] at c
    exact absurd c (by decide)
theorem clm_lt {n i : Nat} {L : Nat → Nat → Int32} {y r : Int32} {cb : Nat} {lw : Nat → Int64} (hn : n ≤ 100) (hi : i < n) (h : clm n i L y r cb lw) (c : ¬ 0 ≤ r) : ∀ t, t < rl n → hbt n i t = true → y ≠ nI (stc n i t) := by
  rcases h with ⟨t, ht, hb, hy, hr, -⟩ | h
  · have h1 : xo (i / 2 ^ t) < wdl n t := of_decide_eq_true hb
    have h2 := wdl_le n t
    exact absurd (by rw [hr]; exact nI_pos' (by omega)) c
  · exact h.2.2
theorem bes_e {n i t J : Nat} (hJ : J < 2 ^ 31) (ht : t < rl n) (h : nI J = nI (stc n i t)) : stc n i t = J := by
  have h1 := stc_le n i t
  have h2 := rl_lt n
  exact ((nI_eq hJ (by omega)).mp h).symm
/-- isLeft and beside, as the reference answers -/
def non (n : Nat) (x y : Int32) : Prop := ∀ i J t : Nat, x = nI i → y = nI J → i < n → J < 2 ^ 31 → t < rl n → hbt n i t = true → stc n i t ≠ J
def ism (n : Nat) (x y r : Int32) : Prop := (∃ i J t : Nat, x = nI i ∧ y = nI J ∧ i < n ∧ J < 2 ^ 31 ∧ t < rl n ∧ hbt n i t = true ∧ stc n i t = J ∧ r = nI (i / 2 ^ t % 2)) ∨ (r = -1 ∧ non n x y)
def bsm (n : Nat) (L : Nat → Nat → Int32) (x y z : Int32) (r : Int64) : Prop := (∃ i J t : Nat, x = nI i ∧ y = nI J ∧ i < n ∧ J < 2 ^ 31 ∧ t < rl n ∧ hbt n i t = true ∧ stc n i t = J ∧ r = e8 (nv n L t (xo (i / 2 ^ t))) z) ∨ (r = 0 ∧ ((z < 0 ∨ ¬ z ≤ 3) ∨ non n x y))
theorem non_a {n : Nat} {x y : Int32} (hn : n < 2 ^ 31) (c : lf x n = false) : non n x y := by
  intro i J t hx hy hi hJ ht hb
  subst hx
  rw [lf_n hn hi] at c
  cases c
theorem non_b {n : Nat} {x y : Int32} (c : y < 0) : non n x y := by
  intro i J t hx hy hi hJ ht hb
  subst hy
  exact absurd c (nI_pos hJ)
theorem non_n {n i J : Nat} (hn : n ≤ 100) (hi : i < n) (hJ : J < 2 ^ 31) (h : ∀ t, t < rl n → hbt n i t = true → nI J ≠ nI (stc n i t)) : non n (nI i) (nI J) := by
  intro i' J' t hx hy hi' hJ' ht hb e
  have e1 : i = i' := (nI_eq (by omega) (by omega)).mp hx
  have e2 : J = J' := (nI_eq hJ hJ').mp hy
  subst e1
  subst e2
  exact h t ht hb (by rw [e])
theorem nlt0 {y : Int32} (c : ¬ 0 ≤ y) : y < 0 := Int32.not_le.mp c
theorem il_1 {a : Nat} (c : xo a % 2 = 0) : (1 : Int32) = nI (a % 2) := by
  have h : a % 2 = 1 := by
    unfold xo at c
    split at c <;> omega
  rw [h]
  rfl
theorem il_0 {a : Nat} (c : xo a % 2 ≠ 0) : (0 : Int32) = nI (a % 2) := by
  have h : a % 2 = 0 := by
    unfold xo at c
    split at c <;> omega
  rw [h]
  rfl
end
section
/-! the reference's public methods: pure rows -/
def sn (n i : Nat) : Int32 := nI n - nI (i + 1)
theorem sn_lt {n i : Nat} (hn : n ≤ 8) (h : i ≤ n) (c : sn n i < 0) : i = n := by
  have key : ∀ n, n < 9 → ∀ i, i < n → ¬ sn n i < 0 := by decide
  rcases Nat.lt_or_ge i n with q | q
  · exact absurd c (key n (by omega) i q)
  · omega
theorem sn_nlt {n i : Nat} (hn : n ≤ 8) (h : i ≤ n) (c : ¬ sn n i < 0) : i < n := by
  have key : ∀ n, n < 9 → sn n n < 0 := by decide
  rcases Nat.lt_or_ge i n with q | q
  · exact q
  · have e : i = n := by omega
    subst e
    exact absurd (key i (by omega)) c
theorem sn_n {n i : Nat} (hn : n ≤ 8) (h : i < n) : sn n i = nI (n - 1 - i) := by
  have key : ∀ n, n < 9 → ∀ i, i < n → sn n i = nI (n - 1 - i) := by decide
  exact key n (by omega) i h
theorem sn_s {n i : Nat} (hn : n ≤ 8) (h : i < n) : nI (n - 1 - i) + Int32.ofInt (-1) = sn n (i + 1) := by
  have key : ∀ n, n < 9 → ∀ i, i < n → nI (n - 1 - i) + Int32.ofInt (-1) = sn n (i + 1) := by decide
  exact key n (by omega) i h
theorem hash_m {ms T su : Nat → Int32} {tl k : Nat} (hk : k ≤ 3) (h : ∀ j, j < 8 → su j = hm (cat ms 0 (fun j => (T j).toInt8.toInt32) tl) (0 + tl) j) : lw8 su k = e8 (hsh T tl) (nI k) := by
  rw [lw8_e8 hk]
  refine e8_congr (fun j hj => ?_) _
  rw [h j hj, Nat.zero_add]
  refine hm_congr (fun j hj => ?_) j hj
  unfold cat
  rw [if_pos (by omega)]
  rfl
theorem mine_m {T su : Nat → Int32} {tl : Nat} (h : ∀ j, j < 8 → su j = hm (cat (fun _ => (0 : Int32).toInt8.toInt32) (0 + 1) (fun j => (T j).toInt8.toInt32) tl) (0 + 1 + tl) j) : ∀ j, j < 8 → su j = lfh T tl j := by
  intro j hj
  rw [h j hj, show 0 + 1 + tl = tl + 1 by omega]
  refine hm_congr (fun j hj => ?_) j hj
  unfold lfm cat
  by_cases q : j = 0
  · subst q
    rw [if_pos rfl, if_neg (by omega)]
  · rw [if_neg q, if_pos (by omega)]
theorem one_rel {hs : Nat → Int32} : ∀ j, j < 0 + 1 → upd hs 0 ((0 : Int32) &&& 255) j = (0 : Int32).toInt8.toInt32 &&& 255 := by
  intro j hj
  have e : j = 0 := by omega
  subst e
  rw [pk_us]
  rfl
theorem catL_s0 (ms f : Nat → Int64) (k : Nat) {x : Int64} (hx : x = f k) : vp_updL (catL ms 0 f k) k x = catL ms 0 f (k + 1) := by
  have h := catL_s ms 0 f k hx
  rw [Nat.zero_add] at h
  exact h
theorem lay_up (f : Nat → Nat) (i x : Nat) : va_up f i x i = x := va_up_self f i x
/-- what goes up from F, level by level -/
def pvn (n i : Nat) (L : Nat → Nat → Int32) (F : Nat → Int32) : Nat → Nat → Int32
  | 0 => F
  | t + 1 => if hbt n i t then (if i / 2 ^ t % 2 = 1 then ndh (nv n L t (xo (i / 2 ^ t))) (pvn n i L F t) else ndh (pvn n i L F t) (nv n L t (xo (i / 2 ^ t)))) else pvn n i L F t
theorem pvn_f {n i t : Nat} {L : Nat → Nat → Int32} {F : Nat → Int32} (h : hbt n i t = false) : pvn n i L F (t + 1) = pvn n i L F t := by
  show (if _ then _ else _) = _
  rw [if_neg (by rw [h]; exact Bool.false_ne_true)]
theorem pvn_le {n i : Nat} {L : Nat → Nat → Int32} {F : Nat → Int32} : ∀ b a, a ≤ b → stc n i a = stc n i b → pvn n i L F a = pvn n i L F b := by
  intro b
  induction b with
  | zero =>
    intro a h _
    rw [show a = 0 by omega]
  | succ b ih =>
    intro a h e
    rcases Nat.lt_or_eq_of_le h with q | q
    · have h1 := stc_mono n i (a := a) (b := b) (by omega)
      cases hb : hbt n i b with
      | true =>
        rw [stc_t hb] at e
        omega
      | false =>
        rw [stc_f hb] at e
        rw [pvn_f hb]
        exact ih a (by omega) e
    · rw [q]
theorem pvn_stc {n i : Nat} {L : Nat → Nat → Int32} {F : Nat → Int32} {a b : Nat} (e : stc n i a = stc n i b) : pvn n i L F a = pvn n i L F b := by
  rcases Nat.le_total a b with h | h
  · exact pvn_le b a h e
  · exact (pvn_le a b h e.symm).symm
/-- a byte of the two ids, put together -/
def pg (left : Bool) (x y : Nat → Int64) (b : Nat) : Int32 := byi (if decide (b < 32) = left then x (b % 32 / 8) else y (b % 32 / 8)) (b % 8) &&& 255
theorem pg_x {left : Bool} {x y : Nat → Int64} {b : Nat} (h : decide (b < 32) = left) : byi (x (b % 32 / 8)) (b % 8) &&& 255 = pg left x y b := by
  unfold pg
  rw [if_pos h]
theorem pg_y {left : Bool} {x y : Nat → Int64} {b : Nat} (h : decide (b < 32) ≠ left) : byi (y (b % 32 / 8)) (b % 8) &&& 255 = pg left x y b := by
  unfold pg
  rw [if_neg h]
theorem pg_rel {hs P Q f g : Nat → Int32} {x y : Nat → Int64} {left : Bool} (hx : ∀ a, a < 4 → x a = lw8 f a) (hy : ∀ a, a < 4 → y a = lw8 g a) (h1 : left = true → P = f ∧ Q = g) (h2 : left = false → P = g ∧ Q = f) : ∀ j, j < 0 + 1 + 64 → cat (upd hs 0 ((1 : Int32) &&& 255)) (0 + 1) (pg left x y) 64 j = ndm P Q j &&& 255 := by
  intro j hj
  unfold ndm
  by_cases q : j = 0
  · subst q
    rw [if_pos rfl, cat_lo (by omega), pk_us]
    rfl
  · rw [if_neg q]
    unfold cat
    rw [if_pos (by omega)]
    have key : ∀ (z : Nat → Int64) (w : Nat → Int32), (∀ a, a < 4 → z a = lw8 w a) → byi (z ((j - (0 + 1)) % 32 / 8)) ((j - (0 + 1)) % 8) &&& 255 = wb (w ((j - 1) % 32 / 4)) ((j - 1) % 4) &&& 255 := by
      intro z w hz
      rw [hz _ (by omega), byi_lw8 _ _ (by omega), a255, show 2 * ((j - (0 + 1)) % 32 / 8) + (j - (0 + 1)) % 8 / 4 = (j - 1) % 32 / 4 by omega, show (j - (0 + 1)) % 8 % 4 = (j - 1) % 4 by omega]
    unfold pg
    by_cases q2 : j < 33
    · rw [if_pos q2, decide_eq_true (by omega)]
      have e1 : (j - 1) % 32 / 4 = (j - 1) / 4 := by omega
      cases left with
      | true =>
        rw [if_pos rfl, key x f hx, (h1 rfl).1, e1]
      | false =>
        rw [if_neg (by decide), key y g hy, (h2 rfl).1, e1]
    · rw [if_neg q2, decide_eq_false (by omega)]
      have e1 : (j - 1) % 32 / 4 = (j - 33) / 4 := by omega
      have e2 : (j - 1) % 4 = (j - 33) % 4 := by omega
      cases left with
      | true =>
        rw [if_neg (by decide), key y g hy, (h1 rfl).2, e1, e2]
      | false =>
        rw [if_pos rfl, key x f hx, (h2 rfl).2, e1, e2]
theorem pv_next {n i t j : Nat} {L : Nat → Nat → Int32} {F su P Q : Nat → Int32} (hb : hbt n i t = true) (hj : stc n i t = j) (hsu : ∀ j, j < 8 → su j = hm (ndm P Q) (0 + 1 + 64) j) (h1 : i / 2 ^ t % 2 = 1 → P = nv n L t (xo (i / 2 ^ t)) ∧ Q = pvn n i L F t) (h2 : i / 2 ^ t % 2 ≠ 1 → P = pvn n i L F t ∧ Q = nv n L t (xo (i / 2 ^ t))) : ∀ t', t' ≤ rl n → stc n i t' = j + 1 → ∀ a, a < 4 → lw8 su a = lw8 (pvn n i L F t') a := by
  intro t' _ ht' a ha
  have e : pvn n i L F t' = pvn n i L F (t + 1) := pvn_stc (by rw [ht', stc_t hb, hj])
  rw [e]
  refine lw8_congr (fun j hj => ?_) a ha
  rw [hsu j hj]
  show _ = (if _ then _ else _ : Nat → Int32) j
  rw [if_pos hb]
  by_cases c : i / 2 ^ t % 2 = 1
  · rw [if_pos c, (h1 c).1, (h1 c).2]
    rfl
  · rw [if_neg c, (h2 c).1, (h2 c).2]
    rfl
/-- longs the same -/
def sml (f g : Nat → Int64) : Nat → Bool
  | 0 => true
  | j + 1 => sml f g j && decide (f j = g j)
theorem sml_iff (f g : Nat → Int64) (n : Nat) : sml f g n = true ↔ ∀ j, j < n → f j = g j := by
  induction n with
  | zero => exact ⟨fun _ j hj => absurd hj (Nat.not_lt_zero j), fun _ => rfl⟩
  | succ n ih =>
    show (sml f g n && decide (f n = g n)) = true ↔ _
    rw [Bool.and_eq_true, ih, decide_eq_true_eq]
    constructor
    · intro h j hj
      rcases Nat.lt_or_eq_of_le (Nat.le_of_lt_succ hj) with q | q
      · exact h.1 j q
      · rw [q]
        exact h.2
    · intro h
      exact ⟨fun j hj => h j (by omega), h n (by omega)⟩
theorem lc_0 {x y : Int64} (c : lg_cmp x y = 0) : x = y := by
  unfold lg_cmp at c
  by_cases h : x > y
  · rw [if_pos h] at c
    exact absurd c (by decide)
  · rw [if_neg h] at c
    by_cases h2 : x = y
    · exact h2
    · rw [if_neg h2] at c
      exact absurd c (by decide)
theorem lc_n {x y : Int64} (c : ¬ lg_cmp x y = 0) : x ≠ y := by
  intro e
  subst e
  refine c ?_
  unfold lg_cmp
  rw [if_neg (fun h => Int64.lt_irrefl h), if_pos rfl]
theorem sml_1 {f g : Nat → Int64} {k : Nat} (h : sml f g k = true) (c : f k = g k) : (1 : Int32) = bz (sml f g (k + 1)) := by
  have e : sml f g (k + 1) = true := by
    show (sml f g k && decide (f k = g k)) = true
    rw [h, decide_eq_true c]
    rfl
  rw [e]
  rfl
theorem sml_a {f g : Nat → Int64} {k : Nat} (h : sml f g k = false) : (0 : Int32) = bz (sml f g (k + 1)) := by
  have e : sml f g (k + 1) = false := by
    show (sml f g k && decide (f k = g k)) = false
    rw [h]
    rfl
  rw [e]
  rfl
theorem sml_b {f g : Nat → Int64} {k : Nat} (c : f k ≠ g k) : (0 : Int32) = bz (sml f g (k + 1)) := by
  have e : sml f g (k + 1) = false := by
    show (sml f g k && decide (f k = g k)) = false
    rw [decide_eq_false c, Bool.and_false]
  rw [e]
  rfl
theorem sml_sm {f g : Nat → Int32} {mi R : Nat → Int64} (h1 : ∀ a, a < 4 → mi a = lw8 f a) (h2 : ∀ a, a < 4 → R a = lw8 g a) : sml mi R 4 = sm f g 8 := by
  cases h : sm f g 8 with
  | true =>
    refine (sml_iff _ _ _).mpr (fun a ha => ?_)
    rw [h1 a ha, h2 a ha]
    exact lw8_congr ((sm_iff _ _ _).mp h) a ha
  | false =>
    cases q : sml mi R 4 with
    | false => rfl
    | true =>
      have h3 := (sml_iff _ _ _).mp q
      have h4 := (sm_iff f g 8).mpr (lw8_all (fun a ha => by rw [← h1 a ha, ← h2 a ha]; exact h3 a ha))
      rw [h] at h4
      cases h4
theorem cnt_eq (n : Nat) : (if 0 < n then 1 else 0) + rl n = if n < 1 then 0 else rl n + 1 := by
  rcases Nat.eq_zero_or_pos n with h | h
  · subst h
    rfl
  · rw [if_pos h, if_neg (by omega)]
    omega
theorem catL_in0 {ms f : Nat → Int64} {k a : Nat} (h : a < k) : catL ms 0 f k a = f a := by
  have h1 := catL_in (ms := ms) (n := 0) (f := f) h
  rw [Nat.zero_add] at h1
  exact h1
theorem pv_init {n i t a : Nat} {L : Nat → Nat → Int32} {mi : Nat → Int64} {su F : Nat → Int32} (h : ∀ j, j < 8 → su j = F j) (ht : stc n i t = 0) (ha : a < 4) : catL mi 0 (lw8 su) 4 a = lw8 (pvn n i L F t) a := by
  rw [catL_in0 ha, pvn_stc (b := 0) ht]
  exact lw8_congr h a ha
theorem clm_fd {n i j : Nat} {L : Nat → Nat → Int32} {r : Int32} {cb : Nat} {lw : Nat → Int64} (hn : n ≤ 100) (hi : i < n) (hj : j < stc n i (rl n)) (h : clm n i L (nI j) r cb lw) : ∃ t, t < rl n ∧ hbt n i t = true ∧ stc n i t = j ∧ r = nI (xo (i / 2 ^ t)) ∧ Lw n L t lw := by
  have h1 := stc_le n i (rl n)
  have h2 := rl_lt n
  rcases h with ⟨t, ht, hb, hy, hr, hL⟩ | h
  · exact ⟨t, ht, hb, bes_e (by omega) ht hy, hr, hL⟩
  · obtain ⟨t, ht, hb, hs⟩ := stc_find n i j (rl n) hj
    exact absurd (by rw [hs]) (h.2.2 t ht hb)
theorem xo_p1 {a : Nat} (c : xo a % 2 = 0) : a % 2 = 1 := by
  unfold xo at c
  split at c <;> omega
theorem xo_p0 {a : Nat} (c : xo a % 2 ≠ 0) : ¬ a % 2 = 1 := by
  unfold xo at c
  split at c <;> omega
end
section
/-! the reference's constants: roots of primes, bit by bit -/
def u32 (x : Int64) : Int64 := (x.toUInt64 >>> ((32 : Int32).toInt64.toUInt64 &&& Int64.toUInt64 63)).toInt64
def A_a (t : Int64) : Int64 := t >>> ((32 : Int32).toInt64 &&& 63)
def A_b (t : Int64) : Int64 := t &&& 4294967295
def A_q (t : Int64) : Int64 := A_b t * A_b t
def A_l (t : Int64) : Int64 := A_q t &&& 4294967295
def A_n (t : Int64) : Int64 := u32 (A_q t) + (((2 * A_a t) * A_b t) &&& 4294967295)
def A_t (t : Int64) : Int64 := (A_a t * A_a t + u32 ((2 * A_a t) * A_b t)) + u32 (A_n t)
def A_m (t : Int64) : Int64 := A_n t &&& 4294967295
def B_x (t : Int64) : Int64 := A_l t * A_b t
def B_y (t : Int64) : Int64 := A_m t * A_b t
def B_z (t : Int64) : Int64 := A_t t * A_b t
def B_0 (t : Int64) : Int64 := B_x t &&& 4294967295
def B_p (t : Int64) : Int64 := (u32 (B_x t) + (B_y t &&& 4294967295)) + A_l t * A_a t
def B_q (t : Int64) : Int64 := ((u32 (B_y t) + B_z t) + A_m t * A_a t) + u32 (B_p t)
def B_3 (t : Int64) : Int64 := A_t t * A_a t + u32 (B_q t)
def B_1 (t : Int64) : Int64 := B_p t &&& 4294967295
def B_2 (t : Int64) : Int64 := B_q t &&& 4294967295
def isAb (t : Int64) (p k : Int32) : Bool :=
  if k = 2 then (if 0 < lg_cmp (A_t t) p.toInt64 then true else if lg_cmp (A_t t) p.toInt64 = 0 then (if 0 < lg_cmp (A_m t) 0 then true else if lg_cmp (A_l t) 0 ≤ 0 then false else true) else false)
  else (if 0 < lg_cmp (B_3 t) p.toInt64 then true else if lg_cmp (B_3 t) p.toInt64 = 0 then (if 0 < lg_cmp (B_2 t) 0 then true else if 0 < lg_cmp (B_1 t) 0 then true else if lg_cmp (B_0 t) 0 ≤ 0 then false else true) else false)
def mr (p k : Int32) : Nat → Int64
  | 0 => 0
  | i + 1 => if isAb (mr p k i ||| ((1 : Int64) <<< ((nI (35 - i)).toInt64 &&& 63))) p k then mr p k i else mr p k i ||| ((1 : Int64) <<< ((nI (35 - i)).toInt64 &&& 63))
def mt (p k : Int32) (i : Nat) : Int64 := mr p k i ||| ((1 : Int64) <<< ((nI (35 - i)).toInt64 &&& 63))
theorem mr_t {p k : Int32} {i : Nat} (c : isAb (mt p k i) p k = true) : mr p k (i + 1) = mr p k i := if_pos c
theorem mr_f {p k : Int32} {i : Nat} (c : isAb (mt p k i) p k = false) : mr p k (i + 1) = mt p k i := if_neg (by rw [show isAb (mr p k i ||| ((1 : Int64) <<< ((nI (35 - i)).toInt64 &&& 63))) p k = false from c]; exact Bool.false_ne_true)
def sr (i : Nat) : Int32 := 35 - nI i
theorem sr_lt {i : Nat} (h : i ≤ 36) (c : sr i < 0) : i = 36 := by
  have key : ∀ i, i < 36 → ¬ sr i < 0 := by decide
  rcases Nat.lt_or_ge i 36 with q | q
  · exact absurd c (key i q)
  · omega
theorem sr_nlt {i : Nat} (h : i ≤ 36) (c : ¬ sr i < 0) : i < 36 := by
  rcases Nat.lt_or_ge i 36 with q | q
  · exact q
  · have e : i = 36 := by omega
    subst e
    exact absurd (by decide) c
theorem sr_n {i : Nat} (h : i < 36) : sr i = nI (35 - i) := by
  have key : ∀ i, i < 36 → sr i = nI (35 - i) := by decide
  exact key i h
theorem sr_s {i : Nat} (h : i < 36) : nI (35 - i) + Int32.ofInt (-1) = sr (i + 1) := by
  have key : ∀ i, i < 36 → nI (35 - i) + Int32.ofInt (-1) = sr (i + 1) := by decide
  exact key i h
/-- the bits of R, one by one -/
def cst (R i : Nat) : Nat := R / 2 ^ (36 - i) * 2 ^ (36 - i)
def chk (p k : Int32) (R : Nat) : Bool := (List.range 36).all fun i => isAb (lN (cst R i + 2 ^ (35 - i))) p k == decide (R / 2 ^ (35 - i) % 2 = 0)
theorem u_tn {n : Nat} (h : n < 2 ^ 64) : (UInt64.ofNat n).toNat = n := by
  rw [UInt64.toNat_ofNat']
  exact Nat.mod_eq_of_lt h
theorem g_or {k p a b : Nat} (hp : 2 ^ k = p) (ha : a < p) (h : b * p + a < 2 ^ 64) : lN (b * p) ||| lN a = lN (b * p + a) := by
  subst hp
  have h1 : b * 2 ^ k ||| a = b * 2 ^ k + a := by rw [← Nat.shiftLeft_eq, Nat.shiftLeft_add_eq_or_of_lt ha]
  have h3 : UInt64.ofNat (b * 2 ^ k) ||| UInt64.ofNat a = UInt64.ofNat (b * 2 ^ k + a) := UInt64.toNat_inj.mp (by rw [UInt64.toNat_or, u_tn (by omega), u_tn (by omega), u_tn h, h1])
  have h2 := congrArg UInt64.toInt64 h3
  exact h2
theorem one_shl : ∀ s, s < 36 → (1 : Int64) <<< ((nI s).toInt64 &&& 63) = lN (2 ^ s) := by decide +kernel
theorem mr_cst {p k : Int32} {R : Nat} (hR : R < 2 ^ 36) (h : chk p k R = true) : ∀ i, i ≤ 36 → mr p k i = lN (cst R i) := by
  intro i
  induction i with
  | zero =>
    intro _
    unfold cst
    rw [show R / 2 ^ (36 - 0) = 0 from Nat.div_eq_of_lt hR, Nat.zero_mul]
    rfl
  | succ i ih =>
    intro hi
    have h0 := ih (by omega)
    have hs : 36 - i = (35 - i) + 1 := by omega
    have hp : (2 : Nat) ^ (36 - i) = 2 ^ (35 - i) * 2 := by rw [hs, Nat.pow_succ]
    have hpos : 0 < 2 ^ (35 - i) := Nat.two_pow_pos _
    have hd : R / 2 ^ (36 - i) = R / 2 ^ (35 - i) / 2 := by rw [hp, ← Nat.div_div_eq_div_mul]
    have hle : R / 2 ^ (36 - i) * 2 ^ (36 - i) ≤ R := Nat.div_mul_le_self _ _
    have hb : (2 : Nat) ^ (36 - i) ≤ 2 ^ 36 := Nat.pow_le_pow_right (by decide) (by omega)
    have hmt : mt p k i = lN (cst R i + 2 ^ (35 - i)) := by
      unfold mt
      rw [h0, one_shl _ (by omega)]
      unfold cst
      exact g_or (k := 36 - i) rfl (by omega) (by omega)
    have hc := List.all_eq_true.mp h i (List.mem_range.mpr (by omega))
    rw [← hmt, beq_iff_eq] at hc
    have e1 : cst R (i + 1) = R / 2 ^ (35 - i) * 2 ^ (35 - i) := by
      unfold cst
      rw [show 36 - (i + 1) = 35 - i by omega]
    have e0 : cst R i = R / 2 ^ (35 - i) / 2 * 2 * 2 ^ (35 - i) := by
      unfold cst
      rw [hd, hp, Nat.mul_assoc, Nat.mul_comm (2 ^ (35 - i)) 2]
    by_cases q : R / 2 ^ (35 - i) % 2 = 0
    · rw [decide_eq_true q] at hc
      rw [mr_t hc, h0, e0, e1, show R / 2 ^ (35 - i) / 2 * 2 = R / 2 ^ (35 - i) by omega]
    · rw [decide_eq_false q] at hc
      have e2 : R / 2 ^ (35 - i) * 2 ^ (35 - i) = R / 2 ^ (35 - i) / 2 * 2 * 2 ^ (35 - i) + 2 ^ (35 - i) := by
        have e3 : R / 2 ^ (35 - i) = R / 2 ^ (35 - i) / 2 * 2 + 1 := by omega
        have e4 : (R / 2 ^ (35 - i) / 2 * 2 + 1) * 2 ^ (35 - i) = R / 2 ^ (35 - i) / 2 * 2 * 2 ^ (35 - i) + 2 ^ (35 - i) := Nat.succ_mul _ _
        rw [← e4, ← e3]
      rw [mr_f hc, hmt, e0, e1, e2]
theorem mr_chk {p k : Int32} {R : Nat} (hR : R < 2 ^ 36) (h : chk p k R = true) : mr p k 36 = lN R := by
  rw [mr_cst hR h 36 (Nat.le_refl _)]
  unfold cst
  rw [Nat.sub_self, Nat.pow_zero, Nat.div_one, Nat.mul_one]
/-- the first primes, and their roots -/
def prl (j : Nat) : Nat := ([2, 3, 5, 7, 11, 13, 17, 19, 23, 29, 31, 37, 41, 43, 47, 53, 59, 61, 67, 71, 73, 79, 83, 89, 97, 101, 103, 107, 109, 113, 127, 131, 137, 139, 149, 151, 157, 163, 167, 173, 179, 181, 191, 193, 197, 199, 211, 223, 227, 229, 233, 239, 241, 251, 257, 263, 269, 271, 277, 281, 283, 293, 307, 311] : List Nat).getD j 0
def R3 (j : Nat) : Nat := ([5411319704, 6194414737, 7344290767, 8215976869, 9551921755, 10098905585, 11043570340, 11460697813, 12214315672, 13195500289, 13492127166, 14311783875, 14809980276, 15046980094, 15499789991, 16133124468, 16720292289, 16907126662, 17444216262, 17784676812, 17950125167, 18429019306, 18734950876, 19175934170, 19734090066, 20001703533, 20132865992, 20390182855, 20516441075, 20764397895, 21588763473, 21813078375, 22141143685, 22248366392, 22769593852, 22871018771, 23170020180, 23461497531, 23651862830, 23931792517, 24205322401, 24295138891, 24734567280, 24820601251, 24990902297, 25075189284, 25569408389, 26045227120, 26200031510, 26276752392, 26428864332, 26653801653, 26727943347, 27092625994, 27306805839, 27517677555, 27725365998, 27793908591, 27997534228, 28131656200, 28198240250, 28526537963, 28973835255, 29099129074] : List Nat).getD j 0
def R2 (j : Nat) : Nat := ([6074000999, 7439101573, 9603838834, 11363415354, 14244795007, 15485724812, 17708603819, 18721328409] : List Nat).getD j 0
def ipr (p : Nat) : Nat → Bool
  | 0 => true
  | k + 1 => ipr p k && decide (p % (k + 2) ≠ 0)
def sqf (p : Nat) : Nat := ((List.range 18).filter (fun j => (j + 2) * (j + 2) ≤ p)).length
def fnd : Nat → Nat
  | 0 => 0
  | k + 1 => fnd k + (if ipr (k + 2) (sqf (k + 2)) then 1 else 0)
theorem sq_ok : ∀ p, p < 320 → p < (sqf p + 2) * (sqf p + 2) ∧ sqf p ≤ 17 ∧ ∀ j, j < sqf p → (j + 2) * (j + 2) ≤ p := by decide +kernel
theorem sq_at {p j : Nat} (hp : p < 320) (h : j ≤ sqf p) (c : p < (j + 2) * (j + 2)) : j = sqf p := by
  rcases Nat.lt_or_eq_of_le h with q | q
  · exact absurd ((sq_ok p hp).2.2 j q) (Nat.not_le.mpr c)
  · exact q
theorem sq_nat {p j : Nat} (hp : p < 320) (h : j ≤ sqf p) (c : (j + 2) * (j + 2) ≤ p) : j < sqf p := by
  rcases Nat.lt_or_eq_of_le h with q | q
  · exact q
  · rw [q] at c
    exact absurd c (Nat.not_le.mpr (sq_ok p hp).1)
theorem ipr_1 {p k : Nat} (h : ipr p k = true) (c : p % (k + 2) ≠ 0) : (1 : Int32) = bz (ipr p (k + 1)) := by
  have e : ipr p (k + 1) = true := by
    show (ipr p k && decide (p % (k + 2) ≠ 0)) = true
    rw [h, decide_eq_true c]
    rfl
  rw [e]
  rfl
theorem ipr_a {p k : Nat} (h : ipr p k = false) : (0 : Int32) = bz (ipr p (k + 1)) := by
  have e : ipr p (k + 1) = false := by
    show (ipr p k && decide (p % (k + 2) ≠ 0)) = false
    rw [h]
    rfl
  rw [e]
  rfl
theorem ipr_b {p k : Nat} (c : p % (k + 2) = 0) : (0 : Int32) = bz (ipr p (k + 1)) := by
  have e : ipr p (k + 1) = false := by
    show (ipr p k && decide (p % (k + 2) ≠ 0)) = false
    rw [decide_eq_false (fun h => h c), Bool.and_false]
  rw [e]
  rfl
theorem fnd_t {i : Nat} (h : ipr (i + 2) (sqf (i + 2)) = true) : fnd (i + 1) = fnd i + 1 := by
  show fnd i + _ = _
  rw [if_pos h]
theorem fnd_f {i : Nat} (h : ipr (i + 2) (sqf (i + 2)) = false) : fnd (i + 1) = fnd i := by
  show fnd i + _ = _
  rw [if_neg (by rw [h]; exact Bool.false_ne_true)]
  rfl
set_option maxRecDepth 20000 in
theorem fnd_ok : ∀ i, i < 310 → fnd i < 64 ∧ (ipr (i + 2) (sqf (i + 2)) = true → prl (fnd i) = i + 2) := by decide +kernel
theorem fnd_end : fnd 310 = 64 := by decide +kernel
theorem fnd_at {i : Nat} (h : i ≤ 310) (c : 64 ≤ fnd i) : i = 310 := by
  rcases Nat.lt_or_eq_of_le h with q | q
  · have h1 := (fnd_ok i q).1
    omega
  · exact q
theorem fnd_le {i : Nat} (h : i ≤ 310) : fnd i ≤ 64 := by
  rcases Nat.lt_or_eq_of_le h with q | q
  · have h1 := (fnd_ok i q).1
    omega
  · rw [q, fnd_end]
    exact Nat.le_refl _
set_option maxRecDepth 20000 in
theorem r3_chk : ∀ j, j < 64 → chk (nI (prl j)) 3 (R3 j) = true ∧ R3 j < 2 ^ 36 ∧ (lN (R3 j)).toInt32 = rwv j := by decide +kernel
set_option maxRecDepth 20000 in
theorem r2_chk : ∀ j, j < 8 → chk (nI (prl j)) 2 (R2 j) = true ∧ R2 j < 2 ^ 36 ∧ (lN (R2 j)).toInt32 = fsv j := by decide +kernel
theorem r3_at {i : Nat} (hi : i < 310) (h : ipr (i + 2) (sqf (i + 2)) = true) : (mr (nI (i + 2)) 3 36).toInt32 = rwv (fnd i) := by
  have h1 := fnd_ok i hi
  have h2 := r3_chk (fnd i) h1.1
  rw [h1.2 h] at h2
  rw [mr_chk h2.2.1 h2.1]
  exact h2.2.2
theorem r2_at {i : Nat} (hi : i < 310) (h : ipr (i + 2) (sqf (i + 2)) = true) (h8 : fnd i < 8) : (mr (nI (i + 2)) 2 36).toInt32 = fsv (fnd i) := by
  have h1 := fnd_ok i hi
  have h2 := r2_chk (fnd i) h8
  rw [h1.2 h] at h2
  rw [mr_chk h2.2.1 h2.1]
  exact h2.2.2
theorem be_s {g : Nat → Int32} {n : Nat} {x : Int32} (h : ∀ j, j < n → j < 8 → g j = fsv j) (hx : x = fsv n) : ∀ j, j < n + 1 → j < 8 → upd g n x j = fsv j := by
  intro j hj h8
  by_cases q : j = n
  · subst q
    rw [pk_us, hx]
  · rw [pk_un q]
    exact h j (by omega) h8
theorem be_k {g : Nat → Int32} {n : Nat} (h : ∀ j, j < n → j < 8 → g j = fsv j) (c : 8 ≤ n) : ∀ j, j < n + 1 → j < 8 → g j = fsv j := fun j _ h8 => h j (by omega) h8
end
