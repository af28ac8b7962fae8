/-! bits: begun from BITS.to-paste's first family -/
def bt (x : Int32) (i : Nat) : Bool := x.toBitVec.getLsbD i
theorem b_ext {x y : Int32} (h : ∀ i, i < 32 → bt x i = bt y i) : x = y := Int32.toBitVec_inj.mp (BitVec.eq_of_getLsbD_eq (fun i hi => h i hi))
theorem b_or (x y : Int32) (i : Nat) : bt (x ||| y) i = (bt x i || bt y i) := by unfold bt; rw [Int32.toBitVec_or, BitVec.getLsbD_or]
theorem b_and (x y : Int32) (i : Nat) : bt (x &&& y) i = (bt x i && bt y i) := by unfold bt; rw [Int32.toBitVec_and, BitVec.getLsbD_and]
theorem b_xor (x y : Int32) (i : Nat) : bt (x ^^^ y) i = (bt x i ^^ bt y i) := by unfold bt; rw [Int32.toBitVec_xor, BitVec.getLsbD_xor]
theorem b_big {x : Int32} {i : Nat} (h : 32 ≤ i) : bt x i = false := BitVec.getLsbD_of_ge _ _ h
theorem b_255 (i : Nat) : bt 255 i = decide (i < 8) := by
  rcases Nat.lt_or_ge i 32 with h | h
  · exact (by decide +kernel : ∀ i, i < 32 → bt 255 i = decide (i < 8)) i h
  · rw [b_big h, decide_eq_false (by omega)]
theorem b_65535 (i : Nat) : bt 65535 i = decide (i < 16) := by
  rcases Nat.lt_or_ge i 32 with h | h
  · exact (by decide +kernel : ∀ i, i < 32 → bt 65535 i = decide (i < 16)) i h
  · rw [b_big h, decide_eq_false (by omega)]
theorem b_m1 : ∀ i, i < 32 → bt (-1) i = true := by decide +kernel
theorem b_0 (i : Nat) : bt 0 i = false := BitVec.getLsbD_zero
theorem s_l : ∀ n, n < 32 → ((nI n &&& 31).toBitVec.smod 32).toNat = n := by decide +kernel
theorem s_u : ∀ n, n < 32 → (((nI n).toUInt32 &&& Int32.toUInt32 31).toBitVec % 32).toNat = n := by decide +kernel
theorem b_shl (n : Nat) (hn : n < 32) (x : Int32) {i : Nat} (hi : i < 32) : bt (x <<< (nI n &&& 31)) i = (decide (n ≤ i) && bt x (i - n)) := by
  unfold bt
  rw [Int32.toBitVec_shiftLeft]
  show (x.toBitVec <<< ((nI n &&& 31).toBitVec.smod 32).toNat).getLsbD i = _
  rw [s_l n hn, BitVec.getLsbD_shiftLeft]
  rcases Nat.lt_or_ge i n with h | h
  · simp [h, Nat.not_le.mpr h]
  · simp [hi, h, Nat.not_lt.mpr h]
theorem b_ushr (n : Nat) (hn : n < 32) (x : Int32) (i : Nat) : bt ((x.toUInt32 >>> ((nI n).toUInt32 &&& Int32.toUInt32 31)).toInt32) i = bt x (n + i) := by
  show (x.toUInt32 >>> ((nI n).toUInt32 &&& Int32.toUInt32 31)).toBitVec.getLsbD i = x.toUInt32.toBitVec.getLsbD (n + i)
  rw [UInt32.toBitVec_shiftRight]
  show (x.toUInt32.toBitVec >>> (((nI n).toUInt32 &&& Int32.toUInt32 31).toBitVec % 32).toNat).getLsbD i = _
  rw [s_u n hn, BitVec.getLsbD_ushiftRight]
theorem b_sshr (n : Nat) (hn : n < 32) (x : Int32) {i : Nat} (hi : i < 32) : bt (x >>> (nI n &&& 31)) i = if n + i < 32 then bt x (n + i) else bt x 31 := by
  unfold bt
  rw [Int32.toBitVec_shiftRight]
  show (x.toBitVec.sshiftRight ((nI n &&& 31).toBitVec.smod 32).toNat).getLsbD i = _
  rw [s_l n hn, BitVec.getLsbD_sshiftRight, BitVec.msb_eq_getLsbD_last]
  simp [hi]
def bl (w : Int64) (i : Nat) : Bool := w.toBitVec.getLsbD i
theorem t_l : ∀ n, n < 64 → (((nI n).toInt64 &&& 63).toBitVec.smod 64).toNat = n := by decide +kernel
theorem t_u : ∀ n, n < 64 → (((nI n).toInt64.toUInt64 &&& Int64.toUInt64 63).toBitVec % 64).toNat = n := by decide +kernel
theorem l_sshr (n : Nat) (w : Int64) {i : Nat} (hi : n + i < 64) : bl (w >>> ((nI n).toInt64 &&& 63)) i = bl w (n + i) := by
  unfold bl
  rw [Int64.toBitVec_shiftRight]
  show (w.toBitVec.sshiftRight (((nI n).toInt64 &&& 63).toBitVec.smod 64).toNat).getLsbD i = _
  rw [t_l n (by omega), BitVec.getLsbD_sshiftRight]
  have h2 : i < 64 := by omega
  simp [hi, h2]
theorem l_ushr (n : Nat) (hn : n < 64) (w : Int64) (i : Nat) : bl ((w.toUInt64 >>> ((nI n).toInt64.toUInt64 &&& Int64.toUInt64 63)).toInt64) i = bl w (n + i) := by
  show (w.toUInt64 >>> ((nI n).toInt64.toUInt64 &&& Int64.toUInt64 63)).toBitVec.getLsbD i = w.toUInt64.toBitVec.getLsbD (n + i)
  rw [UInt64.toBitVec_shiftRight]
  show (w.toUInt64.toBitVec >>> (((nI n).toInt64.toUInt64 &&& Int64.toUInt64 63).toBitVec % 64).toNat).getLsbD i = _
  rw [t_u n hn, BitVec.getLsbD_ushiftRight]
theorem l_i32 (w : Int64) {i : Nat} (hi : i < 32) : bt w.toInt32 i = bl w i := by
  unfold bt bl
  rw [Int64.toBitVec_toInt32, BitVec.getLsbD_signExtend]
  have h2 : i < 64 := by omega
  simp [hi, h2]
theorem l_sx (x : Int32) {i : Nat} (hi : i < 32) : bl x.toInt64 i = bt x i := by
  unfold bt bl
  rw [Int32.toBitVec_toInt64, BitVec.getLsbD_signExtend]
  have h2 : i < 64 := by omega
  simp [hi, h2]
theorem l_shl (w : Int64) {i : Nat} (hi : i < 64) : bl (w <<< ((32 : Int32).toInt64 &&& 63)) i = (decide (32 ≤ i) && bl w (i - 32)) := by
  unfold bl
  rw [Int64.toBitVec_shiftLeft]
  show (w.toBitVec <<< (((nI 32).toInt64 &&& 63).toBitVec.smod 64).toNat).getLsbD i = _
  rw [t_l 32 (by decide), BitVec.getLsbD_shiftLeft]
  rcases Nat.lt_or_ge i 32 with h | h
  · simp [h, Nat.not_le.mpr h]
  · simp [hi, h, Nat.not_lt.mpr h]
theorem l_m32 : ∀ i, i < 64 → bl 4294967295 i = decide (i < 32) := by decide +kernel
theorem lw8_bits (f : Nat → Int32) (k : Nat) {i : Nat} (hi : i < 64) : bl (lw8 f k) i = if i < 32 then bt (f (2 * k + 1)) i else bt (f (2 * k)) (i - 32) := by
  have e : bl (lw8 f k) i = (bl ((f (2 * k)).toInt64 <<< ((32 : Int32).toInt64 &&& 63)) i || (bl (f (2 * k + 1)).toInt64 i && bl 4294967295 i)) := by
    unfold lw8 bl
    rw [Int64.toBitVec_or, BitVec.getLsbD_or, Int64.toBitVec_and, BitVec.getLsbD_and]
  rw [e, l_shl _ hi, l_m32 i hi]
  by_cases h : i < 32
  · rw [if_pos h, l_sx _ h, decide_eq_false (by omega), decide_eq_true h]
    simp
  · rw [if_neg h, l_sx _ (by omega), decide_eq_true (by omega), decide_eq_false h]
    simp
theorem lw8_inj {f g : Nat → Int32} {k : Nat} (h : lw8 f k = lw8 g k) : f (2 * k) = g (2 * k) ∧ f (2 * k + 1) = g (2 * k + 1) := by
  constructor
  · refine b_ext (fun i hi => ?_)
    have h1 := lw8_bits f k (i := i + 32) (by omega)
    have h2 := lw8_bits g k (i := i + 32) (by omega)
    rw [if_neg (by omega), Nat.add_sub_cancel] at h1 h2
    rw [← h1, ← h2, h]
  · refine b_ext (fun i hi => ?_)
    have h1 := lw8_bits f k (i := i) (by omega)
    have h2 := lw8_bits g k (i := i) (by omega)
    rw [if_pos hi] at h1 h2
    rw [← h1, ← h2, h]
theorem lw8_all {f g : Nat → Int32} (h : ∀ k, k < 4 → lw8 f k = lw8 g k) : ∀ j, j < 8 → f j = g j := by
  intro j hj
  have h1 := lw8_inj (h (j / 2) (by omega))
  rcases (show j = 2 * (j / 2) ∨ j = 2 * (j / 2) + 1 by omega) with e | e
  · rw [e]
    exact h1.1
  · rw [e]
    exact h1.2
theorem lw8_congr {f g : Nat → Int32} (h : ∀ j, j < 8 → f j = g j) : ∀ k, k < 4 → lw8 f k = lw8 g k := by
  intro k hk
  unfold lw8
  rw [h (2 * k) (by omega), h (2 * k + 1) (by omega)]
theorem low8 {x y : Int32} (h : ∀ i, i < 8 → bt x i = bt y i) : x &&& 255 = y &&& 255 := by
  refine b_ext (fun i hi => ?_)
  rw [b_and, b_and, b_255]
  by_cases q : i < 8
  · rw [h i q]
  · rw [decide_eq_false q, Bool.and_false, Bool.and_false]
theorem wb_bits (w : Int32) {b i : Nat} (hb : b < 4) (hi : i < 8) : wb w b &&& 255 = us w (nI (24 - 8 * b)) &&& 255 := by
  rcases (show b = 0 ∨ b = 1 ∨ b = 2 ∨ b = 3 by omega) with rfl | rfl | rfl | rfl
  · exact b255 _
  · exact b255 _
  · exact b255 _
  · show w.toInt8.toInt32 &&& 255 = _
    rw [b255]
    refine low8 (fun i hi => ?_)
    show _ = bt ((w.toUInt32 >>> ((nI 0).toUInt32 &&& Int32.toUInt32 31)).toInt32) i
    rw [b_ushr 0 (by decide), Nat.zero_add]
theorem byi_lw8 (f : Nat → Int32) (a : Nat) {b : Nat} (hb : b < 8) : byi (lw8 f a) b = wb (f (2 * a + b / 4)) (b % 4) &&& 255 := by
  rw [wb_bits (i := 0) _ (by omega) (by decide)]
  unfold byi
  refine low8 (fun i hi => ?_)
  rw [l_i32 _ (by omega), l_sshr _ _ (by omega), lw8_bits _ _ (by omega)]
  show _ = bt ((_ : Int32).toUInt32 >>> ((nI (24 - 8 * (b % 4))).toUInt32 &&& Int32.toUInt32 31)).toInt32 i
  rw [b_ushr _ (by omega)]
  by_cases h : b < 4
  · rw [if_neg (by omega), show b / 4 = 0 by omega, show b % 4 = b by omega, Nat.add_zero]
    congr 1
    omega
  · rw [if_pos (by omega), show b / 4 = 1 by omega]
    congr 1
    omega
/-- the two tapes: one byte put -/
theorem put_eq (v : Int64) {n j : Nat} (hn : n ≤ 8) : (v >>> ((nI (8 * (n - 1 - j))).toInt64 &&& 63)).toInt32 &&& 255 = pb v n j &&& 255 := by
  unfold pb
  rw [b255]
  refine low8 (fun i hi => ?_)
  rw [l_i32 _ (by omega), l_i32 _ (by omega), l_sshr _ _ (by omega), l_ushr _ (by omega)]
