/-! the reference's pure words -/
theorem a255 (x : Int32) : (x &&& 255) &&& 255 = x &&& 255 := by
  rw [Int32.and_assoc]
  rfl
theorem b255 (x : Int32) : x.toInt8.toInt32 &&& 255 = x &&& 255 := by
  apply Int32.toBitVec_inj.mp
  rw [Int32.toBitVec_and, Int32.toBitVec_and, Int8.toBitVec_toInt32, Int32.toBitVec_toInt8]
  apply BitVec.eq_of_getLsbD_eq
  intro i hi
  rw [BitVec.getLsbD_and, BitVec.getLsbD_and]
  have hm : ∀ i < 32, 8 ≤ i → (255 : Int32).toBitVec.getLsbD i = false := by decide
  rcases Nat.lt_or_ge i 8 with z | z
  · rw [BitVec.getLsbD_signExtend, BitVec.getLsbD_signExtend, if_pos z, if_pos hi]
    simp only [z, hi, decide_true, Bool.true_and]
  · rw [hm i hi z]; simp
theorem wdm_eq {hs M : Nat → Int32} {f i : Nat} (h : ∀ j, f ≤ j → j < f + 64 → hs j = M j &&& 255) (hi : i < 16) : (((hs (f + 4 * i) <<< ((24 : Int32) &&& 31) ||| hs (f + 4 * i + 1) <<< ((16 : Int32) &&& 31)) ||| hs (f + 4 * i + 2) <<< ((8 : Int32) &&& 31)) ||| hs (f + 4 * i + 3)) = wd M f i := by
  unfold wd
  rw [h (f + 4 * i) (by omega) (by omega), h (f + 4 * i + 1) (by omega) (by omega), h (f + 4 * i + 2) (by omega) (by omega), h (f + 4 * i + 3) (by omega) (by omega)]
theorem rds_s2 {sc : Nat → Int32} {x : R8} {i : Nat} {a b c d e f g h k : Int32} (hi : rds sc x i = (a, b, c, d, e, f, g, h)) (hk : k = rwv i) : rds sc x (i + 1) = ((((h + ((tn e 6 ^^^ tn e 11) ^^^ tn e 25)) + ((e &&& f) ^^^ ((e ^^^ (-1)) &&& g))) + k + sc i) + (((tn a 2 ^^^ tn a 13) ^^^ tn a 22) + (((a &&& b) ^^^ (a &&& c)) ^^^ (b &&& c))), a, b, c, d + (((h + ((tn e 6 ^^^ tn e 11) ^^^ tn e 25)) + ((e &&& f) ^^^ ((e ^^^ (-1)) &&& g))) + k + sc i), e, f, g) := by
  rw [rds_s hi, hk, ← Int32.add_assoc]
  rfl
def mpd (n j : Nat) : Int32 := pd n j &&& 255
theorem mpd_0 (n : Nat) : (128 : Int32) &&& 255 = mpd n 0 := by
  unfold mpd pd
  rw [if_pos rfl]
  rfl
theorem mpd_z {n i : Nat} (h : i < pz n) : (0 : Int32) &&& 255 = mpd n (1 + i) := by
  unfold mpd
  rw [← pd_0 h]
  rfl
theorem mpd_h {n i : Nat} (hn : n < 184) (h : i < 4) : (0 : Int32) &&& 255 = mpd n (1 + pz n + i) := by
  unfold mpd
  rw [← pd_b n (by omega)]
  have key : ∀ n, n < 184 → ∀ i, i < 4 → (0 : Int32) &&& 255 = ((((8 : Int64) * (nI n).toInt64).toUInt64 >>> ((sf i).toInt64.toUInt64 &&& Int64.toUInt64 63)).toInt64.toInt32).toInt8.toInt32 &&& 255 := by decide +kernel
  exact key n hn i h
theorem mpd_l {n i : Nat} (hn : n < 184) (h : i < 4) : ((nI (8 * n)).toUInt32 >>> ((nI (8 * (3 - i))).toUInt32 &&& Int32.toUInt32 31)).toInt32 &&& 255 = mpd n (1 + pz n + 4 + i) := by
  unfold mpd
  rw [show 1 + pz n + 4 + i = 1 + pz n + (4 + i) by omega, ← pd_b n (by omega)]
  have key : ∀ n, n < 184 → ∀ i, i < 4 → ((nI (8 * n)).toUInt32 >>> ((nI (8 * (3 - i))).toUInt32 &&& Int32.toUInt32 31)).toInt32 &&& 255 = ((((8 : Int64) * (nI n).toInt64).toUInt64 >>> ((sf (4 + i)).toInt64.toUInt64 &&& Int64.toUInt64 63)).toInt64.toInt32).toInt8.toInt32 &&& 255 := by decide +kernel
  exact key n hn i h
def sg (i : Nat) : Int32 := 3 - nI i
theorem sg_lt {i : Nat} (h : i ≤ 4) (c : sg i < 0) : i = 4 := by
  have key : ∀ i, i < 4 → ¬ sg i < 0 := by decide
  rcases Nat.lt_or_ge i 4 with q | q
  · exact absurd c (key i q)
  · omega
theorem sg_nlt {i : Nat} (h : i ≤ 4) (c : ¬ sg i < 0) : i < 4 := by
  rcases Nat.lt_or_ge i 4 with q | q
  · exact q
  · have e : i = 4 := by omega
    subst e
    exact absurd (by decide) c
theorem sg_n {i : Nat} (h : i < 4) : sg i = nI (3 - i) := by
  have key : ∀ i, i < 4 → sg i = nI (3 - i) := by decide
  exact key i h
theorem sg_s {i : Nat} (h : i < 4) : nI (3 - i) + Int32.ofInt (-1) = sg (i + 1) := by
  have key : ∀ i, i < 4 → nI (3 - i) + Int32.ofInt (-1) = sg (i + 1) := by decide
  exact key i h
theorem msg_rel {hs ms : Nat → Int32} {n : Nat} (h : ∀ j, j < n → hs j = ms j &&& 255) : ∀ j, j < n + pl n → cat hs n (mpd n) (pl n) j = cat ms n (pd n) (pl n) j &&& 255 := by
  intro j hj
  unfold cat
  by_cases q : n ≤ j ∧ j < n + pl n
  · rw [if_pos q, if_pos q]
    rfl
  · rw [if_neg q, if_neg q]
    exact h j (by omega)
theorem tape_rel {hs ms tp ct : Nat → Int32} {n k : Nat} (h : ∀ j, j < n → hs j = ms j &&& 255) (h5 : ∀ j, j < k → tp j = ct j &&& 255) : ∀ j, j < n + k → cat hs n (fun j => tp j &&& 255) k j = cat ms n ct k j &&& 255 := by
  intro j hj
  unfold cat
  by_cases q : n ≤ j ∧ j < n + k
  · rw [if_pos q, if_pos q]
    show tp (j - n) &&& 255 = _
    rw [h5 _ (by omega), a255]
  · rw [if_neg q, if_neg q]
    exact h j (by omega)
theorem shs_back2 {M st1 : Nat → Int32} {u : (Nat → Int32) × (Nat → Int32)} {b : Nat} (h : ∀ j, j < 8 → st1 j = shs M b j) (h2 : ∀ j, j < 8 → u.1 j = mx st1 (swl (wd M (64 * b)) 48) j) : ∀ j, j < 8 → u.1 j = shs M (b + 1) j := by
  intro j hj
  rw [h2 j hj]
  exact mx_congr h (fun _ _ => rfl) j hj
/-- two words as a long; the bytes of a long -/
def lw8 (f : Nat → Int32) (k : Nat) : Int64 := ((f (2 * k)).toInt64 <<< ((32 : Int32).toInt64 &&& 63)) ||| ((f (2 * k + 1)).toInt64 &&& 4294967295)
def byi (w : Int64) (k : Nat) : Int32 := (w >>> ((nI (56 - 8 * k)).toInt64 &&& 63)).toInt32 &&& 255
theorem lw8_e8 {f : Nat → Int32} {j : Nat} (h : j ≤ 3) : lw8 f j = e8 f (nI j) := e8_in h
def catL (ms : Nat → Int64) (n : Nat) (f : Nat → Int64) (k : Nat) : Nat → Int64 := fun j => if n ≤ j ∧ j < n + k then f (j - n) else ms j
theorem catL_0 (ms : Nat → Int64) (n : Nat) (f : Nat → Int64) : catL ms n f 0 = ms := by
  funext j
  unfold catL
  rw [if_neg (by omega)]
theorem catL_s (ms : Nat → Int64) (n : Nat) (f : Nat → Int64) (k : Nat) {x : Int64} (hx : x = f k) : vp_updL (catL ms n f k) (n + k) x = catL ms n f (k + 1) := by
  subst hx
  funext j
  unfold vp_updL catL
  by_cases h : j = n + k
  · subst h
    rw [if_pos rfl, if_pos (by omega), Nat.add_sub_cancel_left]
  · rw [if_neg h]
    by_cases h2 : n ≤ j ∧ j < n + k
    · rw [if_pos h2, if_pos (by omega)]
    · rw [if_neg h2, if_neg (by omega)]
theorem catL_in {ms : Nat → Int64} {n : Nat} {f : Nat → Int64} {k j : Nat} (h : j < k) : catL ms n f k (n + j) = f j := by
  unfold catL
  rw [if_pos (by omega), Nat.add_sub_cancel_left]
theorem catL_out {ms : Nat → Int64} {n : Nat} {f : Nat → Int64} {k j : Nat} (h : j < n ∨ n + k ≤ j) : catL ms n f k j = ms j := by
  unfold catL
  rw [if_neg (by omega)]
