/-! the reference's constants: roots of primes, bit by bit -/
def u32 (x : Int64) : Int64 := (x.toUInt64 >>> ((32 : Int32).toInt64.toUInt64 &&& Int64.toUInt64 63)).toInt64
def A_a (t : Int64) : Int64 := t >>> ((32 : Int32).toInt64 &&& 63)
def A_b (t : Int64) : Int64 := t &&& 4294967295
def A_q (t : Int64) : Int64 := A_b t * A_b t
def A_l (t : Int64) : Int64 := A_q t &&& 4294967295
def A_n (t : Int64) : Int64 := u32 (A_q t) + (((2 * A_a t) * A_b t) &&& 4294967295)
def A_t (t : Int64) : Int64 := (A_a t * A_a t + u32 ((2 * A_a t) * A_b t)) + u32 (A_n t)
def A_m (t : Int64) : Int64 := A_n t &&& 4294967295
def B_x (t : Int64) : Int64 := A_l t * A_b t
def B_y (t : Int64) : Int64 := A_m t * A_b t
def B_z (t : Int64) : Int64 := A_t t * A_b t
def B_0 (t : Int64) : Int64 := B_x t &&& 4294967295
def B_p (t : Int64) : Int64 := (u32 (B_x t) + (B_y t &&& 4294967295)) + A_l t * A_a t
def B_q (t : Int64) : Int64 := ((u32 (B_y t) + B_z t) + A_m t * A_a t) + u32 (B_p t)
def B_3 (t : Int64) : Int64 := A_t t * A_a t + u32 (B_q t)
def B_1 (t : Int64) : Int64 := B_p t &&& 4294967295
def B_2 (t : Int64) : Int64 := B_q t &&& 4294967295
def isAb (t : Int64) (p k : Int32) : Bool :=
  if k = 2 then (if 0 < lg_cmp (A_t t) p.toInt64 then true else if lg_cmp (A_t t) p.toInt64 = 0 then (if 0 < lg_cmp (A_m t) 0 then true else if lg_cmp (A_l t) 0 ≤ 0 then false else true) else false)
  else (if 0 < lg_cmp (B_3 t) p.toInt64 then true else if lg_cmp (B_3 t) p.toInt64 = 0 then (if 0 < lg_cmp (B_2 t) 0 then true else if 0 < lg_cmp (B_1 t) 0 then true else if lg_cmp (B_0 t) 0 ≤ 0 then false else true) else false)
def mr (p k : Int32) : Nat → Int64
  | 0 => 0
  | i + 1 => if isAb (mr p k i ||| ((1 : Int64) <<< ((nI (35 - i)).toInt64 &&& 63))) p k then mr p k i else mr p k i ||| ((1 : Int64) <<< ((nI (35 - i)).toInt64 &&& 63))
def mt (p k : Int32) (i : Nat) : Int64 := mr p k i ||| ((1 : Int64) <<< ((nI (35 - i)).toInt64 &&& 63))
theorem mr_t {p k : Int32} {i : Nat} (c : isAb (mt p k i) p k = true) : mr p k (i + 1) = mr p k i := if_pos c
theorem mr_f {p k : Int32} {i : Nat} (c : isAb (mt p k i) p k = false) : mr p k (i + 1) = mt p k i := if_neg (by rw [show isAb (mr p k i ||| ((1 : Int64) <<< ((nI (35 - i)).toInt64 &&& 63))) p k = false from c]; exact Bool.false_ne_true)
def sr (i : Nat) : Int32 := 35 - nI i
theorem sr_lt {i : Nat} (h : i ≤ 36) (c : sr i < 0) : i = 36 := by
  have key : ∀ i, i < 36 → ¬ sr i < 0 := by decide
  rcases Nat.lt_or_ge i 36 with q | q
  · exact absurd c (key i q)
  · omega
theorem sr_nlt {i : Nat} (h : i ≤ 36) (c : ¬ sr i < 0) : i < 36 := by
  rcases Nat.lt_or_ge i 36 with q | q
  · exact q
  · have e : i = 36 := by omega
    subst e
    exact absurd (by decide) c
theorem sr_n {i : Nat} (h : i < 36) : sr i = nI (35 - i) := by
  have key : ∀ i, i < 36 → sr i = nI (35 - i) := by decide
  exact key i h
theorem sr_s {i : Nat} (h : i < 36) : nI (35 - i) + Int32.ofInt (-1) = sr (i + 1) := by
  have key : ∀ i, i < 36 → nI (35 - i) + Int32.ofInt (-1) = sr (i + 1) := by decide
  exact key i h
/-- the bits of R, one by one -/
def cst (R i : Nat) : Nat := R / 2 ^ (36 - i) * 2 ^ (36 - i)
def chk (p k : Int32) (R : Nat) : Bool := (List.range 36).all fun i => isAb (lN (cst R i + 2 ^ (35 - i))) p k == decide (R / 2 ^ (35 - i) % 2 = 0)
theorem u_tn {n : Nat} (h : n < 2 ^ 64) : (UInt64.ofNat n).toNat = n := by
  rw [UInt64.toNat_ofNat']
  exact Nat.mod_eq_of_lt h
theorem g_or {k p a b : Nat} (hp : 2 ^ k = p) (ha : a < p) (h : b * p + a < 2 ^ 64) : lN (b * p) ||| lN a = lN (b * p + a) := by
  subst hp
  have h1 : b * 2 ^ k ||| a = b * 2 ^ k + a := by rw [← Nat.shiftLeft_eq, Nat.shiftLeft_add_eq_or_of_lt ha]
  have h3 : UInt64.ofNat (b * 2 ^ k) ||| UInt64.ofNat a = UInt64.ofNat (b * 2 ^ k + a) := UInt64.toNat_inj.mp (by rw [UInt64.toNat_or, u_tn (by omega), u_tn (by omega), u_tn h, h1])
  have h2 := congrArg UInt64.toInt64 h3
  exact h2
theorem one_shl : ∀ s, s < 36 → (1 : Int64) <<< ((nI s).toInt64 &&& 63) = lN (2 ^ s) := by decide +kernel
theorem mr_cst {p k : Int32} {R : Nat} (hR : R < 2 ^ 36) (h : chk p k R = true) : ∀ i, i ≤ 36 → mr p k i = lN (cst R i) := by
  intro i
  induction i with
  | zero =>
    intro _
    unfold cst
    rw [show R / 2 ^ (36 - 0) = 0 from Nat.div_eq_of_lt hR, Nat.zero_mul]
    rfl
  | succ i ih =>
    intro hi
    have h0 := ih (by omega)
    have hs : 36 - i = (35 - i) + 1 := by omega
    have hp : (2 : Nat) ^ (36 - i) = 2 ^ (35 - i) * 2 := by rw [hs, Nat.pow_succ]
    have hpos : 0 < 2 ^ (35 - i) := Nat.two_pow_pos _
    have hd : R / 2 ^ (36 - i) = R / 2 ^ (35 - i) / 2 := by rw [hp, ← Nat.div_div_eq_div_mul]
    have hle : R / 2 ^ (36 - i) * 2 ^ (36 - i) ≤ R := Nat.div_mul_le_self _ _
    have hb : (2 : Nat) ^ (36 - i) ≤ 2 ^ 36 := Nat.pow_le_pow_right (by decide) (by omega)
    have hmt : mt p k i = lN (cst R i + 2 ^ (35 - i)) := by
      unfold mt
      rw [h0, one_shl _ (by omega)]
      unfold cst
      exact g_or (k := 36 - i) rfl (by omega) (by omega)
    have hc := List.all_eq_true.mp h i (List.mem_range.mpr (by omega))
    rw [← hmt, beq_iff_eq] at hc
    have e1 : cst R (i + 1) = R / 2 ^ (35 - i) * 2 ^ (35 - i) := by
      unfold cst
      rw [show 36 - (i + 1) = 35 - i by omega]
    have e0 : cst R i = R / 2 ^ (35 - i) / 2 * 2 * 2 ^ (35 - i) := by
      unfold cst
      rw [hd, hp, Nat.mul_assoc, Nat.mul_comm (2 ^ (35 - i)) 2]
    by_cases q : R / 2 ^ (35 - i) % 2 = 0
    · rw [decide_eq_true q] at hc
      rw [mr_t hc, h0, e0, e1, show R / 2 ^ (35 - i) / 2 * 2 = R / 2 ^ (35 - i) by omega]
    · rw [decide_eq_false q] at hc
      have e2 : R / 2 ^ (35 - i) * 2 ^ (35 - i) = R / 2 ^ (35 - i) / 2 * 2 * 2 ^ (35 - i) + 2 ^ (35 - i) := by
        have e3 : R / 2 ^ (35 - i) = R / 2 ^ (35 - i) / 2 * 2 + 1 := by omega
        have e4 : (R / 2 ^ (35 - i) / 2 * 2 + 1) * 2 ^ (35 - i) = R / 2 ^ (35 - i) / 2 * 2 * 2 ^ (35 - i) + 2 ^ (35 - i) := Nat.succ_mul _ _
        rw [← e4, ← e3]
      rw [mr_f hc, hmt, e0, e1, e2]
theorem mr_chk {p k : Int32} {R : Nat} (hR : R < 2 ^ 36) (h : chk p k R = true) : mr p k 36 = lN R := by
  rw [mr_cst hR h 36 (Nat.le_refl _)]
  unfold cst
  rw [Nat.sub_self, Nat.pow_zero, Nat.div_one, Nat.mul_one]
/-- the first primes, and their roots -/
def prl (j : Nat) : Nat := ([2, 3, 5, 7, 11, 13, 17, 19, 23, 29, 31, 37, 41, 43, 47, 53, 59, 61, 67, 71, 73, 79, 83, 89, 97, 101, 103, 107, 109, 113, 127, 131, 137, 139, 149, 151, 157, 163, 167, 173, 179, 181, 191, 193, 197, 199, 211, 223, 227, 229, 233, 239, 241, 251, 257, 263, 269, 271, 277, 281, 283, 293, 307, 311] : List Nat).getD j 0
def R3 (j : Nat) : Nat := ([5411319704, 6194414737, 7344290767, 8215976869, 9551921755, 10098905585, 11043570340, 11460697813, 12214315672, 13195500289, 13492127166, 14311783875, 14809980276, 15046980094, 15499789991, 16133124468, 16720292289, 16907126662, 17444216262, 17784676812, 17950125167, 18429019306, 18734950876, 19175934170, 19734090066, 20001703533, 20132865992, 20390182855, 20516441075, 20764397895, 21588763473, 21813078375, 22141143685, 22248366392, 22769593852, 22871018771, 23170020180, 23461497531, 23651862830, 23931792517, 24205322401, 24295138891, 24734567280, 24820601251, 24990902297, 25075189284, 25569408389, 26045227120, 26200031510, 26276752392, 26428864332, 26653801653, 26727943347, 27092625994, 27306805839, 27517677555, 27725365998, 27793908591, 27997534228, 28131656200, 28198240250, 28526537963, 28973835255, 29099129074] : List Nat).getD j 0
def R2 (j : Nat) : Nat := ([6074000999, 7439101573, 9603838834, 11363415354, 14244795007, 15485724812, 17708603819, 18721328409] : List Nat).getD j 0
def ipr (p : Nat) : Nat → Bool
  | 0 => true
  | k + 1 => ipr p k && decide (p % (k + 2) ≠ 0)
def sqf (p : Nat) : Nat := ((List.range 18).filter (fun j => (j + 2) * (j + 2) ≤ p)).length
def fnd : Nat → Nat
  | 0 => 0
  | k + 1 => fnd k + (if ipr (k + 2) (sqf (k + 2)) then 1 else 0)
theorem sq_ok : ∀ p, p < 320 → p < (sqf p + 2) * (sqf p + 2) ∧ sqf p ≤ 17 ∧ ∀ j, j < sqf p → (j + 2) * (j + 2) ≤ p := by decide +kernel
theorem sq_at {p j : Nat} (hp : p < 320) (h : j ≤ sqf p) (c : p < (j + 2) * (j + 2)) : j = sqf p := by
  rcases Nat.lt_or_eq_of_le h with q | q
  · exact absurd ((sq_ok p hp).2.2 j q) (Nat.not_le.mpr c)
  · exact q
theorem sq_nat {p j : Nat} (hp : p < 320) (h : j ≤ sqf p) (c : (j + 2) * (j + 2) ≤ p) : j < sqf p := by
  rcases Nat.lt_or_eq_of_le h with q | q
  · exact q
  · rw [q] at c
    exact absurd c (Nat.not_le.mpr (sq_ok p hp).1)
theorem ipr_1 {p k : Nat} (h : ipr p k = true) (c : p % (k + 2) ≠ 0) : (1 : Int32) = bz (ipr p (k + 1)) := by
  have e : ipr p (k + 1) = true := by
    show (ipr p k && decide (p % (k + 2) ≠ 0)) = true
    rw [h, decide_eq_true c]
    rfl
  rw [e]
  rfl
theorem ipr_a {p k : Nat} (h : ipr p k = false) : (0 : Int32) = bz (ipr p (k + 1)) := by
  have e : ipr p (k + 1) = false := by
    show (ipr p k && decide (p % (k + 2) ≠ 0)) = false
    rw [h]
    rfl
  rw [e]
  rfl
theorem ipr_b {p k : Nat} (c : p % (k + 2) = 0) : (0 : Int32) = bz (ipr p (k + 1)) := by
  have e : ipr p (k + 1) = false := by
    show (ipr p k && decide (p % (k + 2) ≠ 0)) = false
    rw [decide_eq_false (fun h => h c), Bool.and_false]
  rw [e]
  rfl
theorem fnd_t {i : Nat} (h : ipr (i + 2) (sqf (i + 2)) = true) : fnd (i + 1) = fnd i + 1 := by
  show fnd i + _ = _
  rw [if_pos h]
theorem fnd_f {i : Nat} (h : ipr (i + 2) (sqf (i + 2)) = false) : fnd (i + 1) = fnd i := by
  show fnd i + _ = _
  rw [if_neg (by rw [h]; exact Bool.false_ne_true)]
  rfl
set_option maxRecDepth 20000 in
theorem fnd_ok : ∀ i, i < 310 → fnd i < 64 ∧ (ipr (i + 2) (sqf (i + 2)) = true → prl (fnd i) = i + 2) := by decide +kernel
theorem fnd_end : fnd 310 = 64 := by decide +kernel
theorem fnd_at {i : Nat} (h : i ≤ 310) (c : 64 ≤ fnd i) : i = 310 := by
  rcases Nat.lt_or_eq_of_le h with q | q
  · have h1 := (fnd_ok i q).1
    omega
  · exact q
theorem fnd_le {i : Nat} (h : i ≤ 310) : fnd i ≤ 64 := by
  rcases Nat.lt_or_eq_of_le h with q | q
  · have h1 := (fnd_ok i q).1
    omega
  · rw [q, fnd_end]
    exact Nat.le_refl _
set_option maxRecDepth 20000 in
theorem r3_chk : ∀ j, j < 64 → chk (nI (prl j)) 3 (R3 j) = true ∧ R3 j < 2 ^ 36 ∧ (lN (R3 j)).toInt32 = rwv j := by decide +kernel
set_option maxRecDepth 20000 in
theorem r2_chk : ∀ j, j < 8 → chk (nI (prl j)) 2 (R2 j) = true ∧ R2 j < 2 ^ 36 ∧ (lN (R2 j)).toInt32 = fsv j := by decide +kernel
theorem r3_at {i : Nat} (hi : i < 310) (h : ipr (i + 2) (sqf (i + 2)) = true) : (mr (nI (i + 2)) 3 36).toInt32 = rwv (fnd i) := by
  have h1 := fnd_ok i hi
  have h2 := r3_chk (fnd i) h1.1
  rw [h1.2 h] at h2
  rw [mr_chk h2.2.1 h2.1]
  exact h2.2.2
theorem r2_at {i : Nat} (hi : i < 310) (h : ipr (i + 2) (sqf (i + 2)) = true) (h8 : fnd i < 8) : (mr (nI (i + 2)) 2 36).toInt32 = fsv (fnd i) := by
  have h1 := fnd_ok i hi
  have h2 := r2_chk (fnd i) h8
  rw [h1.2 h] at h2
  rw [mr_chk h2.2.1 h2.1]
  exact h2.2.2
theorem be_s {g : Nat → Int32} {n : Nat} {x : Int32} (h : ∀ j, j < n → j < 8 → g j = fsv j) (hx : x = fsv n) : ∀ j, j < n + 1 → j < 8 → upd g n x j = fsv j := by
  intro j hj h8
  by_cases q : j = n
  · subst q
    rw [pk_us, hx]
  · rw [pk_un q]
    exact h j (by omega) h8
theorem be_k {g : Nat → Int32} {n : Nat} (h : ∀ j, j < n → j < 8 → g j = fsv j) (c : 8 ≤ n) : ∀ j, j < n + 1 → j < 8 → g j = fsv j := fun j _ h8 => h j (by omega) h8
