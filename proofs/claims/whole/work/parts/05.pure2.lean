/-! small rows that the walks use -/
theorem cat_1 {ms : Nat → Int32} {n : Nat} {f : Nat → Int32} {x : Int32} (hx : x = f 0) : upd ms n x = cat ms n f 1 := by
  have h := cat_s ms n f 0 hx
  rw [cat_0, Nat.add_zero] at h
  exact h
theorem cat_s2 {ms : Nat → Int32} {n m : Nat} {f : Nat → Int32} {k : Nat} {x : Int32} (hm : m = n + k) (hx : x = f k) : upd (cat ms n f k) m x = cat ms n f (k + 1) := by
  subst hm
  exact cat_s ms n f k hx
theorem cat_w (ms : Nat → Int32) (n i : Nat) {f : Nat → Int32} {w : Int32} (h0 : wb w 0 = f (4 * i)) (h1 : wb w 1 = f (4 * i + 1)) (h2 : wb w 2 = f (4 * i + 2)) (h3 : wb w 3 = f (4 * i + 3)) : upd (upd (upd (upd (cat ms n f (4 * i)) (n + 4 * i) (wb w 0)) (n + 4 * i + 1) (wb w 1)) (n + 4 * i + 2) (wb w 2)) (n + 4 * i + 3) (wb w 3) = cat ms n f (4 * (i + 1)) := by
  rw [cat_s _ _ _ _ h0, show n + 4 * i + 1 = n + (4 * i + 1) from rfl, cat_s _ _ _ _ h1, show n + 4 * i + 2 = n + (4 * i + 1 + 1) from rfl, cat_s _ _ _ _ h2, show n + 4 * i + 3 = n + (4 * i + 1 + 1 + 1) from rfl, cat_s _ _ _ _ h3]
  rfl
theorem ct_d0 (i : Nat) : 4 * i / 4 = i := by omega
theorem ct_d1 (i : Nat) : (4 * i + 1) / 4 = i := by omega
theorem ct_d2 (i : Nat) : (4 * i + 2) / 4 = i := by omega
theorem ct_d3 (i : Nat) : (4 * i + 3) / 4 = i := by omega
theorem ct_m0 (i : Nat) : 4 * i % 4 = 0 := by omega
theorem ct_m1 (i : Nat) : (4 * i + 1) % 4 = 1 := by omega
theorem ct_m2 (i : Nat) : (4 * i + 2) % 4 = 2 := by omega
theorem ct_m3 (i : Nat) : (4 * i + 3) % 4 = 3 := by omega
theorem pz_lt (n : Nat) : pz n < 64 := Nat.mod_lt _ (by decide)
theorem pz_at {n i : Nat} (h : i ≤ pz n) (c : (n + 1 + i) % 64 = 56) : i = pz n := by
  unfold pz at *
  omega
theorem pz_nat {n i : Nat} (h : i ≤ pz n) (c : (n + 1 + i) % 64 ≠ 56) : i < pz n := by
  refine Nat.lt_of_le_of_ne h (fun e => c ?_)
  subst e
  unfold pz
  omega
theorem pd_0 {n i : Nat} (h : i < pz n) : (0 : Int32).toInt8.toInt32 = pd n (1 + i) := by
  unfold pd
  rw [if_neg (by omega), if_pos (by omega)]
/-- the shift behind i bytes of the length -/
def sf (i : Nat) : Int32 := 56 - nI (8 * i)
theorem sf_lt {i : Nat} (h : i ≤ 8) (c : sf i < 0) : i = 8 := by
  have key : ∀ i, i < 8 → ¬ sf i < 0 := by decide
  rcases Nat.lt_or_ge i 8 with q | q
  · exact absurd c (key i q)
  · omega
theorem sf_nlt {i : Nat} (h : i ≤ 8) (c : ¬ sf i < 0) : i < 8 := by
  rcases Nat.lt_or_ge i 8 with q | q
  · exact q
  · have e : i = 8 := by omega
    subst e
    exact absurd (by decide) c
theorem sf_s {i : Nat} (h : i < 8) : sf i + Int32.ofInt (-8) = sf (i + 1) := by
  have key : ∀ i, i < 8 → sf i + Int32.ofInt (-8) = sf (i + 1) := by decide
  exact key i h
theorem sf_n {i : Nat} (h : i < 8) : sf i = nI (56 - 8 * i) := by
  have key : ∀ i, i < 8 → sf i = nI (56 - 8 * i) := by decide
  exact key i h
theorem pd_b (n : Nat) {i : Nat} (h : i < 8) : ((((8 : Int64) * (nI n).toInt64).toUInt64 >>> ((sf i).toInt64.toUInt64 &&& Int64.toUInt64 63)).toInt64.toInt32).toInt8.toInt32 = pd n (1 + pz n + i) := by
  unfold pd
  rw [if_neg (by omega), if_neg (by omega), sf_n h, show 1 + pz n + i - (pz n + 1) = i by omega]
theorem upd_s {g F : Nat → Int32} {i : Nat} {x : Int32} (h : ∀ j, j < i → g j = F j) (hx : x = F i) : ∀ j, j < i + 1 → upd g i x j = F j := by
  intro j hj
  by_cases q : j = i
  · subst q
    rw [pk_us, hx]
  · rw [pk_un q]
    exact h j (by omega)
theorem swl_back {w g : Nat → Int32} {i : Nat} {x : Int32} (h : ∀ j, j < 16 + i → g j = swl w i j) (hx : x = ((g i + s0 (g (i + 1))) + g (i + 9)) + s1 (g (i + 14))) : ∀ j, j < 16 + (i + 1) → upd g (16 + i) x j = swl w (i + 1) j := by
  intro j hj
  show _ = upd _ _ _ j
  by_cases q : j = 16 + i
  · subst q
    rw [pk_us, pk_us, hx, h i (by omega), h (i + 1) (by omega), h (i + 9) (by omega), h (i + 14) (by omega)]
  · rw [pk_un q, pk_un q]
    exact h j (by omega)
theorem rds_s {sc : Nat → Int32} {x : R8} {i : Nat} {a b c d e f g h : Int32} (hi : rds sc x i = (a, b, c, d, e, f, g, h)) : rds sc x (i + 1) = rnd (rwv i) (sc i) (a, b, c, d, e, f, g, h) := by
  show rnd _ _ (rds sc x i) = _
  rw [hi]
theorem mx_end {st sc : Nat → Int32} {a b c d e f g h : Int32} (hi : rds sc (st 0, st 1, st 2, st 3, st 4, st 5, st 6, st 7) 64 = (a, b, c, d, e, f, g, h)) : ∀ j, j < 8 → upd (upd (upd (upd (upd (upd (upd (upd st 0 (st 0 + a)) 1 (st 1 + b)) 2 (st 2 + c)) 3 (st 3 + d)) 4 (st 4 + e)) 5 (st 5 + f)) 6 (st 6 + g)) 7 (st 7 + h) j = mx st sc j := by
  intro j hj
  unfold mx
  rw [hi]
  rcases (show j = 0 ∨ j = 1 ∨ j = 2 ∨ j = 3 ∨ j = 4 ∨ j = 5 ∨ j = 6 ∨ j = 7 by omega) with rfl | rfl | rfl | rfl | rfl | rfl | rfl | rfl <;> rfl
theorem shs_back {M sc2 st1 st2 : Nat → Int32} {b : Nat} (h : ∀ j, j < 8 → st1 j = shs M b j) (h1 : ∀ t, t < 64 → sc2 t = swl (wd M (64 * b)) 48 t) (h2 : ∀ j, j < 8 → st2 j = mx st1 sc2 j) : ∀ j, j < 8 → st2 j = shs M (b + 1) j := by
  intro j hj
  rw [h2 j hj]
  exact mx_congr h h1 j hj
theorem kn_upd (f : Nat → Nat) (k x : Nat) : upd (fun j => nI (f j)) k (nI x) = fun j => nI (va_up f k x j) := by
  funext j
  unfold upd va_up
  by_cases h : j = k
  · rw [if_pos h, if_pos h]
  · rw [if_neg h, if_neg h]
