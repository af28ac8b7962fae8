/-! the reference's levels -/
def Lw (n : Nat) (L : Nat → Nat → Int32) (t : Nat) (lw : Nat → Int64) : Prop := ∀ x, x < wdl n t → ∀ a, a < 4 → lw (4 * x + a) = lw8 (nv n L t x) a
/-- the leaves' ids -/
def lid (LB : Nat → Nat → Int32) (sz : Nat → Nat) : Nat → Nat → Int32 := fun k => lfh (LB k) (sz k)
theorem low_rel {hs bs : Nat → Int32} {LB : Nat → Nat → Int32} {sz : Nat → Nat} {i : Nat} (h : ∀ y, y < sz i → bs (150 * i + y) = LB i y &&& 255) : ∀ j, j < 0 + 1 + sz i → cat (upd hs 0 ((0 : Int32) &&& 255)) (0 + 1) (fun y => bs (150 * i + y) &&& 255) (sz i) j = lfm (LB i) j &&& 255 := by
  intro j hj
  unfold lfm
  by_cases q : j = 0
  · subst q
    rw [if_pos rfl, cat_lo (by omega), pk_us]
    rfl
  · rw [if_neg q, b255]
    unfold cat
    rw [if_pos (by omega)]
    show bs (150 * i + (j - (0 + 1))) &&& 255 = _
    rw [h _ (by omega), a255]
theorem low_id {LB : Nat → Nat → Int32} {sz : Nat → Nat} {i : Nat} {su : Nat → Int32} (h : ∀ j, j < 8 → su j = hm (lfm (LB i)) (0 + 1 + sz i) j) : ∀ j, j < 8 → su j = lid LB sz i j := by
  intro j hj
  rw [h j hj, show 0 + 1 + sz i = sz i + 1 by omega]
  rfl
theorem low_back {lw : Nat → Int64} {L : Nat → Nat → Int32} {su : Nat → Int32} {i : Nat} (h : ∀ x, x < i → ∀ a, a < 4 → lw (4 * x + a) = lw8 (L x) a) (hs : ∀ j, j < 8 → su j = L i j) : ∀ x, x < i + 1 → ∀ a, a < 4 → catL lw (4 * i) (lw8 su) 4 (4 * x + a) = lw8 (L x) a := by
  intro x hx a ha
  by_cases q : x = i
  · subst q
    rw [catL_in ha]
    exact lw8_congr hs a ha
  · rw [catL_out (by omega)]
    exact h x (by omega) a ha
/-- up: the message of node i -/
theorem up_rel {hs : Nat → Int32} {lw : Nat → Int64} {f g : Nat → Int32} {i : Nat} (h : ∀ a, a < 4 → lw (4 * (2 * i) + a) = lw8 f a) (h2 : ∀ a, a < 4 → lw (4 * (2 * i + 1) + a) = lw8 g a) : ∀ j, j < 0 + 1 + 64 → cat (upd hs 0 ((1 : Int32) &&& 255)) (0 + 1) (fun y => byi (lw (8 * i + y / 8)) (y % 8) &&& 255) 64 j = ndm f g j &&& 255 := by
  intro j hj
  unfold ndm
  by_cases q : j = 0
  · subst q
    rw [if_pos rfl, cat_lo (by omega), pk_us]
    rfl
  · rw [if_neg q]
    unfold cat
    rw [if_pos (by omega)]
    show byi (lw (8 * i + (j - (0 + 1)) / 8)) ((j - (0 + 1)) % 8) &&& 255 = _
    by_cases q2 : j < 33
    · rw [if_pos q2, show 8 * i + (j - (0 + 1)) / 8 = 4 * (2 * i) + (j - 1) / 8 by omega, h _ (by omega), byi_lw8 _ _ (by omega), a255]
      rw [show 2 * ((j - 1) / 8) + (j - (0 + 1)) % 8 / 4 = (j - 1) / 4 by omega, show (j - (0 + 1)) % 8 % 4 = (j - 1) % 4 by omega]
    · rw [if_neg q2, show 8 * i + (j - (0 + 1)) / 8 = 4 * (2 * i + 1) + ((j - 33) / 8) by omega, h2 _ (by omega), byi_lw8 _ _ (by omega), a255]
      rw [show 2 * ((j - 33) / 8) + (j - (0 + 1)) % 8 / 4 = (j - 33) / 4 by omega, show (j - (0 + 1)) % 8 % 4 = (j - 33) % 4 by omega]
theorem up_a {lw : Nat → Int64} {n t i : Nat} {L : Nat → Nat → Int32} {su : Nat → Int32} (hi : i < wdl n t / 2) (h : ∀ x, x < i → ∀ a, a < 4 → lw (4 * x + a) = lw8 (nv n L (t + 1) x) a) (hs : ∀ j, j < 8 → su j = hm (ndm (nv n L t (2 * i)) (nv n L t (2 * i + 1))) (0 + 1 + 64) j) : ∀ x, x < i + 1 → ∀ a, a < 4 → catL lw (4 * i) (lw8 su) 4 (4 * x + a) = lw8 (nv n L (t + 1) x) a := by
  refine low_back h (fun j hj => ?_)
  rw [hs j hj, nv_s, if_pos (by omega)]
  rfl
theorem up_b {lw : Nat → Int64} {n t i m : Nat} {L : Nat → Nat → Int32} {su : Nat → Int32} (h : ∀ x, 2 * i ≤ x → x < m → ∀ a, a < 4 → lw (4 * x + a) = lw8 (nv n L t x) a) : ∀ x, 2 * (i + 1) ≤ x → x < m → ∀ a, a < 4 → catL lw (4 * i) (lw8 su) 4 (4 * x + a) = lw8 (nv n L t x) a := by
  intro x h1 h2 a ha
  rw [catL_out (by omega)]
  exact h x (by omega) h2 a ha
theorem up_even {lw : Nat → Int64} {n t m : Nat} {L : Nat → Nat → Int32} (hm : m = wdl n t) (he : m % 2 ≠ 1) (h : ∀ x, x < m / 2 → ∀ a, a < 4 → lw (4 * x + a) = lw8 (nv n L (t + 1) x) a) : Lw n L (t + 1) lw := by
  intro x hx a ha
  have hx2 : x < (wdl n t + 1) / 2 := hx
  exact h x (by omega) a ha
theorem up_odd {lw : Nat → Int64} {n t m : Nat} {L : Nat → Nat → Int32} (hm : m = wdl n t) (h3 : 1 < m) (he : m % 2 = 1) (h : ∀ x, x < m / 2 → ∀ a, a < 4 → lw (4 * x + a) = lw8 (nv n L (t + 1) x) a) (hb : ∀ x, 2 * (m / 2) ≤ x → x < m → ∀ a, a < 4 → lw (4 * x + a) = lw8 (nv n L t x) a) : Lw n L (t + 1) (catL lw (2 * (m - 1)) (fun a => lw (4 * (m - 1) + a)) 4) := by
  intro x hx a ha
  have hx2 : x < (wdl n t + 1) / 2 := hx
  by_cases q : x = m / 2
  · rw [show 4 * x + a = 2 * (m - 1) + a by omega, catL_in ha]
    show lw (4 * (m - 1) + a) = _
    rw [hb (m - 1) (by omega) (by omega) a ha, nv_s, if_neg (by omega), show 2 * x = m - 1 by omega]
  · rw [catL_out (by omega)]
    exact h x (by omega) a ha
theorem up_ev0 {lw F : Nat → Int64} {n t m k z : Nat} {L : Nat → Nat → Int32} (hik : m % 2 = 1 ∨ k = 0) (hm : m = wdl n t) (he : m % 2 ≠ 1) (h : ∀ x, x < m / 2 → ∀ a, a < 4 → lw (4 * x + a) = lw8 (nv n L (t + 1) x) a) : Lw n L (t + 1) (catL lw z F k) := by
  have e : k = 0 := hik.resolve_left he
  subst e
  rw [catL_0]
  exact up_even hm he h
theorem up_cp {lw : Nat → Int64} {m i : Nat} (h3 : 1 < m) (he : m % 2 = 1) (hi : i < 4) : catL lw (2 * (m - 1)) (fun a => lw (4 * (m - 1) + a)) i (4 * (m - 1) + i) = (fun a => lw (4 * (m - 1) + a)) i := catL_out (by omega)
theorem Lw_root {n : Nat} {L : Nat → Nat → Int32} {lw : Nat → Int64} (hn : 0 < n) (h : Lw n L (rl n) lw) {j : Nat} (hj : j ≤ 3) : lw j = e8 (nv n L (rl n) 0) (nI j) := by
  have h1 := wdl_in hn (rl n)
  rw [Nat.zero_div] at h1
  have h2 := h 0 h1 j (by omega)
  rw [Nat.mul_zero, Nat.zero_add] at h2
  rw [h2]
  exact lw8_e8 hj
theorem xo_ev {a : Nat} (c : a % 2 = 0) : nI a + nI 1 = nI (xo a) := by
  unfold xo
  rw [if_pos c]
  exact nI_add a 1
theorem xo_od {a : Nat} (c : a % 2 ≠ 0) : nI a - nI 1 = nI (xo a) := by
  unfold xo
  rw [if_neg c]
  exact pk_sub (by omega)
theorem nt_dv2 {i t : Nat} (h : i / 2 ^ t < 2 ^ 31) : nI (i / 2 ^ t) / nI 2 = nI (i / 2 ^ (t + 1)) := by rw [pk_div h (by decide) (by decide), nt_pw]
theorem hb_no {n i t : Nat} (c : wdl n t ≤ xo (i / 2 ^ t)) : hbt n i t = false := decide_eq_false (by omega)
theorem hb_yes {n i t : Nat} (c : xo (i / 2 ^ t) < wdl n t) : hbt n i t = true := decide_eq_true c
/-- what climbing found -/
def clm (n i : Nat) (L : Nat → Nat → Int32) (y r : Int32) (cb : Nat) (lw : Nat → Int64) : Prop := (∃ t, t < rl n ∧ hbt n i t = true ∧ y = nI (stc n i t) ∧ r = nI (xo (i / 2 ^ t)) ∧ Lw n L t lw) ∨ (r = -1 ∧ cb = stc n i (rl n) ∧ ∀ t, t < rl n → hbt n i t = true → y ≠ nI (stc n i t))
theorem clm_t {n i s : Nat} {y : Int32} (h : ∀ t, t < s → hbt n i t = true → y ≠ nI (stc n i t)) (c : ¬ nI (stc n i s) = y) : ∀ t, t < s + 1 → hbt n i t = true → y ≠ nI (stc n i t) := by
  intro t ht hb
  rcases Nat.lt_or_eq_of_le (Nat.le_of_lt_succ ht) with q | q
  · exact h t q hb
  · rw [q]
    exact fun e => c e.symm
theorem clm_f {n i s : Nat} {y : Int32} (h : ∀ t, t < s → hbt n i t = true → y ≠ nI (stc n i t)) (c : hbt n i s = false) : ∀ t, t < s + 1 → hbt n i t = true → y ≠ nI (stc n i t) := by
  intro t ht hb
  rcases Nat.lt_or_eq_of_le (Nat.le_of_lt_succ ht) with q | q
  · exact h t q hb
  · rw [q, c] at hb
    cases hb
/-- beyond the root's level nothing is beside -/
theorem hb_hi {n i t : Nat} (hn : n ≤ 100) (hi : i < n) (h : rl n ≤ t) : hbt n i t = false := by
  have h1 := (rl_ok n (by omega)).1
  have h2 : ∀ s, rl n ≤ s → wdl n s ≤ 1 := by
    intro s
    induction s with
    | zero =>
      intro hs
      have e : rl n = 0 := by omega
      rw [e] at h1
      exact h1
    | succ s ih =>
      intro hs
      rcases Nat.lt_or_eq_of_le hs with q | q
      · have h3 := ih (by omega)
        show (wdl n s + 1) / 2 ≤ 1
        omega
      · rw [← q]
        exact h1
  have h4 := h2 t h
  have h5 := wdl_in hi t
  refine hb_no ?_
  have h6 : i / 2 ^ t = 0 := Nat.lt_one_iff.mp (Nat.lt_of_lt_of_le h5 h4)
  rw [h6]
  exact h4
theorem stc_rl {n i : Nat} (hn : n ≤ 100) (hi : i < n) : ∀ t, rl n ≤ t → stc n i t = stc n i (rl n) := by
  intro t
  induction t with
  | zero =>
    intro h
    rw [show rl n = 0 by omega]
  | succ t ih =>
    intro h
    rcases Nat.lt_or_eq_of_le h with q | q
    · rw [stc_f (hb_hi hn hi (by omega))]
      exact ih (by omega)
    · rw [q]
/-- all bytes of all leaves -/
def tot (f : Nat → Nat) : Nat → Nat
  | 0 => 0
  | k + 1 => tot f k + f k
theorem tot_le {f : Nat → Nat} {n : Nat} (h : ∀ k, k < n → f k ≤ 150) : tot f n ≤ 150 * n := by
  induction n with
  | zero => exact Nat.le_refl _
  | succ n ih =>
    have h1 := ih (fun k hk => h k (by omega))
    have h2 := h n (by omega)
    show tot f n + f n ≤ _
    omega
theorem rt_no {x : Int32} {n : Nat} (c1 : ¬ x < 0) (c2 : ¬ 3 < x) (c3 : n ≠ 0) : ¬ (n = 0 ∨ x < 0 ∨ 3 < x) := by
  intro h
  rcases h with h | h | h
  · exact c3 h
  · exact c1 h
  · exact c2 h
theorem clm_way {n i : Nat} {L : Nat → Nat → Int32} {r : Int32} {cb : Nat} {lw : Nat → Int64} (h : clm n i L (-1) r cb lw) : cb = stc n i (rl n) := by
  rcases h with ⟨t, ht, hb, hy, -⟩ | h
  · have h2 := stc_le n i t
    have h3 := rl_lt n
    exact absurd (nI_pos' (n := stc n i t) (by omega)) (by rw [← hy]; decide)
  · exact h.2.1
theorem clm_ge {n i : Nat} {L : Nat → Nat → Int32} {y r : Int32} {cb : Nat} {lw : Nat → Int64} (h : clm n i L y r cb lw) (c : 0 ≤ r) : ∃ t, t < rl n ∧ hbt n i t = true ∧ y = nI (stc n i t) ∧ r = nI (xo (i / 2 ^ t)) ∧ Lw n L t lw := by
  rcases h with h | h
  · exact h
  · rw [h.1] at c
    exact absurd c (by decide)
theorem clm_lt {n i : Nat} {L : Nat → Nat → Int32} {y r : Int32} {cb : Nat} {lw : Nat → Int64} (hn : n ≤ 100) (hi : i < n) (h : clm n i L y r cb lw) (c : ¬ 0 ≤ r) : ∀ t, t < rl n → hbt n i t = true → y ≠ nI (stc n i t) := by
  rcases h with ⟨t, ht, hb, hy, hr, -⟩ | h
  · have h1 : xo (i / 2 ^ t) < wdl n t := of_decide_eq_true hb
    have h2 := wdl_le n t
    exact absurd (by rw [hr]; exact nI_pos' (by omega)) c
  · exact h.2.2
theorem bes_e {n i t J : Nat} (hJ : J < 2 ^ 31) (ht : t < rl n) (h : nI J = nI (stc n i t)) : stc n i t = J := by
  have h1 := stc_le n i t
  have h2 := rl_lt n
  exact ((nI_eq hJ (by omega)).mp h).symm
/-- isLeft and beside, as the reference answers -/
def non (n : Nat) (x y : Int32) : Prop := ∀ i J t : Nat, x = nI i → y = nI J → i < n → J < 2 ^ 31 → t < rl n → hbt n i t = true → stc n i t ≠ J
def ism (n : Nat) (x y r : Int32) : Prop := (∃ i J t : Nat, x = nI i ∧ y = nI J ∧ i < n ∧ J < 2 ^ 31 ∧ t < rl n ∧ hbt n i t = true ∧ stc n i t = J ∧ r = nI (i / 2 ^ t % 2)) ∨ (r = -1 ∧ non n x y)
def bsm (n : Nat) (L : Nat → Nat → Int32) (x y z : Int32) (r : Int64) : Prop := (∃ i J t : Nat, x = nI i ∧ y = nI J ∧ i < n ∧ J < 2 ^ 31 ∧ t < rl n ∧ hbt n i t = true ∧ stc n i t = J ∧ r = e8 (nv n L t (xo (i / 2 ^ t))) z) ∨ (r = 0 ∧ ((z < 0 ∨ ¬ z ≤ 3) ∨ non n x y))
theorem non_a {n : Nat} {x y : Int32} (hn : n < 2 ^ 31) (c : lf x n = false) : non n x y := by
  intro i J t hx hy hi hJ ht hb
  subst hx
  rw [lf_n hn hi] at c
  cases c
theorem non_b {n : Nat} {x y : Int32} (c : y < 0) : non n x y := by
  intro i J t hx hy hi hJ ht hb
  subst hy
  exact absurd c (nI_pos hJ)
theorem non_n {n i J : Nat} (hn : n ≤ 100) (hi : i < n) (hJ : J < 2 ^ 31) (h : ∀ t, t < rl n → hbt n i t = true → nI J ≠ nI (stc n i t)) : non n (nI i) (nI J) := by
  intro i' J' t hx hy hi' hJ' ht hb e
  have e1 : i = i' := (nI_eq (by omega) (by omega)).mp hx
  have e2 : J = J' := (nI_eq hJ hJ').mp hy
  subst e1
  subst e2
  exact h t ht hb (by rw [e])
theorem nlt0 {y : Int32} (c : ¬ 0 ≤ y) : y < 0 := Int32.not_le.mp c
theorem il_1 {a : Nat} (c : xo a % 2 = 0) : (1 : Int32) = nI (a % 2) := by
  have h : a % 2 = 1 := by
    unfold xo at c
    split at c <;> omega
  rw [h]
  rfl
theorem il_0 {a : Nat} (c : xo a % 2 ≠ 0) : (0 : Int32) = nI (a % 2) := by
  have h : a % 2 = 0 := by
    unfold xo at c
    split at c <;> omega
  rw [h]
  rfl
