/-! rows of the public methods -/
theorem put_n {x : Int32} (c1 : ¬ x < 1) (c2 : ¬ 8 < x) : ∃ n : Nat, 1 ≤ n ∧ n ≤ 8 ∧ x = nI n := by
  have h0 : ¬ x < 0 := fun q => c1 (Int32.lt_trans q (by decide))
  have h8 : x ≤ 8 := Int32.not_lt.mp c2
  obtain ⟨j, hj, rfl⟩ := nI_of2 (n := 8) (M := 8) (by decide) h0 h8
  refine ⟨j, ?_, hj, rfl⟩
  rcases Nat.eq_zero_or_pos j with q | q
  · subst q
    exact absurd (by decide) c1
  · exact q
/-- byte j of n of v, the highest first -/
def pb (v : Int64) (n j : Nat) : Int32 := (((v.toUInt64 >>> ((nI (8 * (n - 1 - j))).toInt64.toUInt64 &&& Int64.toUInt64 63)).toInt64).toInt32).toInt8.toInt32
/-- the digest of the tape -/
def hsh (tp : Nat → Int32) (n : Nat) : Nat → Int32 := hm (fun j => (tp j).toInt8.toInt32) n
theorem hash_eq {id ms tp : Nat → Int32} {tl : Nat} : cat id (202 * 8) (hm (cat ms 0 (fun j => (tp j).toInt8.toInt32) tl) (0 + tl)) 8 = pn id 202 (hsh tp tl) := by
  rw [Nat.zero_add]
  refine pn_congr (hm_congr (fun j hj => ?_))
  unfold cat
  rw [if_pos (by omega)]
  rfl
theorem upup {α : Type} (f : Nat → α) (k : Nat) (v w : α) : va_up (va_up f k v) k w = va_up f k w := by
  funext j
  unfold va_up
  by_cases h : j = k
  · rw [if_pos h, if_pos h]
  · rw [if_neg h, if_neg h, if_neg h]
theorem kn_asub {a b d : Nat} (h : d ≤ a + b) : nI a + (nI b - nI d) = nI (a + b - d) := by
  rw [← pk_sub h, ← nI_add, Int32.sub_eq_add_neg, Int32.sub_eq_add_neg, Int32.add_assoc]
theorem lsv_fit1 : ∀ t, t < 8 → lsv t < 203 := by decide
theorem los_ge {n : Nat} {x y r : Int32} (h : los n x y r) (c : 0 ≤ r) : ∃ i J t : Nat, x = nI i ∧ y = nI J ∧ i < n ∧ J < 2 ^ 31 ∧ t < 8 ∧ hbt n i t = true ∧ stc n i t = J ∧ r = nI t := by
  rcases h with h | h
  · exact h
  · rw [h.1] at c
    exact absurd c (by decide)
theorem los_lt {n : Nat} {x y r : Int32} (h : los n x y r) (c : ¬ 0 ≤ r) : ∀ i J t : Nat, x = nI i → y = nI J → i < n → J < 2 ^ 31 → t < 8 → hbt n i t = true → stc n i t ≠ J := by
  rcases h with h | h
  · obtain ⟨i, J, t, -, -, -, -, ht, -, -, rfl⟩ := h
    exact absurd (nI_pos' (by omega)) c
  · exact h.2
theorem fit_x {n i t : Nat} (h1 : i < n) (h2 : n ≤ 100) (ht : t < 8) (hb : hbt n i t = true) : lsv t + xo (i / 2 ^ t) < 203 := by
  have h3 : xo (i / 2 ^ t) < wdl n t := of_decide_eq_true hb
  have h4 := wdl_mono h2 t
  have h7 := lsv_top t ht
  omega
theorem stc_mono (n i : Nat) {a b : Nat} (h : a ≤ b) : stc n i a ≤ stc n i b := by
  induction b with
  | zero =>
    have e : a = 0 := by omega
    rw [e]
    exact Nat.le_refl _
  | succ b ih =>
    rcases Nat.lt_or_eq_of_le h with q | q
    · refine Nat.le_trans (ih (by omega)) ?_
      show _ ≤ stc n i b + _
      omega
    · rw [q]
      exact Nat.le_refl _
/-- every step below the last one has its level -/
theorem stc_find (n i J : Nat) : ∀ b, J < stc n i b → ∃ t, t < b ∧ hbt n i t = true ∧ stc n i t = J := by
  intro b
  induction b with
  | zero =>
    intro h
    exact absurd h (Nat.not_lt_zero J)
  | succ b ih =>
    intro h
    by_cases q : J < stc n i b
    · obtain ⟨t, h1, h2⟩ := ih q
      exact ⟨t, by omega, h2⟩
    · cases hb : hbt n i b with
      | true =>
        rw [stc_t hb] at h
        exact ⟨b, by omega, hb, by omega⟩
      | false =>
        rw [stc_f hb] at h
        exact absurd h q
theorem way_go {n i0 i : Nat} {r : Int32} (h1 : i0 < n) (hn : n < 2 ^ 31) (hi : i < 2 ^ 31) (h : los n (nI i0) (nI i) r) (c : ¬ r < 0) : i + 1 ≤ stc n i0 8 := by
  obtain ⟨a, J, t, hx, hy, ha, hJ, ht, hb, hs, -⟩ := los_ge h (Int32.not_lt.mp c)
  have e1 : i0 = a := (nI_eq (by omega) (by omega)).mp hx
  have e2 : i = J := (nI_eq hi hJ).mp hy
  subst e1
  subst e2
  have h2 := stc_t hb
  have h3 := stc_mono n i0 (a := t + 1) (b := 8) (by omega)
  omega
theorem way_no {n i0 i : Nat} {r : Int32} (h1 : i0 < n) (hn : n < 2 ^ 31) (hi : i < 2 ^ 31) (hle : i ≤ stc n i0 8) (h : los n (nI i0) (nI i) r) (c : r < 0) : i = stc n i0 8 := by
  rcases Nat.lt_or_eq_of_le hle with q | q
  · obtain ⟨t, ht, hb, hs⟩ := stc_find n i0 i 8 q
    exact absurd hs (los_lt h (fun g => absurd (Int32.lt_of_lt_of_le c g) Int32.lt_irrefl) i0 i t rfl rfl h1 hi ht hb)
  · exact q
theorem way_8 {n i : Nat} (h : 8 ≤ stc n i 8) : nI 8 = nI (stc n i 8) := by
  have h2 := stc_le n i 8
  rw [show stc n i 8 = 8 by omega]
/-- what goes up from the leaf i, out of F -/
def pvh (n i : Nat) (id F : Nat → Int32) : Nat → Nat → Int32
  | 0 => F
  | t + 1 => if hbt n i t then (if i / 2 ^ t % 2 = 1 then ndh (nd id (lsv t + xo (i / 2 ^ t))) (pvh n i id F t) else ndh (pvh n i id F t) (nd id (lsv t + xo (i / 2 ^ t)))) else pvh n i id F t
theorem pv_f {n i t : Nat} {id F : Nat → Int32} (h : hbt n i t = false) : pn id 202 (pvh n i id F (t + 1)) = pn id 202 (pvh n i id F t) := by
  show pn id 202 (if _ then _ else _) = _
  rw [if_neg (by rw [h]; exact Bool.false_ne_true)]
theorem pn_pn {id f g : Nat → Int32} {k : Nat} : pn (pn id k f) k g = pn id k g := by
  unfold pn cat
  funext j
  by_cases q : k * 8 ≤ j ∧ j < k * 8 + 8
  · rw [if_pos q, if_pos q]
  · rw [if_neg q, if_neg q, if_neg q]
theorem fit_x2 {n i t : Nat} (h1 : i < n) (h2 : n ≤ 100) (ht : t < 8) (hb : hbt n i t = true) : lsv t + xo (i / 2 ^ t) < 202 := by
  have h3 : xo (i / 2 ^ t) < wdl n t := of_decide_eq_true hb
  have h4 := wdl_mono h2 t
  have h7 := lsv_top t ht
  omega
theorem pv_o {n i t : Nat} {id F : Nat → Int32} (h : hbt n i t = true) (hf : lsv t + xo (i / 2 ^ t) < 202) (c : i / 2 ^ t % 2 = 1) : pn (pn id 202 (pvh n i id F t)) 202 (ndh (nd (pn id 202 (pvh n i id F t)) (lsv t + xo (i / 2 ^ t))) (nd (pn id 202 (pvh n i id F t)) 202)) = pn id 202 (pvh n i id F (t + 1)) := by
  rw [pn_pn]
  refine pn_congr (fun j hj => ?_)
  show _ = (if _ then _ else _ : Nat → Int32) j
  rw [if_pos h, if_pos c]
  exact hm_ndm (fun j hj => pn_ne _ _ (by omega) hj) (fun j hj => pn_same _ _ _ hj) j hj
theorem pv_e {n i t : Nat} {id F : Nat → Int32} (h : hbt n i t = true) (hf : lsv t + xo (i / 2 ^ t) < 202) (c : i / 2 ^ t % 2 ≠ 1) : pn (pn id 202 (pvh n i id F t)) 202 (ndh (nd (pn id 202 (pvh n i id F t)) 202) (nd (pn id 202 (pvh n i id F t)) (lsv t + xo (i / 2 ^ t)))) = pn id 202 (pvh n i id F (t + 1)) := by
  rw [pn_pn]
  refine pn_congr (fun j hj => ?_)
  show _ = (if _ then _ else _ : Nat → Int32) j
  rw [if_pos h, if_neg c]
  exact hm_ndm (fun j hj => pn_same _ _ _ hj) (fun j hj => pn_ne _ _ (by omega) hj) j hj
theorem sm_congr {f f' g g' : Nat → Int32} (n : Nat) (h : ∀ j, j < n → f j = f' j) (h2 : ∀ j, j < n → g j = g' j) : sm f g n = sm f' g' n := by
  induction n with
  | zero => rfl
  | succ n ih =>
    show (sm f g n && decide (f n = g n)) = (sm f' g' n && decide (f' n = g' n))
    rw [ih (fun j hj => h j (by omega)) (fun j hj => h2 j (by omega)), h n (by omega), h2 n (by omega)]
theorem lsv_fit2 : ∀ t, t < 8 → lsv t < 202 := by decide
theorem pv_end1 {id F : Nat → Int32} {k : Nat} (hk : k < 202) (c : sm (nd (pn id 202 F) 202) (nd (pn id 202 F) k) 8 = true) : (1 : Int32) = bz (sm F (nd id k) 8) := by
  rw [sm_congr 8 (fun j hj => pn_same _ _ _ hj) (fun j hj => pn_ne _ _ (by omega) hj)] at c
  rw [c]
  rfl
theorem pv_end0 {id F : Nat → Int32} {k : Nat} (hk : k < 202) (c : sm (nd (pn id 202 F) 202) (nd (pn id 202 F) k) 8 = false) : (0 : Int32) = bz (sm F (nd id k) 8) := by
  rw [sm_congr 8 (fun j hj => pn_same _ _ _ hj) (fun j hj => pn_ne _ _ (by omega) hj)] at c
  rw [c]
  rfl
