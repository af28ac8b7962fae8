/-! rows between the walks and the tree's words -/
theorem pl_fit {n : Nat} (h : n ≤ 183) : n + pl n ≤ 192 := by
  unfold pl pz
  omega
theorem leaf_eq {id ms tp : Nat → Int32} {k tl : Nat} : cat id (k * 8) (hm (cat (upd ms 0 ((0 : Int32).toInt8.toInt32)) (0 + 1) (fun j => (tp j).toInt8.toInt32) tl) (0 + 1 + tl)) 8 = pn id k (lfh tp tl) := by
  rw [show 0 + 1 + tl = tl + 1 by omega]
  refine pn_congr (hm_congr (fun j hj => ?_))
  unfold lfm
  by_cases q : j = 0
  · subst q
    rw [if_pos rfl, cat_lo (by omega), pk_us]
  · rw [if_neg q]
    unfold cat
    rw [if_pos (by omega)]
theorem node_eq {id ms : Nat → Int32} {a b k : Nat} : cat id (k * 8) (hm (cat (cat (upd ms 0 ((1 : Int32).toInt8.toInt32)) (0 + 1) (fun j => wb (id (a * 8 + j / 4)) (j % 4)) 32) (0 + 1 + 32) (fun j => wb (id (b * 8 + j / 4)) (j % 4)) 32) (0 + 1 + 32 + 32)) 8 = pn id k (ndh (nd id a) (nd id b)) := by
  refine pn_congr (hm_congr (fun j hj => ?_))
  unfold ndm
  by_cases q : j = 0
  · subst q
    rw [if_pos rfl, cat_lo (by omega), cat_lo (by omega), pk_us]
  · rw [if_neg q]
    by_cases q2 : j < 33
    · rw [if_pos q2, cat_lo (by omega)]
      unfold cat
      rw [if_pos (by omega)]
      rfl
    · rw [if_neg q2]
      unfold cat
      rw [if_pos (by omega)]
      rfl
theorem e8_lo {f : Nat → Int32} {k : Int32} (c : k < 0) : (0 : Int64) = e8 f k := (if_pos (Or.inl c)).symm
theorem e8_hi {f : Nat → Int32} {k : Int32} (c : ¬ k ≤ 3) : (0 : Int64) = e8 f k := (if_pos (Or.inr c)).symm
theorem e8_in {f : Nat → Int32} {j : Nat} (h : j ≤ 3) : (((f (2 * j)).toInt64 <<< ((32 : Int32).toInt64 &&& 63)) ||| ((f (2 * j + 1)).toInt64 &&& 4294967295)) = e8 f (nI j) := by
  unfold e8
  rw [if_neg, nI_clamp (by omega)]
  intro q
  rcases q with q | q
  · exact nI_pos (by omega) q
  · exact q (nI_le (b := 3) h (by decide))
theorem e8_nd {id : Nat → Int32} {k j : Nat} (h : j ≤ 3) : (((id (k * 8 + 2 * j)).toInt64 <<< ((32 : Int32).toInt64 &&& 63)) ||| ((id (k * 8 + 2 * j + 1)).toInt64 &&& 4294967295)) = e8 (nd id k) (nI j) := by
  have h1 : id (k * 8 + 2 * j) = nd id k (2 * j) := rfl
  have h2 : id (k * 8 + 2 * j + 1) = nd id k (2 * j + 1) := rfl
  rw [h1, h2]
  exact e8_in h
theorem cp_at {id : Nat → Int32} {f t i : Nat} (h : f ≠ t) (hi : i < 8) : cat id (t * 8) (nd id f) i (f * 8 + i) = nd id f i := by
  unfold cat
  rw [if_neg (by omega)]
  rfl
theorem sm_s {f g : Nat → Int32} {i : Nat} (h : sm f g i = true) (c : f i = g i) : sm f g (i + 1) = true := by
  show (sm f g i && decide (f i = g i)) = true
  rw [h, decide_eq_true c]
  rfl
theorem sm_no {f g : Nat → Int32} {i : Nat} (h : i < 8) (c : ¬ f i = g i) : (0 : Int32) = bz (sm f g 8) := by
  have e : sm f g 8 = false := by
    cases q : sm f g 8 with
    | false => rfl
    | true => exact absurd ((sm_iff f g 8).mp q i h) c
  rw [e]
  rfl
theorem nt_pw (i t : Nat) : i / 2 ^ t / 2 = i / 2 ^ (t + 1) := by rw [Nat.pow_succ, ← Nat.div_div_eq_div_mul]
theorem nt_hf2 {i t : Nat} (h : i / 2 ^ t < 2 ^ 31) : nI (i / 2 ^ t) >>> (nI 1 &&& 31) = nI (i / 2 ^ (t + 1)) := by rw [nt_hf h, nt_pw]
theorem rfa_t {n i t : Nat} {id : Nat → Int32} (h : hbt n i t = true) : rfa n i id (t + 1) = pn (rfa n i id t) (lsv (t + 1) + i / 2 ^ (t + 1)) (ndh (nd (rfa n i id t) (lsv t + i / 2 ^ t / 2 * 2)) (nd (rfa n i id t) (lsv t + i / 2 ^ t / 2 * 2 + 1))) := if_pos h
theorem rfa_f {n i t : Nat} {id : Nat → Int32} (h : hbt n i t = false) : rfa n i id (t + 1) = pn (rfa n i id t) (lsv (t + 1) + i / 2 ^ (t + 1)) (nd (rfa n i id t) (lsv t + i / 2 ^ t / 2 * 2)) := if_neg (by rw [h]; exact Bool.false_ne_true)
theorem lsv_mono : ∀ t, t < 7 → lsv t + wdl 100 t ≤ lsv (t + 1) := by decide +kernel
theorem lsv_top : ∀ t, t < 8 → lsv t + wdl 100 t ≤ 202 := by decide +kernel
theorem fit_f {n i t : Nat} (h1 : i < n) (h2 : n ≤ 100) (ht : t < rl n) : lsv t + i / 2 ^ t / 2 * 2 + 1 < 203 ∧ lsv t + i / 2 ^ t / 2 * 2 < lsv (t + 1) + i / 2 ^ (t + 1) := by
  have h3 := wdl_in h1 t
  have h4 := wdl_mono h2 t
  have h5 := rl_lt n
  have h6 := lsv_mono t (by omega)
  have h7 := lsv_top t (by omega)
  have h8 := lsv_top (t + 1) (by omega)
  generalize i / 2 ^ (t + 1) = z
  generalize i / 2 ^ t = y at h3 ⊢
  omega
theorem fit_a {n i t : Nat} (h1 : i < n) (h2 : n ≤ 100) (ht : t < rl n) : lsv (t + 1) + i / 2 ^ (t + 1) < 203 := by
  have h3 := wdl_in h1 (t + 1)
  have h4 := wdl_mono h2 (t + 1)
  have h5 := rl_lt n
  have h8 := lsv_top (t + 1) (by omega)
  omega
theorem kn_of0 {x : Int32} (c : 0 ≤ x) : ∃ j : Nat, j < 2 ^ 31 ∧ x = nI j := nI_of (fun q => absurd (Int32.lt_of_lt_of_le q c) Int32.lt_irrefl)
/-- the level of a step on the way, or -1 -/
def los (n : Nat) (x y r : Int32) : Prop := (∃ i J t : Nat, x = nI i ∧ y = nI J ∧ i < n ∧ J < 2 ^ 31 ∧ t < 8 ∧ hbt n i t = true ∧ stc n i t = J ∧ r = nI t) ∨ (r = -1 ∧ ∀ i J t : Nat, x = nI i → y = nI J → i < n → J < 2 ^ 31 → t < 8 → hbt n i t = true → stc n i t ≠ J)
theorem los_a {n : Nat} {x y : Int32} (hn : n < 2 ^ 31) (c : lf x n = false) : los n x y (-1) := Or.inr ⟨rfl, fun i J t hx hy hi hJ ht hb => by
  subst hx
  rw [lf_n hn hi] at c
  cases c⟩
theorem los_b {n : Nat} {x y : Int32} (c : ¬ 0 ≤ y) : los n x y (-1) := Or.inr ⟨rfl, fun i J t hx hy hi hJ ht hb => by
  subst hy
  exact absurd (nI_pos' hJ) c⟩
theorem los_y {n i J t : Nat} (hn : n ≤ 100) (hi : i < n) (hJ : J < 2 ^ 31) (ht : t < 8) (hb : hbt n i t = true) (hs : stc n i t = J) : los n (nI i) (nI J) (nI t) := Or.inl ⟨i, J, t, rfl, rfl, hi, hJ, ht, hb, hs, rfl⟩
theorem los_n {n i J : Nat} (hn : n ≤ 100) (hi : i < n) (hJ : J < 2 ^ 31) (h : ∀ t, t < 8 → hbt n i t = true → stc n i t ≠ J) : los n (nI i) (nI J) (-1) := Or.inr ⟨rfl, fun i' J' t hx hy hi' hJ' ht hb => by
  have e1 : i = i' := (nI_eq (by omega) (by omega)).mp hx
  have e2 : J = J' := (nI_eq hJ hJ').mp hy
  subst e1
  subst e2
  exact h t ht hb⟩
theorem los_bt {n i0 J i : Nat} (h : ∀ t, t < i → hbt n i0 t = true → stc n i0 t ≠ J) (c : stc n i0 i ≠ J) : ∀ t, t < i + 1 → hbt n i0 t = true → stc n i0 t ≠ J := by
  intro t ht hb
  rcases Nat.lt_or_eq_of_le (Nat.le_of_lt_succ ht) with q | q
  · exact h t q hb
  · rw [q]
    exact c
theorem los_bf {n i0 J i : Nat} (h : ∀ t, t < i → hbt n i0 t = true → stc n i0 t ≠ J) (c : hbt n i0 i = false) : ∀ t, t < i + 1 → hbt n i0 t = true → stc n i0 t ≠ J := by
  intro t ht hb
  rcases Nat.lt_or_eq_of_le (Nat.le_of_lt_succ ht) with q | q
  · exact h t q hb
  · rw [q, c] at hb
    cases hb
theorem stc_t {n i t : Nat} (h : hbt n i t = true) : stc n i (t + 1) = stc n i t + 1 := by
  show stc n i t + _ = _
  rw [if_pos h]
theorem stc_f {n i t : Nat} (h : hbt n i t = false) : stc n i (t + 1) = stc n i t := by
  show stc n i t + _ = _
  rw [if_neg (by rw [h]; exact Bool.false_ne_true)]
  rfl
