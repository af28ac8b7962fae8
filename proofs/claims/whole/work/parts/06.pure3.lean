/-! the tree's numbers: who is beside whom, widths, levels -/
/-- the place beside x -/
def xo (x : Nat) : Nat := if x % 2 = 0 then x + 1 else x - 1
theorem xo_le (x : Nat) : xo x ≤ x + 1 := by
  unfold xo
  split <;> omega
theorem nt_xo : ∀ x, x < 256 → nI x ^^^ nI 1 = nI (xo x) := by decide +kernel
theorem nt_ev : ∀ x, x < 256 → nI x &&& (-2) = nI (x / 2 * 2) := by decide +kernel
theorem nt_od : ∀ x, x < 256 → nI x &&& nI 1 = nI (x % 2) := by decide +kernel
theorem nt_s5 : ∀ n, n < 32 → ((nI n &&& 31).toBitVec.smod 32).toNat = n := by decide +kernel
theorem nt_sh {x t : Nat} (hx : x < 2 ^ 31) (ht : t < 32) : nI x >>> (nI t &&& 31) = nI (x / 2 ^ t) := pk_shrN hx _ t (nt_s5 t ht)
theorem nt_hf {x : Nat} (hx : x < 2 ^ 31) : nI x >>> (nI 1 &&& 31) = nI (x / 2) := nt_sh (t := 1) hx (by decide)
/-- a level's width -/
def wdl (n : Nat) : Nat → Nat
  | 0 => n
  | t + 1 => (wdl n t + 1) / 2
theorem wdl_le (n t : Nat) : wdl n t ≤ n := by
  induction t with
  | zero => exact Nat.le_refl _
  | succ t ih =>
    show (wdl n t + 1) / 2 ≤ n
    rcases Nat.eq_zero_or_pos (wdl n t) with h | h
    · rw [h]
      exact Nat.zero_le _
    · omega
/-- has i's place on level t one beside it -/
def hbt (n i t : Nat) : Bool := decide (xo (i / 2 ^ t) < wdl n t)
/-- how many levels below t have one -/
def stc (n i : Nat) : Nat → Nat
  | 0 => 0
  | t + 1 => stc n i t + (if hbt n i t then 1 else 0)
theorem stc_le (n i t : Nat) : stc n i t ≤ t := by
  induction t with
  | zero => exact Nat.le_refl _
  | succ t ih =>
    show stc n i t + _ ≤ t + 1
    split <;> omega
theorem pow_le {i t : Nat} : i / 2 ^ t ≤ i := Nat.div_le_self _ _
/-- is x a leaf's number -/
def lf (x : Int32) (n : Nat) : Bool := decide (¬ x < 0 ∧ ¬ nI n ≤ x)
theorem lf_a {x : Int32} {n : Nat} (c : x < 0) : (0 : Int32) = bz (lf x n) := by
  have h : lf x n = false := decide_eq_false (fun h => h.1 c)
  rw [h]
  rfl
theorem lf_b {x : Int32} {n : Nat} (c : nI n ≤ x) : (0 : Int32) = bz (lf x n) := by
  have h : lf x n = false := decide_eq_false (fun h => h.2 c)
  rw [h]
  rfl
theorem lf_c {x : Int32} {n : Nat} (c : ¬ x < 0) (d : ¬ nI n ≤ x) : (1 : Int32) = bz (lf x n) := by
  have h : lf x n = true := decide_eq_true ⟨c, d⟩
  rw [h]
  rfl
theorem lf_t {x : Int32} {n : Nat} (hn : n < 2 ^ 31) (h : lf x n = true) : ∃ i : Nat, i < n ∧ x = nI i := by
  have h2 := of_decide_eq_true h
  rcases pk_ix x hn with q | q | q
  · exact absurd q h2.1
  · exact absurd q h2.2
  · exact q
theorem lf_n {i n : Nat} (hn : n < 2 ^ 31) (hi : i < n) : lf (nI i) n = true := decide_eq_true ⟨nI_pos (by omega), fun c => absurd (kn_le c hn (by omega)) (by omega)⟩
theorem lf_f {i n : Nat} (hn : n < 2 ^ 31) (hi2 : i < 2 ^ 31) (h : lf (nI i) n = false) : n ≤ i := by
  rcases Nat.lt_or_ge i n with q | q
  · rw [lf_n hn q] at h
    cases h
  · exact q
/-- eight bytes of an id -/
def e8 (f : Nat → Int32) (k : Int32) : Int64 := if k < 0 ∨ ¬ k ≤ 3 then 0 else ((f (2 * k.toNatClampNeg)).toInt64 <<< ((32 : Int32).toInt64 &&& 63)) ||| ((f (2 * k.toNatClampNeg + 1)).toInt64 &&& 4294967295)
theorem e8_congr {f g : Nat → Int32} (h : ∀ j, j < 8 → f j = g j) (k : Int32) : e8 f k = e8 g k := by
  unfold e8
  split
  · rfl
  · rename_i q
    have h0 : ¬ k < 0 := fun c => q (Or.inl c)
    have h3 : k ≤ 3 := Classical.byContradiction (fun c => q (Or.inr c))
    obtain ⟨j, hj, rfl⟩ := nI_of2 (n := 3) (M := 3) (by decide) h0 h3
    rw [nI_clamp (by omega), h (2 * j) (by omega), h (2 * j + 1) (by omega)]
/-- two ids the same -/
def sm (f g : Nat → Int32) : Nat → Bool
  | 0 => true
  | j + 1 => sm f g j && decide (f j = g j)
theorem sm_iff (f g : Nat → Int32) (n : Nat) : sm f g n = true ↔ ∀ j, j < n → f j = g j := by
  induction n with
  | zero => exact ⟨fun _ j hj => absurd hj (Nat.not_lt_zero j), fun _ => rfl⟩
  | succ n ih =>
    show (sm f g n && decide (f n = g n)) = true ↔ _
    rw [Bool.and_eq_true, ih, decide_eq_true_eq]
    constructor
    · intro h j hj
      rcases Nat.lt_or_eq_of_le (Nat.le_of_lt_succ hj) with q | q
      · exact h.1 j q
      · rw [q]
        exact h.2
    · intro h
      exact ⟨fun j hj => h j (by omega), h n (by omega)⟩
/-- the levels: rl n is where the root is -/
def rl (n : Nat) : Nat := if n ≤ 1 then 0 else if n ≤ 2 then 1 else if n ≤ 4 then 2 else if n ≤ 8 then 3 else if n ≤ 16 then 4 else if n ≤ 32 then 5 else if n ≤ 64 then 6 else 7
theorem rl_lt (n : Nat) : rl n < 8 := by
  unfold rl
  repeat' split
  all_goals omega
theorem rl_ok : ∀ n, n < 101 → wdl n (rl n) ≤ 1 ∧ ∀ t, t < rl n → 1 < wdl n t := by decide +kernel
theorem rl_at {n t : Nat} (hn : n < 101) (h : t ≤ rl n) (c : wdl n t ≤ 1) : t = rl n := by
  rcases Nat.lt_or_eq_of_le h with q | q
  · exact absurd ((rl_ok n hn).2 t q) (by omega)
  · exact q
theorem rl_nat {n t : Nat} (hn : n < 101) (h : t ≤ rl n) (c : 1 < wdl n t) : t < rl n := by
  rcases Nat.lt_or_eq_of_le h with q | q
  · exact q
  · rw [q] at c
    exact absurd (rl_ok n hn).1 (by omega)
/-- nodes: each level's width with 100 leaves fits its place -/
theorem lsv_fit : ∀ t, t < 8 → ∀ x, x < wdl 100 t → lsv t + x < 202 := by decide +kernel
theorem wdl_mono {a b : Nat} (h : a ≤ b) (t : Nat) : wdl a t ≤ wdl b t := by
  induction t with
  | zero => exact h
  | succ t ih =>
    show (_ + 1) / 2 ≤ (_ + 1) / 2
    omega
theorem wdl_in {n i : Nat} (h : i < n) (t : Nat) : i / 2 ^ t < wdl n t := by
  induction t with
  | zero =>
    show i / 1 < n
    rw [Nat.div_one]
    exact h
  | succ t ih =>
    show i / 2 ^ (t + 1) < (wdl n t + 1) / 2
    rw [Nat.pow_succ, ← Nat.div_div_eq_div_mul]
    omega
/-- the words of node k, and a node written -/
def nd (id : Nat → Int32) (k : Nat) : Nat → Int32 := fun j => id (k * 8 + j)
def pn (id : Nat → Int32) (k : Nat) (f : Nat → Int32) : Nat → Int32 := cat id (k * 8) f 8
theorem pn_same (id : Nat → Int32) (k : Nat) (f : Nat → Int32) {j : Nat} (h : j < 8) : nd (pn id k f) k j = f j := cat_in h
theorem pn_ne (id : Nat → Int32) {k i : Nat} (f : Nat → Int32) (h : i ≠ k) {j : Nat} (hj : j < 8) : nd (pn id k f) i j = nd id i j := by
  unfold nd pn cat
  rw [if_neg (by omega)]
theorem pn_congr {id : Nat → Int32} {k : Nat} {f g : Nat → Int32} (h : ∀ j, j < 8 → f j = g j) : pn id k f = pn id k g := by
  unfold pn cat
  funext j
  by_cases q : k * 8 ≤ j ∧ j < k * 8 + 8
  · rw [if_pos q, if_pos q, h _ (by omega)]
  · rw [if_neg q, if_neg q]
theorem hm_ndm {x x' y y' : Nat → Int32} (h : ∀ j, j < 8 → x j = x' j) (h2 : ∀ j, j < 8 → y j = y' j) : ∀ j, j < 8 → ndh x y j = ndh x' y' j := by
  refine hm_congr (fun j hj => ?_)
  unfold ndm
  split
  · rfl
  · split
    · rw [h _ (by omega)]
    · rw [h2 _ (by omega)]
/-- one level of refreshing, and all below t -/
def rf1 (n i t : Nat) (id : Nat → Int32) : Nat → Int32 :=
  if hbt n i t then pn id (lsv (t + 1) + i / 2 ^ (t + 1)) (ndh (nd id (lsv t + i / 2 ^ t / 2 * 2)) (nd id (lsv t + i / 2 ^ t / 2 * 2 + 1)))
  else pn id (lsv (t + 1) + i / 2 ^ (t + 1)) (nd id (lsv t + i / 2 ^ t / 2 * 2))
def rfa (n i : Nat) (id : Nat → Int32) : Nat → Nat → Int32
  | 0 => id
  | t + 1 => rf1 n i t (rfa n i id t)
