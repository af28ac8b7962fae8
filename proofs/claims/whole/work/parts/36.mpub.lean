/-! the reference's public methods: pure rows -/
def sn (n i : Nat) : Int32 := nI n - nI (i + 1)
theorem sn_lt {n i : Nat} (hn : n ≤ 8) (h : i ≤ n) (c : sn n i < 0) : i = n := by
  have key : ∀ n, n < 9 → ∀ i, i < n → ¬ sn n i < 0 := by decide
  rcases Nat.lt_or_ge i n with q | q
  · exact absurd c (key n (by omega) i q)
  · omega
theorem sn_nlt {n i : Nat} (hn : n ≤ 8) (h : i ≤ n) (c : ¬ sn n i < 0) : i < n := by
  have key : ∀ n, n < 9 → sn n n < 0 := by decide
  rcases Nat.lt_or_ge i n with q | q
  · exact q
  · have e : i = n := by omega
    subst e
    exact absurd (key i (by omega)) c
theorem sn_n {n i : Nat} (hn : n ≤ 8) (h : i < n) : sn n i = nI (n - 1 - i) := by
  have key : ∀ n, n < 9 → ∀ i, i < n → sn n i = nI (n - 1 - i) := by decide
  exact key n (by omega) i h
theorem sn_s {n i : Nat} (hn : n ≤ 8) (h : i < n) : nI (n - 1 - i) + Int32.ofInt (-1) = sn n (i + 1) := by
  have key : ∀ n, n < 9 → ∀ i, i < n → nI (n - 1 - i) + Int32.ofInt (-1) = sn n (i + 1) := by decide
  exact key n (by omega) i h
theorem hash_m {ms T su : Nat → Int32} {tl k : Nat} (hk : k ≤ 3) (h : ∀ j, j < 8 → su j = hm (cat ms 0 (fun j => (T j).toInt8.toInt32) tl) (0 + tl) j) : lw8 su k = e8 (hsh T tl) (nI k) := by
  rw [lw8_e8 hk]
  refine e8_congr (fun j hj => ?_) _
  rw [h j hj, Nat.zero_add]
  refine hm_congr (fun j hj => ?_) j hj
  unfold cat
  rw [if_pos (by omega)]
  rfl
theorem mine_m {T su : Nat → Int32} {tl : Nat} (h : ∀ j, j < 8 → su j = hm (cat (fun _ => (0 : Int32).toInt8.toInt32) (0 + 1) (fun j => (T j).toInt8.toInt32) tl) (0 + 1 + tl) j) : ∀ j, j < 8 → su j = lfh T tl j := by
  intro j hj
  rw [h j hj, show 0 + 1 + tl = tl + 1 by omega]
  refine hm_congr (fun j hj => ?_) j hj
  unfold lfm cat
  by_cases q : j = 0
  · subst q
    rw [if_pos rfl, if_neg (by omega)]
  · rw [if_neg q, if_pos (by omega)]
theorem one_rel {hs : Nat → Int32} : ∀ j, j < 0 + 1 → upd hs 0 ((0 : Int32) &&& 255) j = (0 : Int32).toInt8.toInt32 &&& 255 := by
  intro j hj
  have e : j = 0 := by omega
  subst e
  rw [pk_us]
  rfl
theorem catL_s0 (ms f : Nat → Int64) (k : Nat) {x : Int64} (hx : x = f k) : vp_updL (catL ms 0 f k) k x = catL ms 0 f (k + 1) := by
  have h := catL_s ms 0 f k hx
  rw [Nat.zero_add] at h
  exact h
theorem lay_up (f : Nat → Nat) (i x : Nat) : va_up f i x i = x := va_up_self f i x
/-- what goes up from F, level by level -/
def pvn (n i : Nat) (L : Nat → Nat → Int32) (F : Nat → Int32) : Nat → Nat → Int32
  | 0 => F
  | t + 1 => if hbt n i t then (if i / 2 ^ t % 2 = 1 then ndh (nv n L t (xo (i / 2 ^ t))) (pvn n i L F t) else ndh (pvn n i L F t) (nv n L t (xo (i / 2 ^ t)))) else pvn n i L F t
theorem pvn_f {n i t : Nat} {L : Nat → Nat → Int32} {F : Nat → Int32} (h : hbt n i t = false) : pvn n i L F (t + 1) = pvn n i L F t := by
  show (if _ then _ else _) = _
  rw [if_neg (by rw [h]; exact Bool.false_ne_true)]
theorem pvn_le {n i : Nat} {L : Nat → Nat → Int32} {F : Nat → Int32} : ∀ b a, a ≤ b → stc n i a = stc n i b → pvn n i L F a = pvn n i L F b := by
  intro b
  induction b with
  | zero =>
    intro a h _
    rw [show a = 0 by omega]
  | succ b ih =>
    intro a h e
    rcases Nat.lt_or_eq_of_le h with q | q
    · have h1 := stc_mono n i (a := a) (b := b) (by omega)
      cases hb : hbt n i b with
      | true =>
        rw [stc_t hb] at e
        omega
      | false =>
        rw [stc_f hb] at e
        rw [pvn_f hb]
        exact ih a (by omega) e
    · rw [q]
theorem pvn_stc {n i : Nat} {L : Nat → Nat → Int32} {F : Nat → Int32} {a b : Nat} (e : stc n i a = stc n i b) : pvn n i L F a = pvn n i L F b := by
  rcases Nat.le_total a b with h | h
  · exact pvn_le b a h e
  · exact (pvn_le a b h e.symm).symm
/-- a byte of the two ids, put together -/
def pg (left : Bool) (x y : Nat → Int64) (b : Nat) : Int32 := byi (if decide (b < 32) = left then x (b % 32 / 8) else y (b % 32 / 8)) (b % 8) &&& 255
theorem pg_x {left : Bool} {x y : Nat → Int64} {b : Nat} (h : decide (b < 32) = left) : byi (x (b % 32 / 8)) (b % 8) &&& 255 = pg left x y b := by
  unfold pg
  rw [if_pos h]
theorem pg_y {left : Bool} {x y : Nat → Int64} {b : Nat} (h : decide (b < 32) ≠ left) : byi (y (b % 32 / 8)) (b % 8) &&& 255 = pg left x y b := by
  unfold pg
  rw [if_neg h]
theorem pg_rel {hs P Q f g : Nat → Int32} {x y : Nat → Int64} {left : Bool} (hx : ∀ a, a < 4 → x a = lw8 f a) (hy : ∀ a, a < 4 → y a = lw8 g a) (h1 : left = true → P = f ∧ Q = g) (h2 : left = false → P = g ∧ Q = f) : ∀ j, j < 0 + 1 + 64 → cat (upd hs 0 ((1 : Int32) &&& 255)) (0 + 1) (pg left x y) 64 j = ndm P Q j &&& 255 := by
  intro j hj
  unfold ndm
  by_cases q : j = 0
  · subst q
    rw [if_pos rfl, cat_lo (by omega), pk_us]
    rfl
  · rw [if_neg q]
    unfold cat
    rw [if_pos (by omega)]
    have key : ∀ (z : Nat → Int64) (w : Nat → Int32), (∀ a, a < 4 → z a = lw8 w a) → byi (z ((j - (0 + 1)) % 32 / 8)) ((j - (0 + 1)) % 8) &&& 255 = wb (w ((j - 1) % 32 / 4)) ((j - 1) % 4) &&& 255 := by
      intro z w hz
      rw [hz _ (by omega), byi_lw8 _ _ (by omega), a255, show 2 * ((j - (0 + 1)) % 32 / 8) + (j - (0 + 1)) % 8 / 4 = (j - 1) % 32 / 4 by omega, show (j - (0 + 1)) % 8 % 4 = (j - 1) % 4 by omega]
    unfold pg
    by_cases q2 : j < 33
    · rw [if_pos q2, decide_eq_true (by omega)]
      have e1 : (j - 1) % 32 / 4 = (j - 1) / 4 := by omega
      cases left with
      | true =>
        rw [if_pos rfl, key x f hx, (h1 rfl).1, e1]
      | false =>
        rw [if_neg (by decide), key y g hy, (h2 rfl).1, e1]
    · rw [if_neg q2, decide_eq_false (by omega)]
      have e1 : (j - 1) % 32 / 4 = (j - 33) / 4 := by omega
      have e2 : (j - 1) % 4 = (j - 33) % 4 := by omega
      cases left with
      | true =>
        rw [if_neg (by decide), key y g hy, (h1 rfl).2, e1, e2]
      | false =>
        rw [if_pos rfl, key x f hx, (h2 rfl).2, e1, e2]
theorem pv_next {n i t j : Nat} {L : Nat → Nat → Int32} {F su P Q : Nat → Int32} (hb : hbt n i t = true) (hj : stc n i t = j) (hsu : ∀ j, j < 8 → su j = hm (ndm P Q) (0 + 1 + 64) j) (h1 : i / 2 ^ t % 2 = 1 → P = nv n L t (xo (i / 2 ^ t)) ∧ Q = pvn n i L F t) (h2 : i / 2 ^ t % 2 ≠ 1 → P = pvn n i L F t ∧ Q = nv n L t (xo (i / 2 ^ t))) : ∀ t', t' ≤ rl n → stc n i t' = j + 1 → ∀ a, a < 4 → lw8 su a = lw8 (pvn n i L F t') a := by
  intro t' _ ht' a ha
  have e : pvn n i L F t' = pvn n i L F (t + 1) := pvn_stc (by rw [ht', stc_t hb, hj])
  rw [e]
  refine lw8_congr (fun j hj => ?_) a ha
  rw [hsu j hj]
  show _ = (if _ then _ else _ : Nat → Int32) j
  rw [if_pos hb]
  by_cases c : i / 2 ^ t % 2 = 1
  · rw [if_pos c, (h1 c).1, (h1 c).2]
    rfl
  · rw [if_neg c, (h2 c).1, (h2 c).2]
    rfl
/-- longs the same -/
def sml (f g : Nat → Int64) : Nat → Bool
  | 0 => true
  | j + 1 => sml f g j && decide (f j = g j)
theorem sml_iff (f g : Nat → Int64) (n : Nat) : sml f g n = true ↔ ∀ j, j < n → f j = g j := by
  induction n with
  | zero => exact ⟨fun _ j hj => absurd hj (Nat.not_lt_zero j), fun _ => rfl⟩
  | succ n ih =>
    show (sml f g n && decide (f n = g n)) = true ↔ _
    rw [Bool.and_eq_true, ih, decide_eq_true_eq]
    constructor
    · intro h j hj
      rcases Nat.lt_or_eq_of_le (Nat.le_of_lt_succ hj) with q | q
      · exact h.1 j q
      · rw [q]
        exact h.2
    · intro h
      exact ⟨fun j hj => h j (by omega), h n (by omega)⟩
theorem lc_0 {x y : Int64} (c : lg_cmp x y = 0) : x = y := by
  unfold lg_cmp at c
  by_cases h : x > y
  · rw [if_pos h] at c
    exact absurd c (by decide)
  · rw [if_neg h] at c
    by_cases h2 : x = y
    · exact h2
    · rw [if_neg h2] at c
      exact absurd c (by decide)
theorem lc_n {x y : Int64} (c : ¬ lg_cmp x y = 0) : x ≠ y := by
  intro e
  subst e
  refine c ?_
  unfold lg_cmp
  rw [if_neg (fun h => Int64.lt_irrefl h), if_pos rfl]
theorem sml_1 {f g : Nat → Int64} {k : Nat} (h : sml f g k = true) (c : f k = g k) : (1 : Int32) = bz (sml f g (k + 1)) := by
  have e : sml f g (k + 1) = true := by
    show (sml f g k && decide (f k = g k)) = true
    rw [h, decide_eq_true c]
    rfl
  rw [e]
  rfl
theorem sml_a {f g : Nat → Int64} {k : Nat} (h : sml f g k = false) : (0 : Int32) = bz (sml f g (k + 1)) := by
  have e : sml f g (k + 1) = false := by
    show (sml f g k && decide (f k = g k)) = false
    rw [h]
    rfl
  rw [e]
  rfl
theorem sml_b {f g : Nat → Int64} {k : Nat} (c : f k ≠ g k) : (0 : Int32) = bz (sml f g (k + 1)) := by
  have e : sml f g (k + 1) = false := by
    show (sml f g k && decide (f k = g k)) = false
    rw [decide_eq_false c, Bool.and_false]
  rw [e]
  rfl
theorem sml_sm {f g : Nat → Int32} {mi R : Nat → Int64} (h1 : ∀ a, a < 4 → mi a = lw8 f a) (h2 : ∀ a, a < 4 → R a = lw8 g a) : sml mi R 4 = sm f g 8 := by
  cases h : sm f g 8 with
  | true =>
    refine (sml_iff _ _ _).mpr (fun a ha => ?_)
    rw [h1 a ha, h2 a ha]
    exact lw8_congr ((sm_iff _ _ _).mp h) a ha
  | false =>
    cases q : sml mi R 4 with
    | false => rfl
    | true =>
      have h3 := (sml_iff _ _ _).mp q
      have h4 := (sm_iff f g 8).mpr (lw8_all (fun a ha => by rw [← h1 a ha, ← h2 a ha]; exact h3 a ha))
      rw [h] at h4
      cases h4
theorem cnt_eq (n : Nat) : (if 0 < n then 1 else 0) + rl n = if n < 1 then 0 else rl n + 1 := by
  rcases Nat.eq_zero_or_pos n with h | h
  · subst h
    rfl
  · rw [if_pos h, if_neg (by omega)]
    omega
theorem catL_in0 {ms f : Nat → Int64} {k a : Nat} (h : a < k) : catL ms 0 f k a = f a := by
  have h1 := catL_in (ms := ms) (n := 0) (f := f) h
  rw [Nat.zero_add] at h1
  exact h1
theorem pv_init {n i t a : Nat} {L : Nat → Nat → Int32} {mi : Nat → Int64} {su F : Nat → Int32} (h : ∀ j, j < 8 → su j = F j) (ht : stc n i t = 0) (ha : a < 4) : catL mi 0 (lw8 su) 4 a = lw8 (pvn n i L F t) a := by
  rw [catL_in0 ha, pvn_stc (b := 0) ht]
  exact lw8_congr h a ha
theorem clm_fd {n i j : Nat} {L : Nat → Nat → Int32} {r : Int32} {cb : Nat} {lw : Nat → Int64} (hn : n ≤ 100) (hi : i < n) (hj : j < stc n i (rl n)) (h : clm n i L (nI j) r cb lw) : ∃ t, t < rl n ∧ hbt n i t = true ∧ stc n i t = j ∧ r = nI (xo (i / 2 ^ t)) ∧ Lw n L t lw := by
  have h1 := stc_le n i (rl n)
  have h2 := rl_lt n
  rcases h with ⟨t, ht, hb, hy, hr, hL⟩ | h
  · exact ⟨t, ht, hb, bes_e (by omega) ht hy, hr, hL⟩
  · obtain ⟨t, ht, hb, hs⟩ := stc_find n i j (rl n) hj
    exact absurd (by rw [hs]) (h.2.2 t ht hb)
theorem xo_p1 {a : Nat} (c : xo a % 2 = 0) : a % 2 = 1 := by
  unfold xo at c
  split at c <;> omega
theorem xo_p0 {a : Nat} (c : xo a % 2 ≠ 0) : ¬ a % 2 = 1 := by
  unfold xo at c
  split at c <;> omega
