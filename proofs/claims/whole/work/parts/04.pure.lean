/-! the pure words of SHA-256 and of rows of bytes -/
theorem kn_inc (a b : Nat) (n : Nat) (h : b = a + n) : nI a + Int32.ofInt (n : Int) = nI b := by
  subst h
  exact nI_add a n
theorem kn_sub {a b d : Nat} (h : a = d + b) : nI a - nI b = nI d := by
  subst h
  rw [pk_sub (Nat.le_add_left _ _), Nat.add_sub_cancel]
/-- f's first k come at n -/
def cat (ms : Nat → Int32) (n : Nat) (f : Nat → Int32) (k : Nat) : Nat → Int32 := fun j => if n ≤ j ∧ j < n + k then f (j - n) else ms j
theorem cat_0 (ms : Nat → Int32) (n : Nat) (f : Nat → Int32) : cat ms n f 0 = ms := by
  funext j
  unfold cat
  rw [if_neg (by omega)]
theorem cat_s (ms : Nat → Int32) (n : Nat) (f : Nat → Int32) (k : Nat) {x : Int32} (hx : x = f k) : upd (cat ms n f k) (n + k) x = cat ms n f (k + 1) := by
  subst hx
  funext j
  unfold upd cat
  by_cases h : j = n + k
  · subst h
    rw [if_pos rfl, if_pos (by omega), Nat.add_sub_cancel_left]
  · rw [if_neg h]
    by_cases h2 : n ≤ j ∧ j < n + k
    · rw [if_pos h2, if_pos (by omega)]
    · rw [if_neg h2, if_neg (by omega)]
theorem cat_lo {ms : Nat → Int32} {n : Nat} {f : Nat → Int32} {k j : Nat} (h : j < n) : cat ms n f k j = ms j := by
  unfold cat
  rw [if_neg (by omega)]
theorem cat_in {ms : Nat → Int32} {n : Nat} {f : Nat → Int32} {k j : Nat} (h : j < k) : cat ms n f k (n + j) = f j := by
  unfold cat
  rw [if_pos (by omega), Nat.add_sub_cancel_left]
theorem cat_cat {ms : Nat → Int32} {n : Nat} {f g h : Nat → Int32} {a b : Nat} (h1 : ∀ j, j < a → h j = f j) (h2 : ∀ j, j < b → h (a + j) = g j) : cat (cat ms n f a) (n + a) g b = cat ms n h (a + b) := by
  funext j
  unfold cat
  by_cases q : n + a ≤ j ∧ j < n + a + b
  · rw [if_pos q, if_pos (by omega), ← h2 (j - (n + a)) (by omega)]
    congr 1
    omega
  · rw [if_neg q]
    by_cases q2 : n ≤ j ∧ j < n + a
    · rw [if_pos q2, if_pos (by omega), h1 _ (by omega)]
    · rw [if_neg q2, if_neg (by omega)]
/-- the four bytes of a word -/
def wb (w : Int32) (j : Nat) : Int32 := match j with
  | 0 => ((w.toUInt32 >>> ((24 : Int32).toUInt32 &&& Int32.toUInt32 31)).toInt32).toInt8.toInt32
  | 1 => ((w.toUInt32 >>> ((16 : Int32).toUInt32 &&& Int32.toUInt32 31)).toInt32).toInt8.toInt32
  | 2 => ((w.toUInt32 >>> ((8 : Int32).toUInt32 &&& Int32.toUInt32 31)).toInt32).toInt8.toInt32
  | _ => w.toInt8.toInt32
/-- a turn to the right -/
def tn (w n : Int32) : Int32 := (w.toUInt32 >>> (n.toUInt32 &&& Int32.toUInt32 31)).toInt32 ||| (w <<< ((32 - n) &&& 31))
def us (w n : Int32) : Int32 := (w.toUInt32 >>> (n.toUInt32 &&& Int32.toUInt32 31)).toInt32
/-- word t of the block at f -/
def wd (ms : Nat → Int32) (f t : Nat) : Int32 := (((ms (f + 4 * t) &&& 255) <<< ((24 : Int32) &&& 31) ||| (ms (f + 4 * t + 1) &&& 255) <<< ((16 : Int32) &&& 31)) ||| (ms (f + 4 * t + 2) &&& 255) <<< ((8 : Int32) &&& 31)) ||| (ms (f + 4 * t + 3) &&& 255)
def s0 (x : Int32) : Int32 := (tn x 7 ^^^ tn x 18) ^^^ us x 3
def s1 (x : Int32) : Int32 := (tn x 17 ^^^ tn x 19) ^^^ us x 10
/-- the schedule, k words behind the first sixteen -/
def swl (w : Nat → Int32) : Nat → Nat → Int32
  | 0 => w
  | k + 1 => upd (swl w k) (16 + k) (((swl w k k + s0 (swl w k (k + 1))) + swl w k (k + 9)) + s1 (swl w k (k + 14)))
theorem swl_hi (w : Nat → Int32) (k : Nat) : ∀ j, 16 + k ≤ j → swl w k j = w j := by
  induction k with
  | zero => intro j _; rfl
  | succ k ih =>
    intro j hj
    show upd _ _ _ j = _
    rw [pk_un (by omega)]
    exact ih j (by omega)
theorem swl_s (w : Nat → Int32) (k j : Nat) (h : j < 16 + k) : swl w (k + 1) j = swl w k j := pk_un (by omega)
theorem swl_congr {w v : Nat → Int32} (h : ∀ j, j < 16 → w j = v j) (k : Nat) : ∀ j, j < 16 + k → swl w k j = swl v k j := by
  induction k with
  | zero => exact h
  | succ k ih =>
    intro j hj
    show upd _ _ _ j = upd _ _ _ j
    by_cases q : j = 16 + k
    · subst q
      rw [pk_us, pk_us, ih k (by omega), ih (k + 1) (by omega), ih (k + 9) (by omega), ih (k + 14) (by omega)]
    · rw [pk_un q, pk_un q]
      exact ih j (by omega)
def fsv (j : Nat) : Int32 := ([1779033703, -1150833019, 1013904242, -1521486534, 1359893119, -1694144372, 528734635, 1541459225] : List Int32).getD j 0
def rwv (j : Nat) : Int32 := ([1116352408, 1899447441, -1245643825, -373957723, 961987163, 1508970993, -1841331548, -1424204075, -670586216, 310598401, 607225278, 1426881987, 1925078388, -2132889090, -1680079193, -1046744716, -459576895, -272742522, 264347078, 604807628, 770255983, 1249150122, 1555081692, 1996064986, -1740746414, -1473132947, -1341970488, -1084653625, -958395405, -710438585, 113926993, 338241895, 666307205, 773529912, 1294757372, 1396182291, 1695183700, 1986661051, -2117940946, -1838011259, -1564481375, -1474664885, -1035236496, -949202525, -778901479, -694614492, -200395387, 275423344, 430227734, 506948616, 659060556, 883997877, 958139571, 1322822218, 1537002063, 1747873779, 1955562222, 2024104815, -2067236844, -1933114872, -1866530822, -1538233109, -1090935817, -965641998] : List Int32).getD j 0
/-- the eight working words, and a round -/
abbrev R8 : Type := Int32 × Int32 × Int32 × Int32 × Int32 × Int32 × Int32 × Int32
def rnd (k w : Int32) : R8 → R8
  | (a, b, c, d, e, f, g, h) => (((((h + ((tn e 6 ^^^ tn e 11) ^^^ tn e 25)) + ((e &&& f) ^^^ ((e ^^^ (-1)) &&& g))) + k) + w) + ((tn a 2 ^^^ tn a 13) ^^^ tn a 22) + (((a &&& b) ^^^ (a &&& c)) ^^^ (b &&& c)), a, b, c, d + ((((h + ((tn e 6 ^^^ tn e 11) ^^^ tn e 25)) + ((e &&& f) ^^^ ((e ^^^ (-1)) &&& g))) + k) + w), e, f, g)
def rds (sc : Nat → Int32) (x : R8) : Nat → R8
  | 0 => x
  | t + 1 => rnd (rwv t) (sc t) (rds sc x t)
def c8 (x : R8) (j : Nat) : Int32 := match j with
  | 0 => x.1
  | 1 => x.2.1
  | 2 => x.2.2.1
  | 3 => x.2.2.2.1
  | 4 => x.2.2.2.2.1
  | 5 => x.2.2.2.2.2.1
  | 6 => x.2.2.2.2.2.2.1
  | 7 => x.2.2.2.2.2.2.2
  | _ => 0
def mx (st sc : Nat → Int32) (j : Nat) : Int32 := st j + c8 (rds sc (st 0, st 1, st 2, st 3, st 4, st 5, st 6, st 7) 64) j
theorem rds_congr {sc sd : Nat → Int32} (x : R8) (n : Nat) (h : ∀ t, t < n → sc t = sd t) : rds sc x n = rds sd x n := by
  induction n with
  | zero => rfl
  | succ n ih =>
    show rnd _ _ _ = rnd _ _ _
    rw [ih (fun t ht => h t (by omega)), h n (by omega)]
theorem mx_congr {st su sc sd : Nat → Int32} (h : ∀ j, j < 8 → st j = su j) (h2 : ∀ t, t < 64 → sc t = sd t) : ∀ j, j < 8 → mx st sc j = mx su sd j := by
  intro j hj
  unfold mx
  rw [h j hj, h 0 (by omega), h 1 (by omega), h 2 (by omega), h 3 (by omega), h 4 (by omega), h 5 (by omega), h 6 (by omega), h 7 (by omega), rds_congr _ 64 h2]
/-- the state behind b blocks -/
def shs (ms : Nat → Int32) : Nat → Nat → Int32
  | 0 => fsv
  | b + 1 => mx (shs ms b) (swl (wd ms (64 * b)) 48)
theorem wd_congr {ms mt : Nat → Int32} {f t : Nat} (h : ∀ j, f + 4 * t ≤ j → j < f + 4 * t + 4 → ms j = mt j) : wd ms f t = wd mt f t := by
  unfold wd
  rw [h (f + 4 * t) (by omega) (by omega), h (f + 4 * t + 1) (by omega) (by omega), h (f + 4 * t + 2) (by omega) (by omega), h (f + 4 * t + 3) (by omega) (by omega)]
theorem shs_congr {ms mt : Nat → Int32} (b : Nat) (h : ∀ j, j < 64 * b → ms j = mt j) : ∀ j, j < 8 → shs ms b j = shs mt b j := by
  induction b with
  | zero => intro j _; rfl
  | succ b ih =>
    intro j hj
    show mx _ _ j = mx _ _ j
    refine mx_congr (ih (fun j hj => h j (by omega))) (fun t ht => ?_) j hj
    exact swl_congr (fun j hj => wd_congr (fun k h1 h2 => h k (by omega))) 48 t (by omega)
/-- how many zero bytes, the padding's length, the padding -/
def pz (n : Nat) : Nat := (119 - n % 64) % 64
def pl (n : Nat) : Nat := pz n + 9
def pd (n : Nat) (j : Nat) : Int32 := if j = 0 then (128 : Int32).toInt8.toInt32 else if j ≤ pz n then (0 : Int32).toInt8.toInt32 else (((8 * (nI n).toInt64 : Int64).toUInt64 >>> ((nI (56 - 8 * (j - (pz n + 1)))).toInt64.toUInt64 &&& Int64.toUInt64 63)).toInt64.toInt32).toInt8.toInt32
/-- SHA-256 of the first n of ms: its eight words -/
def hm (ms : Nat → Int32) (n : Nat) : Nat → Int32 := shs (cat ms n (pd n) (pl n)) ((n + pl n) / 64)
theorem hm_congr {ms mt : Nat → Int32} {n : Nat} (h : ∀ j, j < n → ms j = mt j) : ∀ j, j < 8 → hm ms n j = hm mt n j := by
  refine shs_congr _ (fun j hj => ?_)
  unfold cat
  by_cases q : n ≤ j ∧ j < n + pl n
  · rw [if_pos q, if_pos q]
  · rw [if_neg q, if_neg q]
    have h2 := Nat.div_mul_le_self (n + pl n) 64
    exact h j (by omega)
theorem pl_mod (n : Nat) : (n + pl n) % 64 = 0 := by
  unfold pl pz
  omega
/-- the id of a leaf with these bytes, the id of two side by side -/
def lfm (tp : Nat → Int32) (j : Nat) : Int32 := if j = 0 then (0 : Int32).toInt8.toInt32 else (tp (j - 1)).toInt8.toInt32
def lfh (tp : Nat → Int32) (n : Nat) : Nat → Int32 := hm (lfm tp) (n + 1)
def ndm (x y : Nat → Int32) (j : Nat) : Int32 := if j = 0 then (1 : Int32).toInt8.toInt32 else if j < 33 then wb (x ((j - 1) / 4)) ((j - 1) % 4) else wb (y ((j - 33) / 4)) ((j - 33) % 4)
def ndh (x y : Nat → Int32) : Nat → Int32 := hm (ndm x y) 65
/-- the first level's place, and its width's half -/
def lsv (j : Nat) : Nat := ([0, 100, 150, 175, 188, 195, 199, 201] : List Nat).getD j 0
