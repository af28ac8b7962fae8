/-! the tree: what its nodes are, and that refreshing one way is enough -/
/-- the node x of level t over n leaves with the ids L -/
def nv (n : Nat) (L : Nat → Nat → Int32) : Nat → Nat → Nat → Int32
  | 0, x => L x
  | t + 1, x => if 2 * x + 1 < wdl n t then ndh (nv n L t (2 * x)) (nv n L t (2 * x + 1)) else nv n L t (2 * x)
theorem nv_s (n : Nat) (L : Nat → Nat → Int32) (t x : Nat) : nv n L (t + 1) x = if 2 * x + 1 < wdl n t then ndh (nv n L t (2 * x)) (nv n L t (2 * x + 1)) else nv n L t (2 * x) := rfl
theorem wdl_div (n t : Nat) : wdl (n + 1) t = n / 2 ^ t + 1 := by
  induction t with
  | zero =>
    show n + 1 = n / 1 + 1
    rw [Nat.div_one]
  | succ t ih =>
    show (wdl (n + 1) t + 1) / 2 = _
    rw [ih, ← nt_pw]
    omega
theorem nv_ne {n i : Nat} {L L' : Nat → Nat → Int32} (h : ∀ y, y ≠ i → L' y = L y) : ∀ t x, x ≠ i / 2 ^ t → nv n L' t x = nv n L t x := by
  intro t
  induction t with
  | zero =>
    intro x hx
    rw [Nat.pow_zero, Nat.div_one] at hx
    exact h x hx
  | succ t ih =>
    intro x hx
    rw [← nt_pw] at hx
    rw [nv_s, nv_s, ih (2 * x) (by omega), ih (2 * x + 1) (by omega)]
theorem nv_full {L L' : Nat → Nat → Int32} : ∀ (t x m m' : Nat), (x + 1) * 2 ^ t ≤ m → (x + 1) * 2 ^ t ≤ m' → (∀ y, y < (x + 1) * 2 ^ t → L y = L' y) → nv m L t x = nv m' L' t x := by
  intro t
  induction t with
  | zero =>
    intro x m m' h1 h2 h
    exact h x (by rw [Nat.pow_zero]; omega)
  | succ t ih =>
    intro x m m' h1 h2 h
    have e : (x + 1) * 2 ^ (t + 1) = (2 * x + 1 + 1) * 2 ^ t := by
      rw [Nat.pow_succ, Nat.mul_comm (2 ^ t) 2, ← Nat.mul_assoc]
      congr 1
      omega
    rw [e] at h1 h2 h
    have hp : 0 < 2 ^ t := Nat.two_pow_pos t
    have e2 : (2 * x + 1 + 1) * 2 ^ t = (2 * x + 1) * 2 ^ t + 2 ^ t := Nat.succ_mul _ _
    have key : ∀ k : Nat, (2 * x + 1 + 1) * 2 ^ t ≤ k → 2 * x + 1 < wdl k t := by
      intro k hk
      obtain ⟨k1, rfl⟩ : ∃ k1, k = k1 + 1 := ⟨k - 1, by omega⟩
      rw [wdl_div]
      have h3 : 2 * x + 1 ≤ k1 / 2 ^ t := (Nat.le_div_iff_mul_le hp).mpr (by omega)
      omega
    rw [nv_s, nv_s, if_pos (key m h1), if_pos (key m' h2)]
    have e3 : (2 * x + 1) * 2 ^ t ≤ (2 * x + 1 + 1) * 2 ^ t := by omega
    rw [ih (2 * x) m m' (by omega) (by omega) (fun y hy => h y (by omega)), ih (2 * x + 1) m m' h1 h2 h]
/-- two rows of ids hold the same node -/
def same8 (f g : Nat → Int32) : Prop := ∀ j, j < 8 → f j = g j
/-- the ids are the tree's -/
def Ti (n : Nat) (L : Nat → Nat → Int32) (id : Nat → Int32) : Prop := ∀ t, t ≤ rl n → ∀ x, x < wdl n t → same8 (nd id (lsv t + x)) (nv n L t x)
/-- .. up to level t, and beyond it off the way of i -/
def Tj (n i : Nat) (L : Nat → Nat → Int32) (id : Nat → Int32) (t : Nat) : Prop := ∀ u, u ≤ rl n → ∀ x, x < wdl n u → (u ≤ t ∨ x ≠ i / 2 ^ u) → same8 (nd id (lsv u + x)) (nv n L u x)
theorem lsv_apart : ∀ u, u < 8 → ∀ v, v < 8 → u < v → lsv u + wdl 100 u ≤ lsv v := by decide +kernel
theorem node_ne {n u v x y : Nat} (hn : n ≤ 100) (hu : u < 8) (hv : v < 8) (hx : x < wdl n u) (hy : y < wdl n v) (h : u ≠ v ∨ x ≠ y) : lsv u + x ≠ lsv v + y := by
  have h1 := wdl_mono hn u
  have h2 := wdl_mono hn v
  rcases Nat.lt_trichotomy u v with q | q | q
  · have h3 := lsv_apart u hu v hv q
    omega
  · subst q
    omega
  · have h3 := lsv_apart v hv u hu q
    omega
theorem Tj_step {n i t : Nat} {L : Nat → Nat → Int32} {id : Nat → Int32} (hi : i < n) (hn : n ≤ 100) (ht : t < rl n) (h : Tj n i L id t) : Tj n i L (rf1 n i t id) (t + 1) := by
  have hr := rl_lt n
  have hin := wdl_in hi t
  have hin1 := wdl_in hi (t + 1)
  have hpw := nt_pw i t
  intro u hu x hx hux j hj
  by_cases q : u = t + 1 ∧ x = i / 2 ^ (t + 1)
  · obtain ⟨rfl, rfl⟩ := q
    have hc : i / 2 ^ t / 2 * 2 = 2 * (i / 2 ^ (t + 1)) := by omega
    have hl : same8 (nd id (lsv t + 2 * (i / 2 ^ (t + 1)))) (nv n L t (2 * (i / 2 ^ (t + 1)))) := h t (by omega) _ (by omega) (Or.inl (Nat.le_refl t))
    rw [nv_s]
    unfold rf1
    rw [hc]
    by_cases hb : hbt n i t = true
    · have h3 : xo (i / 2 ^ t) < wdl n t := of_decide_eq_true hb
      have h4 : 2 * (i / 2 ^ (t + 1)) + 1 < wdl n t := by
        unfold xo at h3
        split at h3 <;> omega
      rw [if_pos hb, if_pos h4, pn_same _ _ _ hj]
      exact hm_ndm hl (h t (by omega) _ h4 (Or.inl (Nat.le_refl t))) j hj
    · have h4 : ¬ 2 * (i / 2 ^ (t + 1)) + 1 < wdl n t := by
        intro h4
        refine hb (decide_eq_true ?_)
        unfold xo
        split <;> omega
      rw [if_neg hb, if_neg h4, pn_same _ _ _ hj]
      exact hl j hj
  · have hne : lsv u + x ≠ lsv (t + 1) + i / 2 ^ (t + 1) := node_ne hn (by omega) (by omega) hx hin1 (by omega)
    have e : nd (rf1 n i t id) (lsv u + x) j = nd id (lsv u + x) j := by
      unfold rf1
      split
      · exact pn_ne _ _ hne hj
      · exact pn_ne _ _ hne hj
    rw [e]
    refine h u hu x hx ?_ j hj
    rcases hux with z | z
    · rcases Nat.lt_or_eq_of_le z with z2 | z2
      · exact Or.inl (by omega)
      · subst z2
        exact Or.inr (fun c => q ⟨rfl, c⟩)
    · exact Or.inr z
theorem Tj_all {n i : Nat} {L : Nat → Nat → Int32} {id : Nat → Int32} (hi : i < n) (hn : n ≤ 100) (h : Tj n i L id 0) : ∀ t, t ≤ rl n → Tj n i L (rfa n i id t) t := by
  intro t
  induction t with
  | zero => exact fun _ => h
  | succ t ih => exact fun ht => Tj_step hi hn (by omega) (ih (by omega))
theorem Ti_rfa {n i : Nat} {L : Nat → Nat → Int32} {id : Nat → Int32} (hi : i < n) (hn : n ≤ 100) (h : Tj n i L id 0) : Ti n L (rfa n i id (rl n)) := fun t ht x hx => Tj_all hi hn h (rl n) (Nat.le_refl _) t ht x hx (Or.inl ht)
theorem rl_pow : ∀ n, n < 101 → n ≤ 2 ^ rl n := by decide +kernel
/-- a node off the last leaf's way is full -/
theorem full_of {n t x : Nat} (hx : x < wdl (n + 1) t) (h : x ≠ n / 2 ^ t) : (x + 1) * 2 ^ t ≤ n := by
  rw [wdl_div] at hx
  exact (Nat.le_div_iff_mul_le (Nat.two_pow_pos t)).mp (by omega)
theorem full_in {n t x : Nat} (hn : n ≤ 100) (h : (x + 1) * 2 ^ t ≤ n) : t ≤ rl n ∧ x < wdl n t := by
  have hp : 0 < 2 ^ t := Nat.two_pow_pos t
  have h1 : 2 ^ t ≤ (x + 1) * 2 ^ t := Nat.le_mul_of_pos_left _ (Nat.succ_pos x)
  refine ⟨?_, ?_⟩
  · have h2 := rl_pow n (by omega)
    exact (Nat.pow_le_pow_iff_right (a := 2) (by decide)).mp (by omega)
  · obtain ⟨k, rfl⟩ : ∃ k, n = k + 1 := ⟨n - 1, by omega⟩
    rw [wdl_div]
    have e2 : (x + 1) * 2 ^ t = x * 2 ^ t + 2 ^ t := Nat.succ_mul _ _
    have h3 : x ≤ k / 2 ^ t := (Nat.le_div_iff_mul_le hp).mpr (by omega)
    omega
/-- leaf i is another one now -/
theorem Tj_change {n i : Nat} {L : Nat → Nat → Int32} {id F : Nat → Int32} (hi : i < n) (hn : n ≤ 100) (h : Ti n L id) : Tj n i (va_up L i F) (pn id i F) 0 := by
  have hr := rl_lt n
  intro u hu x hx hux j hj
  by_cases q : u = 0 ∧ x = i
  · obtain ⟨rfl, rfl⟩ := q
    show nd _ (0 + x) j = va_up L x F x j
    rw [Nat.zero_add, pn_same _ _ _ hj, va_up_self]
  · have hd : i / 2 ^ 0 = i := by rw [Nat.pow_zero, Nat.div_one]
    have hxi : x ≠ i / 2 ^ u := by
      rcases hux with z | z
      · have z0 : u = 0 := by omega
        subst z0
        rw [hd]
        exact fun c => q ⟨rfl, c⟩
      · exact z
    have hne : lsv u + x ≠ lsv 0 + i := node_ne hn (by omega) (by decide) hx hi (by omega)
    have e0 : lsv 0 = 0 := rfl
    rw [pn_ne _ _ (by omega) hj, nv_ne (L := L) (fun y hy => va_up_ne _ _ hy) u x hxi]
    exact h u hu x hx j hj
/-- one leaf more, the last -/
theorem Tj_add {n : Nat} {L : Nat → Nat → Int32} {id F : Nat → Int32} (hn : n < 100) (h : Ti n L id) : Tj (n + 1) n (va_up L n F) (pn id n F) 0 := by
  have hr := rl_lt (n + 1)
  intro u hu x hx hux j hj
  by_cases q : u = 0 ∧ x = n
  · obtain ⟨rfl, rfl⟩ := q
    show nd _ (0 + x) j = va_up L x F x j
    rw [Nat.zero_add, pn_same _ _ _ hj, va_up_self]
  · have hxi : x ≠ n / 2 ^ u := by
      rcases hux with z | z
      · have z0 : u = 0 := by omega
        subst z0
        rw [Nat.pow_zero, Nat.div_one]
        exact fun c => q ⟨rfl, c⟩
      · exact z
    have hf := full_of hx hxi
    obtain ⟨g1, g2⟩ := full_in (by omega) hf
    have e0 : lsv 0 = 0 := rfl
    have hne : lsv u + x ≠ lsv 0 + n := node_ne (n := n + 1) (by omega) (by omega) (by decide) hx (Nat.lt_succ_self n) (by omega)
    rw [pn_ne _ _ (by omega) hj, nv_full (L' := L) u x (n + 1) n (by omega) hf (fun y hy => va_up_ne _ _ (by omega))]
    exact h u g1 x g2 j hj
/-- the last leaf gone -/
theorem Tj_drop {n : Nat} {L : Nat → Nat → Int32} {id : Nat → Int32} (hn : n + 2 ≤ 100) (h : Ti (n + 2) L id) : Tj (n + 1) n L id 0 := by
  have hr := rl_lt (n + 1)
  intro u hu x hx hux j hj
  by_cases q : u = 0
  · subst q
    have hx2 : x < wdl (n + 2) 0 := Nat.lt_trans hx (Nat.lt_succ_self (n + 1))
    exact h 0 (Nat.zero_le _) x hx2 j hj
  · have hxi : x ≠ n / 2 ^ u := by
      rcases hux with z | z
      · exact absurd z (by omega)
      · exact z
    have hf := full_of hx hxi
    obtain ⟨g1, g2⟩ := full_in (n := n + 2) hn (Nat.le_trans hf (by omega))
    rw [nv_full (L' := L) u x (n + 1) (n + 2) (by omega) (by omega) (fun _ _ => rfl)]
    exact h u g1 x g2 j hj
