/-! what the class and the reference have in common, and that every call keeps it -/
def RR (tl lv lb : Nat) (tp : Nat → Int32) (ll : Nat → Nat) (id tm bs : Nat → Int32) (sz : Nat → Nat) (ro be : Nat → Int32) (LB : Nat → Nat → Int32) : Prop :=
  tl ≤ 150 ∧ lv ≤ 100 ∧ (∀ k, k < lv → sz k ≤ 150) ∧ (∀ k, k < lv → ll k = sz k) ∧ lb = tot sz lv ∧ (∀ j, j < tl → tm j = tp j &&& 255) ∧ (∀ k, k < lv → ∀ i, i < sz k → bs (150 * k + i) = LB k i &&& 255) ∧ Ti lv (lid LB sz) id ∧ (∀ j, j < 64 → ro j = rwv j) ∧ (∀ j, j < 8 → be j = fsv j)
theorem RR_0 {id ro be : Nat → Int32} {ll sz : Nat → Nat} {tp tm bs : Nat → Int32} {LB : Nat → Nat → Int32} (h1 : ∀ j, j < 64 → ro j = rwv j) (h2 : ∀ j, j < 8 → be j = fsv j) : RR 0 0 0 tp ll id tm bs sz ro be LB :=
  ⟨by decide, by decide, fun k hk => absurd hk (Nat.not_lt_zero k), fun k hk => absurd hk (Nat.not_lt_zero k), rfl, fun k hk => absurd hk (Nat.not_lt_zero k), fun k hk => absurd hk (Nat.not_lt_zero k), fun t ht x hx => by
    have e : t = 0 := Nat.le_zero.mp ht
    subst e
    exact absurd hx (Nat.not_lt_zero x), h1, h2⟩
theorem RR_put {tl lv lb n : Nat} {tp id tm bs ro be : Nat → Int32} {ll sz : Nat → Nat} {LB : Nat → Nat → Int32} {v : Int64} (h : RR tl lv lb tp ll id tm bs sz ro be LB) (hn : tl + n ≤ 150) : RR (tl + n) lv lb (cat tp tl (pb v n) n) ll id (cat tm tl (fun j => pb v n j &&& 255) n) bs sz ro be LB := by
  obtain ⟨h1, h2, h3, h4, h5, h6, h7⟩ := h
  refine ⟨hn, h2, h3, h4, h5, fun j hj => ?_, h7⟩
  unfold cat
  by_cases q : tl ≤ j ∧ j < tl + n
  · rw [if_pos q, if_pos q]
  · rw [if_neg q, if_neg q]
    exact h6 j (by omega)
theorem lsv_202 {n t x : Nat} (hn : n ≤ 100) (ht : t ≤ rl n) (hx : x < wdl n t) : lsv t + x < 202 := by
  have h1 := rl_lt n
  have h2 := wdl_mono hn t
  have h3 := lsv_top t (by omega)
  omega
theorem RR_202 {tl lv lb : Nat} {tp id tm bs ro be F : Nat → Int32} {ll sz : Nat → Nat} {LB : Nat → Nat → Int32} (h : RR tl lv lb tp ll id tm bs sz ro be LB) : RR tl lv lb tp ll (pn id 202 F) tm bs sz ro be LB := by
  obtain ⟨h1, h2, h3, h4, h5, h6, h7, h8, h9⟩ := h
  refine ⟨h1, h2, h3, h4, h5, h6, h7, fun t ht x hx j hj => ?_, h9⟩
  have hf := lsv_202 h2 ht hx
  rw [pn_ne _ _ (by omega) hj]
  exact h8 t ht x hx j hj
theorem lid_up (LB : Nat → Nat → Int32) (sz : Nat → Nat) (i : Nat) (T : Nat → Int32) (n : Nat) : lid (va_up LB i T) (va_up sz i n) = va_up (lid LB sz) i (lfh T n) := by
  funext k
  unfold lid va_up
  by_cases h : k = i
  · rw [if_pos h, if_pos h, if_pos h]
  · rw [if_neg h, if_neg h, if_neg h]
theorem tot_up {f : Nat → Nat} {i x : Nat} : ∀ {n : Nat}, n ≤ i → tot (va_up f i x) n = tot f n := by
  intro n
  induction n with
  | zero => intro _; rfl
  | succ n ih =>
    intro h
    show tot _ n + va_up f i x n = tot f n + f n
    rw [ih (by omega), va_up_ne _ _ (by omega)]
theorem tot_ch {f : Nat → Nat} {i x : Nat} : ∀ {n : Nat}, i < n → tot (va_up f i x) n + f i = tot f n + x := by
  intro n
  induction n with
  | zero => intro h; exact absurd h (Nat.not_lt_zero i)
  | succ n ih =>
    intro h
    show tot _ n + va_up f i x n + f i = tot f n + f n + x
    by_cases q : i = n
    · subst q
      rw [tot_up (Nat.le_refl _), va_up_self]
      omega
    · have h1 := ih (by omega)
      rw [va_up_ne _ _ (by omega)]
      omega
theorem bs_up {bs tm tp : Nat → Int32} {sz : Nat → Nat} {LB : Nat → Nat → Int32} {n i tl : Nat} (hsz : ∀ k, k < n → k ≠ i → sz k ≤ 150) (htl : tl ≤ 150) (h : ∀ k, k < n → k ≠ i → ∀ y, y < sz k → bs (150 * k + y) = LB k y &&& 255) (ht : ∀ j, j < tl → tm j = tp j &&& 255) : ∀ k, k < n → ∀ y, y < va_up sz i tl k → cat bs (150 * i) tm tl (150 * k + y) = va_up LB i tp k y &&& 255 := by
  intro k hk y hy
  by_cases q : k = i
  · subst q
    rw [va_up_self] at hy
    rw [cat_in hy, va_up_self]
    exact ht y hy
  · rw [va_up_ne _ _ q] at hy
    rw [va_up_ne _ _ q]
    have h1 := hsz k hk q
    unfold cat
    rw [if_neg (by omega)]
    exact h k hk q y hy
theorem RR_change {tl lv lb i : Nat} {tp id tm bs ro be : Nat → Int32} {ll sz : Nat → Nat} {LB : Nat → Nat → Int32} (h : RR tl lv lb tp ll id tm bs sz ro be LB) (hi : i < lv) : RR 0 lv (lb + tl - ll i) tp (va_up ll i tl) (rfa lv i (pn id i (lfh tp tl)) (rl lv)) tm (cat bs (150 * i) tm tl) (va_up sz i tl) ro be (va_up LB i tp) := by
  obtain ⟨h1, h2, h3, h4, h5, h6, h7, h8, h9⟩ := h
  refine ⟨by decide, h2, fun k hk => ?_, fun k hk => ?_, ?_, fun j hj => absurd hj (Nat.not_lt_zero j), bs_up (fun k hk _ => h3 k hk) h1 (fun k hk _ => h7 k hk) h6, ?_, h9⟩
  · by_cases q : k = i
    · subst q
      rw [va_up_self]
      exact h1
    · rw [va_up_ne _ _ q]
      exact h3 k hk
  · by_cases q : k = i
    · subst q
      rw [va_up_self, va_up_self]
    · rw [va_up_ne _ _ q, va_up_ne _ _ q]
      exact h4 k hk
  · have hc := tot_ch (f := sz) (i := i) (x := tl) hi
    have he := h4 i hi
    omega
  · rw [lid_up]
    exact Ti_rfa hi h2 (Tj_change hi h2 h8)
theorem RR_ll {tl lv lb i : Nat} {tp id tm bs ro be : Nat → Int32} {ll sz : Nat → Nat} {LB : Nat → Nat → Int32} (h : RR tl lv lb tp ll id tm bs sz ro be LB) (hi : i < lv) : ll i ≤ lb := by
  obtain ⟨h1, h2, h3, h4, h5, -⟩ := h
  have hc := tot_ch (f := sz) (i := i) (x := 0) hi
  have he := h4 i hi
  omega
theorem RR_add {tl lv lb : Nat} {tp id tm bs ro be : Nat → Int32} {ll sz : Nat → Nat} {LB : Nat → Nat → Int32} (h : RR tl lv lb tp ll id tm bs sz ro be LB) (hl : lv < 100) : RR 0 (lv + 1) (lb + tl) tp (va_up ll lv tl) (rfa (lv + 1) lv (pn id lv (lfh tp tl)) (rl (lv + 1))) tm (cat bs (150 * lv) tm tl) (va_up sz lv tl) ro be (va_up LB lv tp) := by
  obtain ⟨h1, h2, h3, h4, h5, h6, h7, h8, h9⟩ := h
  refine ⟨by decide, hl, fun k hk => ?_, fun k hk => ?_, ?_, fun j hj => absurd hj (Nat.not_lt_zero j), bs_up (fun k hk hne => h3 k (by omega)) h1 (fun k hk hne => h7 k (by omega)) h6, ?_, h9⟩
  · by_cases q : k = lv
    · subst q
      rw [va_up_self]
      exact h1
    · rw [va_up_ne _ _ q]
      exact h3 k (by omega)
  · by_cases q : k = lv
    · subst q
      rw [va_up_self, va_up_self]
    · rw [va_up_ne _ _ q, va_up_ne _ _ q]
      exact h4 k (by omega)
  · show _ = tot _ lv + va_up sz lv tl lv
    rw [tot_up (Nat.le_refl _), va_up_self, h5]
  · rw [lid_up]
    exact Ti_rfa (Nat.lt_succ_self lv) hl (Tj_add hl h8)
theorem RR_lb {tl lv lb : Nat} {tp id tm bs ro be : Nat → Int32} {ll sz : Nat → Nat} {LB : Nat → Nat → Int32} (h : RR tl lv lb tp ll id tm bs sz ro be LB) : lb < 2 ^ 30 := by
  obtain ⟨h1, h2, h3, h4, h5, -⟩ := h
  have := tot_le (f := sz) (n := lv) h3
  omega
theorem RR_drop1 {tl lb : Nat} {tp id tm bs ro be : Nat → Int32} {ll sz : Nat → Nat} {LB : Nat → Nat → Int32} (h : RR tl 1 lb tp ll id tm bs sz ro be LB) : RR tl 0 (lb - ll 0) tp ll id tm bs sz ro be LB := by
  obtain ⟨h1, h2, h3, h4, h5, h6, h7, h8, h9⟩ := h
  refine ⟨h1, by decide, fun k hk => absurd hk (Nat.not_lt_zero k), fun k hk => absurd hk (Nat.not_lt_zero k), ?_, h6, fun k hk => absurd hk (Nat.not_lt_zero k), fun t ht x hx => ?_, h9⟩
  · have e1 : tot sz 1 = 0 + sz 0 := rfl
    have e2 : tot sz 0 = 0 := rfl
    have e3 := h4 0 (by decide)
    omega
  · have e : t = 0 := Nat.le_zero.mp ht
    subst e
    exact absurd hx (Nat.not_lt_zero x)
theorem RR_drop {tl n lb : Nat} {tp id tm bs ro be : Nat → Int32} {ll sz : Nat → Nat} {LB : Nat → Nat → Int32} (h : RR tl (n + 2) lb tp ll id tm bs sz ro be LB) : RR tl (n + 1) (lb - ll (n + 1)) tp ll (rfa (n + 1) n id (rl (n + 1))) tm bs sz ro be LB := by
  obtain ⟨h1, h2, h3, h4, h5, h6, h7, h8, h9⟩ := h
  refine ⟨h1, by omega, fun k hk => h3 k (by omega), fun k hk => h4 k (by omega), ?_, h6, fun k hk => h7 k (by omega), Ti_rfa (Nat.lt_succ_self n) (by omega) (Tj_drop h2 h8), h9⟩
  have e1 : tot sz (n + 2) = tot sz (n + 1) + sz (n + 1) := rfl
  have e3 := h4 (n + 1) (by omega)
  omega
/-! the answers -/
theorem e8_bad {f : Nat → Int32} {x : Int32} (h : x < 0 ∨ ¬ x ≤ 3) : e8 f x = 0 := if_pos h
theorem root_eq {tl lv lb : Nat} {tp id tm bs ro be : Nat → Int32} {ll sz : Nat → Nat} {LB : Nat → Nat → Int32} (h : RR tl lv lb tp ll id tm bs sz ro be LB) (hl : 0 < lv) (x : Int32) : e8 (nd id (lsv (rl lv))) x = e8 (nv lv (lid LB sz) (rl lv) 0) x := by
  have h1 := wdl_in hl (rl lv)
  rw [Nat.zero_div] at h1
  have h2 := h.2.2.2.2.2.2.2.1 (rl lv) (Nat.le_refl _) 0 h1
  exact e8_congr (fun j hj => h2 j hj) x
theorem way_eq {n i : Nat} (hn : n ≤ 100) (hi : i < n) : stc n i 8 = stc n i (rl n) := stc_rl hn hi 8 (Nat.le_of_lt (rl_lt n))
theorem hb_rl {n i t : Nat} (hn : n ≤ 100) (hi : i < n) (hb : hbt n i t = true) : t < rl n := by
  rcases Nat.lt_or_ge t (rl n) with q | q
  · exact q
  · rw [hb_hi hn hi q] at hb
    cases hb
theorem stc_inj {n i a b : Nat} (ha : hbt n i a = true) (hb : hbt n i b = true) (e : stc n i a = stc n i b) : a = b := by
  rcases Nat.lt_trichotomy a b with q | q | q
  · have h1 := stc_mono n i (a := a + 1) (b := b) q
    rw [stc_t ha] at h1
    omega
  · exact q
  · have h1 := stc_mono n i (a := b + 1) (b := a) q
    rw [stc_t hb] at h1
    omega
theorem isl_eq {n : Nat} {x y r1 r2 : Int32} (hn : n ≤ 100) (h1 : (∃ i J t : Nat, x = nI i ∧ y = nI J ∧ i < n ∧ J < 2 ^ 31 ∧ t < 8 ∧ hbt n i t = true ∧ stc n i t = J ∧ r1 = nI (i / 2 ^ t % 2)) ∨ (r1 = -1 ∧ ∀ i J t : Nat, x = nI i → y = nI J → i < n → J < 2 ^ 31 → t < 8 → hbt n i t = true → stc n i t ≠ J)) (h2 : ism n x y r2) : r1 = r2 := by
  have hr := rl_lt n
  rcases h1 with ⟨i, J, t, rfl, rfl, hi, hJ, ht, hb, hs, rfl⟩ | ⟨rfl, h1⟩
  · rcases h2 with ⟨i', J', t', hx, hy, hi', hJ', ht', hb', hs', rfl⟩ | ⟨rfl, h2⟩
    · have e1 : i = i' := (nI_eq (by omega) (by omega)).mp hx
      have e2 : J = J' := (nI_eq hJ hJ').mp hy
      subst e1
      have e3 : t = t' := stc_inj hb hb' (by rw [hs, hs', e2])
      rw [e3]
    · exact absurd hs (h2 i J t rfl rfl hi hJ (hb_rl hn hi hb) hb)
  · rcases h2 with ⟨i', J', t', hx, hy, hi', hJ', ht', hb', hs', rfl⟩ | ⟨rfl, h2⟩
    · exact absurd hs' (h1 i' J' t' hx hy hi' hJ' (by omega) hb')
    · rfl
theorem bes_eq {tl lv lb : Nat} {tp id tm bs ro be : Nat → Int32} {ll sz : Nat → Nat} {LB : Nat → Nat → Int32} (h : RR tl lv lb tp ll id tm bs sz ro be LB) {x y z : Int32} {r1 r2 : Int64} (h1 : (∃ i J t : Nat, x = nI i ∧ y = nI J ∧ i < lv ∧ J < 2 ^ 31 ∧ t < 8 ∧ hbt lv i t = true ∧ stc lv i t = J ∧ r1 = e8 (nd id (lsv t + xo (i / 2 ^ t))) z) ∨ (r1 = 0 ∧ ∀ i J t : Nat, x = nI i → y = nI J → i < lv → J < 2 ^ 31 → t < 8 → hbt lv i t = true → stc lv i t ≠ J)) (h2 : bsm lv (lid LB sz) x y z r2) : r1 = r2 := by
  have hn := h.2.1
  have hr := rl_lt lv
  rcases h1 with ⟨i, J, t, rfl, rfl, hi, hJ, ht, hb, hs, rfl⟩ | ⟨rfl, h1⟩
  · rcases h2 with ⟨i', J', t', hx, hy, hi', hJ', ht', hb', hs', rfl⟩ | ⟨rfl, h2⟩
    · have e1 : i = i' := (nI_eq (by omega) (by omega)).mp hx
      have e2 : J = J' := (nI_eq hJ hJ').mp hy
      subst e1
      have e3 : t = t' := stc_inj hb hb' (by rw [hs, hs', e2])
      subst e3
      exact e8_congr (fun j hj => h.2.2.2.2.2.2.2.1 t (Nat.le_of_lt ht') _ (of_decide_eq_true hb) j hj) z
    · rcases h2 with h2 | h2
      · exact e8_bad h2
      · exact absurd hs (h2 i J t rfl rfl hi hJ (hb_rl hn hi hb) hb)
  · rcases h2 with ⟨i', J', t', hx, hy, hi', hJ', ht', hb', hs', rfl⟩ | ⟨rfl, h2⟩
    · exact absurd hs' (h1 i' J' t' hx hy hi' hJ' (by omega) hb')
    · rfl
theorem pvh_pvn {n i : Nat} {L : Nat → Nat → Int32} {id F : Nat → Int32} (hn : n ≤ 100) (hi : i < n) (h : Ti n L id) : ∀ t, same8 (pvh n i id F t) (pvn n i L F t) := by
  intro t
  induction t with
  | zero => exact fun j hj => rfl
  | succ t ih =>
    intro j hj
    show (if _ then _ else _ : Nat → Int32) j = (if _ then _ else _ : Nat → Int32) j
    by_cases hb : hbt n i t = true
    · rw [if_pos hb, if_pos hb]
      have h1 : same8 (nd id (lsv t + xo (i / 2 ^ t))) (nv n L t (xo (i / 2 ^ t))) := h t (Nat.le_of_lt (hb_rl hn hi hb)) _ (of_decide_eq_true hb)
      by_cases c : i / 2 ^ t % 2 = 1
      · rw [if_pos c, if_pos c]
        exact hm_ndm h1 ih j hj
      · rw [if_neg c, if_neg c]
        exact hm_ndm ih h1 j hj
    · rw [if_neg hb, if_neg hb]
      exact ih j hj
theorem prv_eq {tl lv lb i : Nat} {tp id tm bs ro be : Nat → Int32} {ll sz : Nat → Nat} {LB : Nat → Nat → Int32} (h : RR tl lv lb tp ll id tm bs sz ro be LB) (hi : i < lv) (F : Nat → Int32) : sm (pvh lv i id F 8) (nd id (lsv (rl lv))) 8 = sm (pvn lv i (lid LB sz) F (rl lv)) (nv lv (lid LB sz) (rl lv) 0) 8 := by
  have hT := h.2.2.2.2.2.2.2.1
  have h1 := wdl_in (show 0 < lv by omega) (rl lv)
  rw [Nat.zero_div] at h1
  rw [← pvn_stc (n := lv) (i := i) (a := 8) (way_eq h.2.1 hi)]
  exact sm_congr 8 (pvh_pvn h.2.1 hi hT 8) (fun j hj => hT (rl lv) (Nat.le_refl _) 0 h1 j hj)
/-! the law's numbers -/
theorem law_in {L k : Nat} (hL : L ≤ 2048) (c : ¬ nI L - nI 4 < nI (4 * k)) (hk : k ≤ L / 4) : 4 * k + 4 ≤ L := by
  rcases Nat.lt_or_ge L 4 with q | q
  · exfalso
    refine c ?_
    have e : k = 0 := by omega
    subst e
    exact pk_sneg (by decide) q
  · rw [pk_sub q] at c
    have h := kn_nlt c (by omega) (by omega)
    omega
theorem leaf_or (x : Int32) {n : Nat} (hn : n ≤ 100) : (∃ i, i < n ∧ x = nI i) ∨ lf x n = false := by
  cases h : lf x n with
  | false => exact Or.inr rfl
  | true => exact Or.inl (lf_t (by omega) h)
theorem k_or (x : Int32) : (∃ j : Nat, j ≤ 3 ∧ x = nI j) ∨ (x < 0 ∨ ¬ x ≤ 3) := by
  by_cases h0 : x < 0
  · exact Or.inr (Or.inl h0)
  · by_cases h3 : x ≤ 3
    · exact Or.inl (nI_of2 (n := 3) (M := 3) (by decide) h0 h3)
    · exact Or.inr (Or.inr h3)
theorem what_or (x : Int32) : x = 0 ∨ x = 1 ∨ x = 2 ∨ x = 3 ∨ (x.toInt < 0 ∨ 3 < x.toInt) := by
  by_cases h0 : x < 0
  · exact Or.inr (Or.inr (Or.inr (Or.inr (Or.inl (Int32.lt_iff_toInt_lt.mp h0)))))
  · by_cases h3 : x ≤ 3
    · obtain ⟨j, hj, rfl⟩ := nI_of2 (n := 3) (M := 3) (by decide) h0 h3
      rcases (show j = 0 ∨ j = 1 ∨ j = 2 ∨ j = 3 by omega) with rfl | rfl | rfl | rfl
      · exact Or.inl rfl
      · exact Or.inr (Or.inl rfl)
      · exact Or.inr (Or.inr (Or.inl rfl))
      · exact Or.inr (Or.inr (Or.inr (Or.inl rfl)))
    · exact Or.inr (Or.inr (Or.inr (Or.inr (Or.inr (Int32.lt_iff_toInt_lt.mp (Int32.not_le.mp h3))))))
theorem gt3 {x : Int32} (h : ¬ x ≤ 3) : 3 < x := Int32.not_le.mp h
