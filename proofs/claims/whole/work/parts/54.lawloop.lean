theorem dr_or (n : Nat) : n = 0 ∨ n = 1 ∨ ∃ m, n = m + 2 := by
  rcases Nat.lt_or_ge n 2 with h | h
  · rcases (show n = 0 ∨ n = 1 by omega) with e | e
    · exact Or.inl e
    · exact Or.inr (Or.inl e)
  · exact Or.inr (Or.inr ⟨n - 2, by omega⟩)
theorem rt_or (n : Nat) (x : Int32) : n = 0 ∨ (0 < n ∧ ((∃ j : Nat, j ≤ 3 ∧ x = nI j) ∨ (x < 0 ∨ ¬ x ≤ 3))) := by
  rcases Nat.eq_zero_or_pos n with h | h
  · exact Or.inl h
  · exact Or.inr ⟨h, k_or x⟩
set_option maxHeartbeats 40000000 in
set_option maxRecDepth 100000 in
/-- THE LAW'S LOOP: class and reference agree at its head -/
theorem law_loop {p : Program} {l : Launch} {e : Env} {s : State} {m : MethodId} {below : List Frame} {meth : Method} {c : Code} {D : va_G} {b L : Nat} {xs : Nat → Int32} (hL : L ≤ 2048) (C0 : lw_At p s m meth c b L xs) (q r : Nat → Nat) (cB cI cJ : ClassId) (hK : va_K D vwCl [(cB, .byte), (cI, .int), (cJ, .long)] s) (hZ : sx (zk q) (fun q : Nat => s.heap.size ≤ q) s s.heap) :
    ∀ (k : Nat), k ≤ L / 4 → ∀ (H : Heap) (locs : List Loc) (ls : Array Slot), (∃ (tl lv lb ln : Nat) (tp : Nat → Int32) (ll : Nat → Nat) (id ms sc st : Nat → Int32) (hz mn vs cb : Nat) (hs su s2 ro be tm bs : Nat → Int32) (sz : Nat → Nat) (lw mi : Nat → Int64) (LB : Nat → Nat → Int32), RR tl lv lb tp ll id tm bs sz ro be LB ∧ va_P D vwCl ((wk q cB cI tl lv lb ln tp ll id ms sc st) ++ (wm r cI cJ hz tl lv mn vs cb hs su s2 ro be tm bs sz lw mi)) H ∧ va_D (fun q : Nat => s.heap.size ≤ q) ((wk q cB cI tl lv lb ln tp ll id ms sc st) ++ (wm r cI cJ hz tl lv mn vs cb hs su s2 ro be tm bs sz lw mi)) ∧ va_S (fun q : Nat => s.heap.size ≤ q) s.heap H locs ∧ lv_has ls 4 [(0, .ref b), (1, .ref (q 0)), (2, .ref (r 0)), (3, .int (nI (4 * k)))]) → W p l e room_1 s m #[Value.ref b] below meth c H locs 19 18475 (lw_Z below #[Value.ref b] s) (F0 m 18 ls []) := by
  obtain ⟨hx, hb, hr, hml, hown, hts, hX, hbl, hlocks, hgv⟩ := C0
  have hown : s.vm.findClass RL = some m.cls := hown
  have hb : c.code = cL_law := hb
  have hA : ∀ q : Nat, s.heap.size ≤ q → (fun q : Nat => s.heap.size ≤ q) q := fun _ h => h
  have hbA : ¬ (fun q : Nat => s.heap.size ≤ q) b := Nat.not_le.mpr hbl
  have hKc := hK.sub (tys' := [(cB, .byte), (cI, .int)]) [0, 1] rfl
  have hKm := hK.sub (tys' := [(cI, .int), (cJ, .long)]) [1, 2] rfl
  have hZ0 : sx [] (fun q : Nat => s.heap.size ≤ q) s s.heap := fun k z hz => by simp at hz
  refine kp_lp (hd := 18) (nn := L / 4) (fun (k : Nat) (H : Heap) (locs : List Loc) (ls : Array Slot) => ∃ (tl lv lb ln : Nat) (tp : Nat → Int32) (ll : Nat → Nat) (id ms sc st : Nat → Int32) (hz mn vs cb : Nat) (hs su s2 ro be tm bs : Nat → Int32) (sz : Nat → Nat) (lw mi : Nat → Int64) (LB : Nat → Nat → Int32), RR tl lv lb tp ll id tm bs sz ro be LB ∧ va_P D vwCl ((wk q cB cI tl lv lb ln tp ll id ms sc st) ++ (wm r cI cJ hz tl lv mn vs cb hs su s2 ro be tm bs sz lw mi)) H ∧ va_D (fun q : Nat => s.heap.size ≤ q) ((wk q cB cI tl lv lb ln tp ll id ms sc st) ++ (wm r cI cJ hz tl lv mn vs cb hs su s2 ro be tm bs sz lw mi)) ∧ va_S (fun q : Nat => s.heap.size ≤ q) s.heap H locs ∧ lv_has ls 4 [(0, .ref b), (1, .ref (q 0)), (2, .ref (r 0)), (3, .int (nI (4 * k)))]) ?_
  intro k hkN H locs ls hI ih
  obtain ⟨tl, lv, lb, ln, tp, ll, id, ms, sc, st, hz, mn, vs, cb, hs, su, s2, ro, be, tm, bs, sz, lw, mi, LB, hR, hP, hD, hS, hl⟩ := hI
  refine lv_iload_n hx hb dL_law_18 rfl (lv_at hl 3 rfl) ?_
  refine lv_aload_n hx hb dL_law_19 rfl (lv_at hl 0 rfl) ?_
  refine va_slen hx hb hX hbl hbA hS dL_law_20 ?_
  refine lv_iconst (v := nI 4) hx hb dL_law_21 (by decide) ?_
  refine lv_isub hx hb dL_law_22 ?_
  refine lv_icmp_gt (tgt := 404) hx hb dL_law_23 (by decide) (fun c_23 => ?_) (fun c_23 => ?_)
  · refine lv_iconst (v := 1) hx hb dL_law_404 (by decide) ?_
    refine va_forget (fun q hq => hS.2.2 q hq) ?_
    exact lw_ret hx hb hr hlocks dL_law_405
  · have hk4 : 4 * k + 4 ≤ L := law_in hL c_23 hkN
    have hlt : k < L / 4 := by omega
    refine lv_aload_n hx hb dL_law_26 rfl (lv_at hl 0 rfl) ?_
    refine lv_iload_n hx hb dL_law_27 rfl (lv_at hl 3 rfl) ?_
    refine kb_sld hx hb hX hbl hbA hS (4 * k) rfl (by omega) (by omega) dL_law_28 ?_
    refine lv_bipush (v := 15) hx hb dL_law_29 (by decide) ?_
    refine lv_iand hx hb dL_law_31 ?_
    obtain ⟨o, ho, eo⟩ := pk_andE (xs (4 * k)) (m := 15) 4 (by decide)
    refine kp_i eo ?_
    clear eo
    rcases (show o = 0 ∨ o = 1 ∨ o = 2 ∨ o = 3 ∨ o = 4 ∨ o = 5 ∨ o = 6 ∨ o = 7 ∨ o = 8 ∨ o = 9 ∨ o = 10 ∨ 11 ≤ o by omega) with rfl | rfl | rfl | rfl | rfl | rfl | rfl | rfl | rfl | rfl | rfl | ho2
    · refine lv_tableIn (tgt := 92) hx hb dL_law_32 (by decide) (by decide) rfl (by decide) ?_
      by_cases hc : ∃ n : Nat, 1 ≤ n ∧ n ≤ 8 ∧ xs (4 * k + 3) = nI n ∧ tl + n ≤ 150
      · obtain ⟨n, hn1, hn8, en, hn⟩ := hc
        refine lv_aload_n hx hb dL_law_92 rfl (lv_at hl 1 rfl) ?_
        refine lv_aload_n hx hb dL_law_93 rfl (lv_at hl 0 rfl) ?_
        refine lv_iload_n hx hb dL_law_94 rfl (lv_at hl 3 rfl) ?_
        refine lv_iconst (v := (nI (1))) hx hb dL_law_95 (by decide) ?_
        refine lv_iadd hx hb dL_law_96 ?_
        refine kp_i (nI_add _ _) ?_
        refine kb_sld hx hb hX hbl hbA hS ((4 * k) + 1) rfl (by omega) (by omega) dL_law_97 ?_
        refine lv_i2l hx hb dL_law_98 rfl ?_
        refine lv_bipush (v := ((32 : Int32))) hx hb dL_law_99 (by decide) ?_
        refine lv_lshl hx hb dL_law_101 rfl ?_
        refine lv_aload_n hx hb dL_law_102 rfl (lv_at hl 0 rfl) ?_
        refine lv_iload_n hx hb dL_law_103 rfl (lv_at hl 3 rfl) ?_
        refine lv_iconst (v := (nI (2))) hx hb dL_law_104 (by decide) ?_
        refine lv_iadd hx hb dL_law_105 ?_
        refine kp_i (nI_add _ _) ?_
        refine kb_sld hx hb hX hbl hbA hS ((4 * k) + 2) rfl (by omega) (by omega) dL_law_106 ?_
        refine lv_i2l hx hb dL_law_107 rfl ?_
        refine lv_ldc2 (v := 4294967295) hx hb hown (hts (.constantLong RL 13 (4294967295)) (by decide +kernel)) dL_law_108 ?_
        refine lv_land hx hb dL_law_111 ?_
        refine lv_lor hx hb dL_law_112 ?_
        refine lv_aload_n hx hb dL_law_113 rfl (lv_at hl 0 rfl) ?_
        refine lv_iload_n hx hb dL_law_114 rfl (lv_at hl 3 rfl) ?_
        refine lv_iconst (v := (nI (3))) hx hb dL_law_115 (by decide) ?_
        refine lv_iadd hx hb dL_law_116 ?_
        refine kp_i (nI_add _ _) ?_
        refine kb_sld hx hb hX hbl hbA hS ((4 * k) + 3) rfl (by omega) (by omega) dL_law_117 ?_
        refine kp_i en ?_
        refine lc_i (As := [.long (((((xs ((4 * k) + 1))).toInt64) <<< ((((32 : Int32))).toInt64 &&& 63)) ||| ((((xs ((4 * k) + 2))).toInt64) &&& ((4294967295 : Int64)))), .int (nI n)]) (rest := []) [0, 1, 2, 3, 4, 5, 6, 7] [8, 9, 10, 11, 12, 13, 14, 15, 16, 17, 18] ⟨hx, hb, hml, hown, hts⟩ (c_put_y l D (va_A (wk q cB cI tl lv lb ln tp ll id ms sc st) H.size) q cB cI tl lv lb ln tp ll id ms sc st ((((((xs ((4 * k) + 1))).toInt64) <<< ((((32 : Int32))).toInt64 &&& 63)) ||| ((((xs ((4 * k) + 2))).toInt64) &&& ((4294967295 : Int64))))) n hn1 hn8 hn) (cwV 2 hts gL1_put rfl rfl rfl (by decide +kernel) ⟨Nat.le_of_ble_eq_true rfl, Nat.le_of_ble_eq_true rfl⟩) (va_recv hKc hP (ci := 1) (q0 := 0) rfl rfl) hKc hP hD hS hZ hA rfl rfl rfl (by decide) (by decide) (by decide) rfl hl.1 rfl (Nat.le_of_ble_eq_true rfl) ⟨Nat.le_of_ble_eq_true rfl, Nat.le_of_ble_eq_true rfl⟩ dL_law_118 (fun rc uc H locs hwc hP hD hS => ?_)
        have hP : va_P D vwCl ((wm r cI cJ hz tl lv mn vs cb hs su s2 ro be tm bs sz lw mi) ++ (wk q cB cI (tl + n) lv lb ln (cat tp tl (pb (((((xs ((4 * k) + 1))).toInt64) <<< ((((32 : Int32))).toInt64 &&& 63)) ||| ((((xs ((4 * k) + 2))).toInt64) &&& ((4294967295 : Int64)))) n) n) ll id ms sc st)) H := hP
        have hD : va_D (fun q : Nat => s.heap.size ≤ q) ((wm r cI cJ hz tl lv mn vs cb hs su s2 ro be tm bs sz lw mi) ++ (wk q cB cI (tl + n) lv lb ln (cat tp tl (pb (((((xs ((4 * k) + 1))).toInt64) <<< ((((32 : Int32))).toInt64 &&& 63)) ||| ((((xs ((4 * k) + 2))).toInt64) &&& ((4294967295 : Int64)))) n) n) ll id ms sc st)) := hD
        have hwc : rc = ((1 : Int32)) := hwc
        subst hwc
        refine lv_aload_n hx hb dL_law_121 rfl (lv_at hl 2 rfl) ?_
        refine lv_aload_n hx hb dL_law_122 rfl (lv_at hl 0 rfl) ?_
        refine lv_iload_n hx hb dL_law_123 rfl (lv_at hl 3 rfl) ?_
        refine lv_iconst (v := (nI (1))) hx hb dL_law_124 (by decide) ?_
        refine lv_iadd hx hb dL_law_125 ?_
        refine kp_i (nI_add _ _) ?_
        refine kb_sld hx hb hX hbl hbA hS ((4 * k) + 1) rfl (by omega) (by omega) dL_law_126 ?_
        refine lv_i2l hx hb dL_law_127 rfl ?_
        refine lv_bipush (v := ((32 : Int32))) hx hb dL_law_128 (by decide) ?_
        refine lv_lshl hx hb dL_law_130 rfl ?_
        refine lv_aload_n hx hb dL_law_131 rfl (lv_at hl 0 rfl) ?_
        refine lv_iload_n hx hb dL_law_132 rfl (lv_at hl 3 rfl) ?_
        refine lv_iconst (v := (nI (2))) hx hb dL_law_133 (by decide) ?_
        refine lv_iadd hx hb dL_law_134 ?_
        refine kp_i (nI_add _ _) ?_
        refine kb_sld hx hb hX hbl hbA hS ((4 * k) + 2) rfl (by omega) (by omega) dL_law_135 ?_
        refine lv_i2l hx hb dL_law_136 rfl ?_
        refine lv_ldc2 (v := 4294967295) hx hb hown (hts (.constantLong RL 13 (4294967295)) (by decide +kernel)) dL_law_137 ?_
        refine lv_land hx hb dL_law_140 ?_
        refine lv_lor hx hb dL_law_141 ?_
        refine lv_aload_n hx hb dL_law_142 rfl (lv_at hl 0 rfl) ?_
        refine lv_iload_n hx hb dL_law_143 rfl (lv_at hl 3 rfl) ?_
        refine lv_iconst (v := (nI (3))) hx hb dL_law_144 (by decide) ?_
        refine lv_iadd hx hb dL_law_145 ?_
        refine kp_i (nI_add _ _) ?_
        refine kb_sld hx hb hX hbl hbA hS ((4 * k) + 3) rfl (by omega) (by omega) dL_law_146 ?_
        refine kp_i en ?_
        refine lc_i (As := [.long (((((xs ((4 * k) + 1))).toInt64) <<< ((((32 : Int32))).toInt64 &&& 63)) ||| ((((xs ((4 * k) + 2))).toInt64) &&& ((4294967295 : Int64)))), .int (nI n)]) (rest := [.int ((1 : Int32))]) [0, 1, 2, 3, 4, 5, 6, 7, 8, 9, 10] [11, 12, 13, 14, 15, 16, 17, 18] ⟨hx, hb, hml, hown, hts⟩ (m_put_y l D (va_A (wm r cI cJ hz tl lv mn vs cb hs su s2 ro be tm bs sz lw mi) H.size) r cI cJ hz tl lv mn vs cb hs su s2 ro be tm bs sz lw mi ((((((xs ((4 * k) + 1))).toInt64) <<< ((((32 : Int32))).toInt64 &&& 63)) ||| ((((xs ((4 * k) + 2))).toInt64) &&& ((4294967295 : Int64))))) n hn1 hn8 hn) (cwV 2 hts gL2_put rfl rfl rfl (by decide +kernel) ⟨Nat.le_of_ble_eq_true rfl, Nat.le_of_ble_eq_true rfl⟩) (va_recv hKm hP (ci := 2) (q0 := 0) rfl rfl) hKm hP hD hS hZ0 hA rfl rfl rfl (by decide) (by decide) (by decide) rfl hl.1 rfl (Nat.le_of_ble_eq_true rfl) ⟨Nat.le_of_ble_eq_true rfl, Nat.le_of_ble_eq_true rfl⟩ dL_law_147 (fun rm um H locs hwm hP hD hS => ?_)
        have hP : va_P D vwCl ((wk q cB cI (tl + n) lv lb ln (cat tp tl (pb (((((xs ((4 * k) + 1))).toInt64) <<< ((((32 : Int32))).toInt64 &&& 63)) ||| ((((xs ((4 * k) + 2))).toInt64) &&& ((4294967295 : Int64)))) n) n) ll id ms sc st) ++ (wm r cI cJ hz (tl + n) lv mn vs cb hs su s2 ro be (cat tm tl (fun j => pb (((((xs ((4 * k) + 1))).toInt64) <<< ((((32 : Int32))).toInt64 &&& 63)) ||| ((((xs ((4 * k) + 2))).toInt64) &&& ((4294967295 : Int64)))) n j &&& 255) n) bs sz lw mi)) H := hP
        have hD : va_D (fun q : Nat => s.heap.size ≤ q) ((wk q cB cI (tl + n) lv lb ln (cat tp tl (pb (((((xs ((4 * k) + 1))).toInt64) <<< ((((32 : Int32))).toInt64 &&& 63)) ||| ((((xs ((4 * k) + 2))).toInt64) &&& ((4294967295 : Int64)))) n) n) ll id ms sc st) ++ (wm r cI cJ hz (tl + n) lv mn vs cb hs su s2 ro be (cat tm tl (fun j => pb (((((xs ((4 * k) + 1))).toInt64) <<< ((((32 : Int32))).toInt64 &&& 63)) ||| ((((xs ((4 * k) + 2))).toInt64) &&& ((4294967295 : Int64)))) n j &&& 255) n) bs sz lw mi)) := hD
        have hwm : rm = ((1 : Int32)) := hwm
        subst hwm
        refine lv_icmp_eq (tgt := 398) hx hb dL_law_150 (by decide) (fun c_150 => ?_) (fun c_150 => absurd (rfl) c_150)
        refine lv_iinc (v := (nI (4 * (k + 1)))) (lv' := [(3, .int (nI (4 * (k + 1)))), (0, .ref b), (1, .ref (q 0)), (2, .ref (r 0))]) hx hb dL_law_398 hl (k := 3) rfl (kn_inc _ _ 4 (by omega)) (by decide) rfl (fun ls hl => ?_)
        refine lv_goto (tgt := 18) hx hb dL_law_401 (by decide) ?_
        exact ih hlt _ _ _ ⟨tl + n, lv, lb, ln, cat tp tl (pb (((((xs ((4 * k) + 1))).toInt64) <<< ((((32 : Int32))).toInt64 &&& 63)) ||| ((((xs ((4 * k) + 2))).toInt64) &&& ((4294967295 : Int64)))) n) n, ll, id, ms, sc, st, hz, mn, vs, cb, hs, su, s2, ro, be, cat tm tl (fun j => pb (((((xs ((4 * k) + 1))).toInt64) <<< ((((32 : Int32))).toInt64 &&& 63)) ||| ((((xs ((4 * k) + 2))).toInt64) &&& ((4294967295 : Int64)))) n j &&& 255) n, bs, sz, lw, mi, LB, RR_put hR hn, hP, hD, hS, (lv_sub hl [1, 2, 3, 0] rfl)⟩
      · refine lv_aload_n hx hb dL_law_92 rfl (lv_at hl 1 rfl) ?_
        refine lv_aload_n hx hb dL_law_93 rfl (lv_at hl 0 rfl) ?_
        refine lv_iload_n hx hb dL_law_94 rfl (lv_at hl 3 rfl) ?_
        refine lv_iconst (v := (nI (1))) hx hb dL_law_95 (by decide) ?_
        refine lv_iadd hx hb dL_law_96 ?_
        refine kp_i (nI_add _ _) ?_
        refine kb_sld hx hb hX hbl hbA hS ((4 * k) + 1) rfl (by omega) (by omega) dL_law_97 ?_
        refine lv_i2l hx hb dL_law_98 rfl ?_
        refine lv_bipush (v := ((32 : Int32))) hx hb dL_law_99 (by decide) ?_
        refine lv_lshl hx hb dL_law_101 rfl ?_
        refine lv_aload_n hx hb dL_law_102 rfl (lv_at hl 0 rfl) ?_
        refine lv_iload_n hx hb dL_law_103 rfl (lv_at hl 3 rfl) ?_
        refine lv_iconst (v := (nI (2))) hx hb dL_law_104 (by decide) ?_
        refine lv_iadd hx hb dL_law_105 ?_
        refine kp_i (nI_add _ _) ?_
        refine kb_sld hx hb hX hbl hbA hS ((4 * k) + 2) rfl (by omega) (by omega) dL_law_106 ?_
        refine lv_i2l hx hb dL_law_107 rfl ?_
        refine lv_ldc2 (v := 4294967295) hx hb hown (hts (.constantLong RL 13 (4294967295)) (by decide +kernel)) dL_law_108 ?_
        refine lv_land hx hb dL_law_111 ?_
        refine lv_lor hx hb dL_law_112 ?_
        refine lv_aload_n hx hb dL_law_113 rfl (lv_at hl 0 rfl) ?_
        refine lv_iload_n hx hb dL_law_114 rfl (lv_at hl 3 rfl) ?_
        refine lv_iconst (v := (nI (3))) hx hb dL_law_115 (by decide) ?_
        refine lv_iadd hx hb dL_law_116 ?_
        refine kp_i (nI_add _ _) ?_
        refine kb_sld hx hb hX hbl hbA hS ((4 * k) + 3) rfl (by omega) (by omega) dL_law_117 ?_
        refine lc_i (As := [.long (((((xs ((4 * k) + 1))).toInt64) <<< ((((32 : Int32))).toInt64 &&& 63)) ||| ((((xs ((4 * k) + 2))).toInt64) &&& ((4294967295 : Int64)))), .int (xs ((4 * k) + 3))]) (rest := []) [0, 1, 2, 3, 4, 5, 6, 7] [8, 9, 10, 11, 12, 13, 14, 15, 16, 17, 18] ⟨hx, hb, hml, hown, hts⟩ (c_put_n l D (va_A (wk q cB cI tl lv lb ln tp ll id ms sc st) H.size) q cB cI tl lv lb ln tp ll id ms sc st ((((((xs ((4 * k) + 1))).toInt64) <<< ((((32 : Int32))).toInt64 &&& 63)) ||| ((((xs ((4 * k) + 2))).toInt64) &&& ((4294967295 : Int64))))) ((xs ((4 * k) + 3))) hR.1 (fun n a b c => Nat.lt_of_not_le (fun d => hc ⟨n, a, b, c, d⟩))) (cwV 2 hts gL1_put rfl rfl rfl (by decide +kernel) ⟨Nat.le_of_ble_eq_true rfl, Nat.le_of_ble_eq_true rfl⟩) (va_recv hKc hP (ci := 1) (q0 := 0) rfl rfl) hKc hP hD hS hZ hA rfl rfl rfl (by decide) (by decide) (by decide) rfl hl.1 rfl (Nat.le_of_ble_eq_true rfl) ⟨Nat.le_of_ble_eq_true rfl, Nat.le_of_ble_eq_true rfl⟩ dL_law_118 (fun rc uc H locs hwc hP hD hS => ?_)
        have hP : va_P D vwCl ((wm r cI cJ hz tl lv mn vs cb hs su s2 ro be tm bs sz lw mi) ++ (wk q cB cI tl lv lb ln tp ll id ms sc st)) H := hP
        have hD : va_D (fun q : Nat => s.heap.size ≤ q) ((wm r cI cJ hz tl lv mn vs cb hs su s2 ro be tm bs sz lw mi) ++ (wk q cB cI tl lv lb ln tp ll id ms sc st)) := hD
        have hwc : rc = ((0 : Int32)) := hwc
        subst hwc
        refine lv_aload_n hx hb dL_law_121 rfl (lv_at hl 2 rfl) ?_
        refine lv_aload_n hx hb dL_law_122 rfl (lv_at hl 0 rfl) ?_
        refine lv_iload_n hx hb dL_law_123 rfl (lv_at hl 3 rfl) ?_
        refine lv_iconst (v := (nI (1))) hx hb dL_law_124 (by decide) ?_
        refine lv_iadd hx hb dL_law_125 ?_
        refine kp_i (nI_add _ _) ?_
        refine kb_sld hx hb hX hbl hbA hS ((4 * k) + 1) rfl (by omega) (by omega) dL_law_126 ?_
        refine lv_i2l hx hb dL_law_127 rfl ?_
        refine lv_bipush (v := ((32 : Int32))) hx hb dL_law_128 (by decide) ?_
        refine lv_lshl hx hb dL_law_130 rfl ?_
        refine lv_aload_n hx hb dL_law_131 rfl (lv_at hl 0 rfl) ?_
        refine lv_iload_n hx hb dL_law_132 rfl (lv_at hl 3 rfl) ?_
        refine lv_iconst (v := (nI (2))) hx hb dL_law_133 (by decide) ?_
        refine lv_iadd hx hb dL_law_134 ?_
        refine kp_i (nI_add _ _) ?_
        refine kb_sld hx hb hX hbl hbA hS ((4 * k) + 2) rfl (by omega) (by omega) dL_law_135 ?_
        refine lv_i2l hx hb dL_law_136 rfl ?_
        refine lv_ldc2 (v := 4294967295) hx hb hown (hts (.constantLong RL 13 (4294967295)) (by decide +kernel)) dL_law_137 ?_
        refine lv_land hx hb dL_law_140 ?_
        refine lv_lor hx hb dL_law_141 ?_
        refine lv_aload_n hx hb dL_law_142 rfl (lv_at hl 0 rfl) ?_
        refine lv_iload_n hx hb dL_law_143 rfl (lv_at hl 3 rfl) ?_
        refine lv_iconst (v := (nI (3))) hx hb dL_law_144 (by decide) ?_
        refine lv_iadd hx hb dL_law_145 ?_
        refine kp_i (nI_add _ _) ?_
        refine kb_sld hx hb hX hbl hbA hS ((4 * k) + 3) rfl (by omega) (by omega) dL_law_146 ?_
        refine lc_i (As := [.long (((((xs ((4 * k) + 1))).toInt64) <<< ((((32 : Int32))).toInt64 &&& 63)) ||| ((((xs ((4 * k) + 2))).toInt64) &&& ((4294967295 : Int64)))), .int (xs ((4 * k) + 3))]) (rest := [.int ((0 : Int32))]) [0, 1, 2, 3, 4, 5, 6, 7, 8, 9, 10] [11, 12, 13, 14, 15, 16, 17, 18] ⟨hx, hb, hml, hown, hts⟩ (m_put_n l D (va_A (wm r cI cJ hz tl lv mn vs cb hs su s2 ro be tm bs sz lw mi) H.size) r cI cJ hz tl lv mn vs cb hs su s2 ro be tm bs sz lw mi ((((((xs ((4 * k) + 1))).toInt64) <<< ((((32 : Int32))).toInt64 &&& 63)) ||| ((((xs ((4 * k) + 2))).toInt64) &&& ((4294967295 : Int64))))) ((xs ((4 * k) + 3))) hR.1 (fun n a b c => Nat.lt_of_not_le (fun d => hc ⟨n, a, b, c, d⟩))) (cwV 2 hts gL2_put rfl rfl rfl (by decide +kernel) ⟨Nat.le_of_ble_eq_true rfl, Nat.le_of_ble_eq_true rfl⟩) (va_recv hKm hP (ci := 2) (q0 := 0) rfl rfl) hKm hP hD hS hZ0 hA rfl rfl rfl (by decide) (by decide) (by decide) rfl hl.1 rfl (Nat.le_of_ble_eq_true rfl) ⟨Nat.le_of_ble_eq_true rfl, Nat.le_of_ble_eq_true rfl⟩ dL_law_147 (fun rm um H locs hwm hP hD hS => ?_)
        have hP : va_P D vwCl ((wk q cB cI tl lv lb ln tp ll id ms sc st) ++ (wm r cI cJ hz tl lv mn vs cb hs su s2 ro be tm bs sz lw mi)) H := hP
        have hD : va_D (fun q : Nat => s.heap.size ≤ q) ((wk q cB cI tl lv lb ln tp ll id ms sc st) ++ (wm r cI cJ hz tl lv mn vs cb hs su s2 ro be tm bs sz lw mi)) := hD
        have hwm : rm = ((0 : Int32)) := hwm
        subst hwm
        refine lv_icmp_eq (tgt := 398) hx hb dL_law_150 (by decide) (fun c_150 => ?_) (fun c_150 => absurd (rfl) c_150)
        refine lv_iinc (v := (nI (4 * (k + 1)))) (lv' := [(3, .int (nI (4 * (k + 1)))), (0, .ref b), (1, .ref (q 0)), (2, .ref (r 0))]) hx hb dL_law_398 hl (k := 3) rfl (kn_inc _ _ 4 (by omega)) (by decide) rfl (fun ls hl => ?_)
        refine lv_goto (tgt := 18) hx hb dL_law_401 (by decide) ?_
        exact ih hlt _ _ _ ⟨tl, lv, lb, ln, tp, ll, id, ms, sc, st, hz, mn, vs, cb, hs, su, s2, ro, be, tm, bs, sz, lw, mi, LB, hR, hP, hD, hS, (lv_sub hl [1, 2, 3, 0] rfl)⟩
    · refine lv_tableIn (tgt := 155) hx hb dL_law_32 (by decide) (by decide) rfl (by decide) ?_
      rcases k_or (xs (4 * k + 1)) with ⟨j, hj, ej⟩ | hbad
      · refine lv_aload_n hx hb dL_law_155 rfl (lv_at hl 1 rfl) ?_
        refine lv_aload_n hx hb dL_law_156 rfl (lv_at hl 0 rfl) ?_
        refine lv_iload_n hx hb dL_law_157 rfl (lv_at hl 3 rfl) ?_
        refine lv_iconst (v := (nI (1))) hx hb dL_law_158 (by decide) ?_
        refine lv_iadd hx hb dL_law_159 ?_
        refine kp_i (nI_add _ _) ?_
        refine kb_sld hx hb hX hbl hbA hS ((4 * k) + 1) rfl (by omega) (by omega) dL_law_160 ?_
        refine kp_i ej ?_
        refine lc_l (As := [.int (nI j)]) (rest := []) [0, 1, 2, 3, 4, 5, 6, 7] [8, 9, 10, 11, 12, 13, 14, 15, 16, 17, 18] ⟨hx, hb, hml, hown, hts⟩ (c_hash l D (va_A (wk q cB cI tl lv lb ln tp ll id ms sc st) H.size) q cB cI tl lv lb ln tp ll id ms sc st ((nI (j))) hR.1) (cwV 1 hts gL1_hash rfl rfl rfl (by decide +kernel) ⟨Nat.le_of_ble_eq_true rfl, Nat.le_of_ble_eq_true rfl⟩) (va_recv hKc hP (ci := 1) (q0 := 0) rfl rfl) hKc hP hD hS hZ hA rfl rfl rfl (by decide) (by decide) (by decide) rfl hl.1 rfl (Nat.le_of_ble_eq_true rfl) ⟨Nat.le_of_ble_eq_true rfl, Nat.le_of_ble_eq_true rfl⟩ dL_law_161 (fun rc uc H locs hwc hP hD hS => ?_)
        have hP : va_P D vwCl ((wm r cI cJ hz tl lv mn vs cb hs su s2 ro be tm bs sz lw mi) ++ (wk q cB cI tl lv lb uc.1 tp ll (pn id 202 (hsh tp tl)) uc.2.1 uc.2.2.1 uc.2.2.2)) H := hP
        have hD : va_D (fun q : Nat => s.heap.size ≤ q) ((wm r cI cJ hz tl lv mn vs cb hs su s2 ro be tm bs sz lw mi) ++ (wk q cB cI tl lv lb uc.1 tp ll (pn id 202 (hsh tp tl)) uc.2.1 uc.2.2.1 uc.2.2.2)) := hD
        have hwc : rc = (e8 (hsh tp tl) (nI (j))) := hwc
        subst hwc
        refine lv_aload_n hx hb dL_law_164 rfl (lv_at hl 2 rfl) ?_
        refine lv_aload_n hx hb dL_law_165 rfl (lv_at hl 0 rfl) ?_
        refine lv_iload_n hx hb dL_law_166 rfl (lv_at hl 3 rfl) ?_
        refine lv_iconst (v := (nI (1))) hx hb dL_law_167 (by decide) ?_
        refine lv_iadd hx hb dL_law_168 ?_
        refine kp_i (nI_add _ _) ?_
        refine kb_sld hx hb hX hbl hbA hS ((4 * k) + 1) rfl (by omega) (by omega) dL_law_169 ?_
        refine kp_i ej ?_
        refine lc_l (As := [.int (nI j)]) (rest := [.long (e8 (hsh tp tl) (nI (j)))]) [0, 1, 2, 3, 4, 5, 6, 7, 8, 9, 10] [11, 12, 13, 14, 15, 16, 17, 18] ⟨hx, hb, hml, hown, hts⟩ (m_hash_y l D (va_A (wm r cI cJ hz tl lv mn vs cb hs su s2 ro be tm bs sz lw mi) H.size) r cI cJ hz tl lv mn vs cb hs su s2 ro be tm bs sz lw mi j tp hR.1 hR.2.2.2.2.2.2.2.2.1 hR.2.2.2.2.2.2.2.2.2 hR.2.2.2.2.2.1 hj) (cwV 1 hts gL2_hash rfl rfl rfl (by decide +kernel) ⟨Nat.le_of_ble_eq_true rfl, Nat.le_of_ble_eq_true rfl⟩) (va_recv hKm hP (ci := 2) (q0 := 0) rfl rfl) hKm hP hD hS hZ0 hA rfl rfl rfl (by decide) (by decide) (by decide) rfl hl.1 rfl (Nat.le_of_ble_eq_true rfl) ⟨Nat.le_of_ble_eq_true rfl, Nat.le_of_ble_eq_true rfl⟩ dL_law_170 (fun rm um H locs hwm hP hD hS => ?_)
        have hP : va_P D vwCl ((wk q cB cI tl lv lb uc.1 tp ll (pn id 202 (hsh tp tl)) uc.2.1 uc.2.2.1 uc.2.2.2) ++ (wm r cI cJ um.1 tl lv mn vs cb um.2.1 um.2.2.1 um.2.2.2 ro be tm bs sz lw mi)) H := hP
        have hD : va_D (fun q : Nat => s.heap.size ≤ q) ((wk q cB cI tl lv lb uc.1 tp ll (pn id 202 (hsh tp tl)) uc.2.1 uc.2.2.1 uc.2.2.2) ++ (wm r cI cJ um.1 tl lv mn vs cb um.2.1 um.2.2.1 um.2.2.2 ro be tm bs sz lw mi)) := hD
        have hwm : rm = (e8 (hsh tp tl) (nI j)) := hwm
        subst hwm
        refine W.lcmp hx hb dL_law_173 ?_
        refine lv_if_eq (tgt := 398) hx hb dL_law_174 (by decide) (fun c_174 => ?_) (fun c_174 => absurd (rfl) (lc_n c_174))
        refine lv_iinc (v := (nI (4 * (k + 1)))) (lv' := [(3, .int (nI (4 * (k + 1)))), (0, .ref b), (1, .ref (q 0)), (2, .ref (r 0))]) hx hb dL_law_398 hl (k := 3) rfl (kn_inc _ _ 4 (by omega)) (by decide) rfl (fun ls hl => ?_)
        refine lv_goto (tgt := 18) hx hb dL_law_401 (by decide) ?_
        exact ih hlt _ _ _ ⟨tl, lv, lb, uc.1, tp, ll, pn id 202 (hsh tp tl), uc.2.1, uc.2.2.1, uc.2.2.2, um.1, mn, vs, cb, um.2.1, um.2.2.1, um.2.2.2, ro, be, tm, bs, sz, lw, mi, LB, RR_202 hR, hP, hD, hS, (lv_sub hl [1, 2, 3, 0] rfl)⟩
      · refine lv_aload_n hx hb dL_law_155 rfl (lv_at hl 1 rfl) ?_
        refine lv_aload_n hx hb dL_law_156 rfl (lv_at hl 0 rfl) ?_
        refine lv_iload_n hx hb dL_law_157 rfl (lv_at hl 3 rfl) ?_
        refine lv_iconst (v := (nI (1))) hx hb dL_law_158 (by decide) ?_
        refine lv_iadd hx hb dL_law_159 ?_
        refine kp_i (nI_add _ _) ?_
        refine kb_sld hx hb hX hbl hbA hS ((4 * k) + 1) rfl (by omega) (by omega) dL_law_160 ?_
        refine lc_l (As := [.int (xs ((4 * k) + 1))]) (rest := []) [0, 1, 2, 3, 4, 5, 6, 7] [8, 9, 10, 11, 12, 13, 14, 15, 16, 17, 18] ⟨hx, hb, hml, hown, hts⟩ (c_hash l D (va_A (wk q cB cI tl lv lb ln tp ll id ms sc st) H.size) q cB cI tl lv lb ln tp ll id ms sc st ((xs ((4 * k) + 1))) hR.1) (cwV 1 hts gL1_hash rfl rfl rfl (by decide +kernel) ⟨Nat.le_of_ble_eq_true rfl, Nat.le_of_ble_eq_true rfl⟩) (va_recv hKc hP (ci := 1) (q0 := 0) rfl rfl) hKc hP hD hS hZ hA rfl rfl rfl (by decide) (by decide) (by decide) rfl hl.1 rfl (Nat.le_of_ble_eq_true rfl) ⟨Nat.le_of_ble_eq_true rfl, Nat.le_of_ble_eq_true rfl⟩ dL_law_161 (fun rc uc H locs hwc hP hD hS => ?_)
        have hP : va_P D vwCl ((wm r cI cJ hz tl lv mn vs cb hs su s2 ro be tm bs sz lw mi) ++ (wk q cB cI tl lv lb uc.1 tp ll (pn id 202 (hsh tp tl)) uc.2.1 uc.2.2.1 uc.2.2.2)) H := hP
        have hD : va_D (fun q : Nat => s.heap.size ≤ q) ((wm r cI cJ hz tl lv mn vs cb hs su s2 ro be tm bs sz lw mi) ++ (wk q cB cI tl lv lb uc.1 tp ll (pn id 202 (hsh tp tl)) uc.2.1 uc.2.2.1 uc.2.2.2)) := hD
        have hwc : rc = (e8 (hsh tp tl) (xs ((4 * k) + 1))) := hwc
        subst hwc
        refine lv_aload_n hx hb dL_law_164 rfl (lv_at hl 2 rfl) ?_
        refine lv_aload_n hx hb dL_law_165 rfl (lv_at hl 0 rfl) ?_
        refine lv_iload_n hx hb dL_law_166 rfl (lv_at hl 3 rfl) ?_
        refine lv_iconst (v := (nI (1))) hx hb dL_law_167 (by decide) ?_
        refine lv_iadd hx hb dL_law_168 ?_
        refine kp_i (nI_add _ _) ?_
        refine kb_sld hx hb hX hbl hbA hS ((4 * k) + 1) rfl (by omega) (by omega) dL_law_169 ?_
        refine lc_l (As := [.int (xs ((4 * k) + 1))]) (rest := [.long (e8 (hsh tp tl) (xs ((4 * k) + 1)))]) [0, 1, 2, 3, 4, 5, 6, 7, 8, 9, 10] [11, 12, 13, 14, 15, 16, 17, 18] ⟨hx, hb, hml, hown, hts⟩ (m_hash_n l D (va_A (wm r cI cJ hz tl lv mn vs cb hs su s2 ro be tm bs sz lw mi) H.size) r cI cJ hz tl lv mn vs cb hs su s2 ro be tm bs sz lw mi ((xs ((4 * k) + 1))) hbad) (cwV 1 hts gL2_hash rfl rfl rfl (by decide +kernel) ⟨Nat.le_of_ble_eq_true rfl, Nat.le_of_ble_eq_true rfl⟩) (va_recv hKm hP (ci := 2) (q0 := 0) rfl rfl) hKm hP hD hS hZ0 hA rfl rfl rfl (by decide) (by decide) (by decide) rfl hl.1 rfl (Nat.le_of_ble_eq_true rfl) ⟨Nat.le_of_ble_eq_true rfl, Nat.le_of_ble_eq_true rfl⟩ dL_law_170 (fun rm um H locs hwm hP hD hS => ?_)
        have hP : va_P D vwCl ((wk q cB cI tl lv lb uc.1 tp ll (pn id 202 (hsh tp tl)) uc.2.1 uc.2.2.1 uc.2.2.2) ++ (wm r cI cJ hz tl lv mn vs cb hs su s2 ro be tm bs sz lw mi)) H := hP
        have hD : va_D (fun q : Nat => s.heap.size ≤ q) ((wk q cB cI tl lv lb uc.1 tp ll (pn id 202 (hsh tp tl)) uc.2.1 uc.2.2.1 uc.2.2.2) ++ (wm r cI cJ hz tl lv mn vs cb hs su s2 ro be tm bs sz lw mi)) := hD
        have hwm : rm = ((0 : Int64)) := hwm
        subst hwm
        refine W.lcmp hx hb dL_law_173 ?_
        refine lv_if_eq (tgt := 398) hx hb dL_law_174 (by decide) (fun c_174 => ?_) (fun c_174 => absurd (e8_bad hbad) (lc_n c_174))
        refine lv_iinc (v := (nI (4 * (k + 1)))) (lv' := [(3, .int (nI (4 * (k + 1)))), (0, .ref b), (1, .ref (q 0)), (2, .ref (r 0))]) hx hb dL_law_398 hl (k := 3) rfl (kn_inc _ _ 4 (by omega)) (by decide) rfl (fun ls hl => ?_)
        refine lv_goto (tgt := 18) hx hb dL_law_401 (by decide) ?_
        exact ih hlt _ _ _ ⟨tl, lv, lb, uc.1, tp, ll, pn id 202 (hsh tp tl), uc.2.1, uc.2.2.1, uc.2.2.2, hz, mn, vs, cb, hs, su, s2, ro, be, tm, bs, sz, lw, mi, LB, RR_202 hR, hP, hD, hS, (lv_sub hl [1, 2, 3, 0] rfl)⟩
    · refine lv_tableIn (tgt := 179) hx hb dL_law_32 (by decide) (by decide) rfl (by decide) ?_
      by_cases hc : lv < 100
      · refine lv_aload_n hx hb dL_law_179 rfl (lv_at hl 1 rfl) ?_
        refine lc_i (As := []) (rest := []) [0, 1, 2, 3, 4, 5, 6, 7] [8, 9, 10, 11, 12, 13, 14, 15, 16, 17, 18] ⟨hx, hb, hml, hown, hts⟩ (c_add_y l D (va_A (wk q cB cI tl lv lb ln tp ll id ms sc st) H.size) q cB cI tl lv lb ln tp ll id ms sc st hc hR.1 (RR_lb hR)) (cwV 0 hts gL1_add rfl rfl rfl (by decide +kernel) ⟨Nat.le_of_ble_eq_true rfl, Nat.le_of_ble_eq_true rfl⟩) (va_recv hKc hP (ci := 1) (q0 := 0) rfl rfl) hKc hP hD hS hZ hA rfl rfl rfl (by decide) (by decide) (by decide) rfl hl.1 rfl (Nat.le_of_ble_eq_true rfl) ⟨Nat.le_of_ble_eq_true rfl, Nat.le_of_ble_eq_true rfl⟩ dL_law_180 (fun rc uc H locs hwc hP hD hS => ?_)
        have hP : va_P D vwCl ((wm r cI cJ hz tl lv mn vs cb hs su s2 ro be tm bs sz lw mi) ++ (wk q cB cI 0 (lv + 1) (lb + tl) uc.1 tp (va_up ll lv tl) (rfa (lv + 1) lv (pn id lv (lfh tp tl)) (rl (lv + 1))) uc.2.1 uc.2.2.1 uc.2.2.2)) H := hP
        have hD : va_D (fun q : Nat => s.heap.size ≤ q) ((wm r cI cJ hz tl lv mn vs cb hs su s2 ro be tm bs sz lw mi) ++ (wk q cB cI 0 (lv + 1) (lb + tl) uc.1 tp (va_up ll lv tl) (rfa (lv + 1) lv (pn id lv (lfh tp tl)) (rl (lv + 1))) uc.2.1 uc.2.2.1 uc.2.2.2)) := hD
        have hwc : rc = (nI (lv)) := hwc
        subst hwc
        refine lv_aload_n hx hb dL_law_183 rfl (lv_at hl 2 rfl) ?_
        refine lc_i (As := []) (rest := [.int (nI lv)]) [0, 1, 2, 3, 4, 5, 6, 7, 8, 9, 10] [11, 12, 13, 14, 15, 16, 17, 18] ⟨hx, hb, hml, hown, hts⟩ (m_add_y l D (va_A (wm r cI cJ hz tl lv mn vs cb hs su s2 ro be tm bs sz lw mi) H.size) r cI cJ hz tl lv mn vs cb hs su s2 ro be tm bs sz lw mi hc hR.1) (cwV 0 hts gL2_add rfl rfl rfl (by decide +kernel) ⟨Nat.le_of_ble_eq_true rfl, Nat.le_of_ble_eq_true rfl⟩) (va_recv hKm hP (ci := 2) (q0 := 0) rfl rfl) hKm hP hD hS hZ0 hA rfl rfl rfl (by decide) (by decide) (by decide) rfl hl.1 rfl (Nat.le_of_ble_eq_true rfl) ⟨Nat.le_of_ble_eq_true rfl, Nat.le_of_ble_eq_true rfl⟩ dL_law_184 (fun rm um H locs hwm hP hD hS => ?_)
        have hP : va_P D vwCl ((wk q cB cI 0 (lv + 1) (lb + tl) uc.1 tp (va_up ll lv tl) (rfa (lv + 1) lv (pn id lv (lfh tp tl)) (rl (lv + 1))) uc.2.1 uc.2.2.1 uc.2.2.2) ++ (wm r cI cJ hz 0 (lv + 1) mn vs cb hs su s2 ro be tm (cat bs (150 * lv) tm tl) (va_up sz lv tl) lw mi)) H := hP
        have hD : va_D (fun q : Nat => s.heap.size ≤ q) ((wk q cB cI 0 (lv + 1) (lb + tl) uc.1 tp (va_up ll lv tl) (rfa (lv + 1) lv (pn id lv (lfh tp tl)) (rl (lv + 1))) uc.2.1 uc.2.2.1 uc.2.2.2) ++ (wm r cI cJ hz 0 (lv + 1) mn vs cb hs su s2 ro be tm (cat bs (150 * lv) tm tl) (va_up sz lv tl) lw mi)) := hD
        have hwm : rm = (nI (lv)) := hwm
        subst hwm
        refine lv_icmp_eq (tgt := 398) hx hb dL_law_187 (by decide) (fun c_187 => ?_) (fun c_187 => absurd (rfl) c_187)
        refine lv_iinc (v := (nI (4 * (k + 1)))) (lv' := [(3, .int (nI (4 * (k + 1)))), (0, .ref b), (1, .ref (q 0)), (2, .ref (r 0))]) hx hb dL_law_398 hl (k := 3) rfl (kn_inc _ _ 4 (by omega)) (by decide) rfl (fun ls hl => ?_)
        refine lv_goto (tgt := 18) hx hb dL_law_401 (by decide) ?_
        exact ih hlt _ _ _ ⟨0, lv + 1, lb + tl, uc.1, tp, va_up ll lv tl, rfa (lv + 1) lv (pn id lv (lfh tp tl)) (rl (lv + 1)), uc.2.1, uc.2.2.1, uc.2.2.2, hz, mn, vs, cb, hs, su, s2, ro, be, tm, cat bs (150 * lv) tm tl, va_up sz lv tl, lw, mi, va_up LB lv tp, RR_add hR hc, hP, hD, hS, (lv_sub hl [1, 2, 3, 0] rfl)⟩
      · have e9 : 100 = lv := by have := hR.2.1; omega
        subst e9
        refine lv_aload_n hx hb dL_law_179 rfl (lv_at hl 1 rfl) ?_
        refine lc_i (As := []) (rest := []) [0, 1, 2, 3, 4, 5, 6, 7] [8, 9, 10, 11, 12, 13, 14, 15, 16, 17, 18] ⟨hx, hb, hml, hown, hts⟩ (c_add_n l D (va_A (wk q cB cI tl 100 lb ln tp ll id ms sc st) H.size) q cB cI tl 100 lb ln tp ll id ms sc st ) (cwV 0 hts gL1_add rfl rfl rfl (by decide +kernel) ⟨Nat.le_of_ble_eq_true rfl, Nat.le_of_ble_eq_true rfl⟩) (va_recv hKc hP (ci := 1) (q0 := 0) rfl rfl) hKc hP hD hS hZ hA rfl rfl rfl (by decide) (by decide) (by decide) rfl hl.1 rfl (Nat.le_of_ble_eq_true rfl) ⟨Nat.le_of_ble_eq_true rfl, Nat.le_of_ble_eq_true rfl⟩ dL_law_180 (fun rc uc H locs hwc hP hD hS => ?_)
        have hP : va_P D vwCl ((wm r cI cJ hz tl 100 mn vs cb hs su s2 ro be tm bs sz lw mi) ++ (wk q cB cI tl 100 lb ln tp ll id ms sc st)) H := hP
        have hD : va_D (fun q : Nat => s.heap.size ≤ q) ((wm r cI cJ hz tl 100 mn vs cb hs su s2 ro be tm bs sz lw mi) ++ (wk q cB cI tl 100 lb ln tp ll id ms sc st)) := hD
        have hwc : rc = ((-1 : Int32)) := hwc
        subst hwc
        refine lv_aload_n hx hb dL_law_183 rfl (lv_at hl 2 rfl) ?_
        refine lc_i (As := []) (rest := [.int ((-1 : Int32))]) [0, 1, 2, 3, 4, 5, 6, 7, 8, 9, 10] [11, 12, 13, 14, 15, 16, 17, 18] ⟨hx, hb, hml, hown, hts⟩ (m_add_n l D (va_A (wm r cI cJ hz tl 100 mn vs cb hs su s2 ro be tm bs sz lw mi) H.size) r cI cJ hz tl 100 mn vs cb hs su s2 ro be tm bs sz lw mi ) (cwV 0 hts gL2_add rfl rfl rfl (by decide +kernel) ⟨Nat.le_of_ble_eq_true rfl, Nat.le_of_ble_eq_true rfl⟩) (va_recv hKm hP (ci := 2) (q0 := 0) rfl rfl) hKm hP hD hS hZ0 hA rfl rfl rfl (by decide) (by decide) (by decide) rfl hl.1 rfl (Nat.le_of_ble_eq_true rfl) ⟨Nat.le_of_ble_eq_true rfl, Nat.le_of_ble_eq_true rfl⟩ dL_law_184 (fun rm um H locs hwm hP hD hS => ?_)
        have hP : va_P D vwCl ((wk q cB cI tl 100 lb ln tp ll id ms sc st) ++ (wm r cI cJ hz tl 100 mn vs cb hs su s2 ro be tm bs sz lw mi)) H := hP
        have hD : va_D (fun q : Nat => s.heap.size ≤ q) ((wk q cB cI tl 100 lb ln tp ll id ms sc st) ++ (wm r cI cJ hz tl 100 mn vs cb hs su s2 ro be tm bs sz lw mi)) := hD
        have hwm : rm = ((-1 : Int32)) := hwm
        subst hwm
        refine lv_icmp_eq (tgt := 398) hx hb dL_law_187 (by decide) (fun c_187 => ?_) (fun c_187 => absurd (rfl) c_187)
        refine lv_iinc (v := (nI (4 * (k + 1)))) (lv' := [(3, .int (nI (4 * (k + 1)))), (0, .ref b), (1, .ref (q 0)), (2, .ref (r 0))]) hx hb dL_law_398 hl (k := 3) rfl (kn_inc _ _ 4 (by omega)) (by decide) rfl (fun ls hl => ?_)
        refine lv_goto (tgt := 18) hx hb dL_law_401 (by decide) ?_
        exact ih hlt _ _ _ ⟨tl, 100, lb, ln, tp, ll, id, ms, sc, st, hz, mn, vs, cb, hs, su, s2, ro, be, tm, bs, sz, lw, mi, LB, hR, hP, hD, hS, (lv_sub hl [1, 2, 3, 0] rfl)⟩
    · refine lv_tableIn (tgt := 192) hx hb dL_law_32 (by decide) (by decide) rfl (by decide) ?_
      rcases leaf_or (xs (4 * k + 1)) hR.2.1 with ⟨i, hi, ei⟩ | hf
      · refine lv_aload_n hx hb dL_law_192 rfl (lv_at hl 1 rfl) ?_
        refine lv_aload_n hx hb dL_law_193 rfl (lv_at hl 0 rfl) ?_
        refine lv_iload_n hx hb dL_law_194 rfl (lv_at hl 3 rfl) ?_
        refine lv_iconst (v := (nI (1))) hx hb dL_law_195 (by decide) ?_
        refine lv_iadd hx hb dL_law_196 ?_
        refine kp_i (nI_add _ _) ?_
        refine kb_sld hx hb hX hbl hbA hS ((4 * k) + 1) rfl (by omega) (by omega) dL_law_197 ?_
        refine kp_i ei ?_
        refine lc_i (As := [.int (nI i)]) (rest := []) [0, 1, 2, 3, 4, 5, 6, 7] [8, 9, 10, 11, 12, 13, 14, 15, 16, 17, 18] ⟨hx, hb, hml, hown, hts⟩ (c_change_y l D (va_A (wk q cB cI tl lv lb ln tp ll id ms sc st) H.size) q cB cI tl lv lb ln tp ll id ms sc st i hi hR.2.1 hR.1 (Nat.le_trans (RR_ll hR hi) (Nat.le_add_right _ _))) (cwV 1 hts gL1_change rfl rfl rfl (by decide +kernel) ⟨Nat.le_of_ble_eq_true rfl, Nat.le_of_ble_eq_true rfl⟩) (va_recv hKc hP (ci := 1) (q0 := 0) rfl rfl) hKc hP hD hS hZ hA rfl rfl rfl (by decide) (by decide) (by decide) rfl hl.1 rfl (Nat.le_of_ble_eq_true rfl) ⟨Nat.le_of_ble_eq_true rfl, Nat.le_of_ble_eq_true rfl⟩ dL_law_198 (fun rc uc H locs hwc hP hD hS => ?_)
        have hP : va_P D vwCl ((wm r cI cJ hz tl lv mn vs cb hs su s2 ro be tm bs sz lw mi) ++ (wk q cB cI 0 lv (lb + tl - ll i) uc.1 tp (va_up ll i tl) (rfa lv i (pn id i (lfh tp tl)) (rl lv)) uc.2.1 uc.2.2.1 uc.2.2.2)) H := hP
        have hD : va_D (fun q : Nat => s.heap.size ≤ q) ((wm r cI cJ hz tl lv mn vs cb hs su s2 ro be tm bs sz lw mi) ++ (wk q cB cI 0 lv (lb + tl - ll i) uc.1 tp (va_up ll i tl) (rfa lv i (pn id i (lfh tp tl)) (rl lv)) uc.2.1 uc.2.2.1 uc.2.2.2)) := hD
        have hwc : rc = ((1 : Int32)) := hwc
        subst hwc
        refine lv_aload_n hx hb dL_law_201 rfl (lv_at hl 2 rfl) ?_
        refine lv_aload_n hx hb dL_law_202 rfl (lv_at hl 0 rfl) ?_
        refine lv_iload_n hx hb dL_law_203 rfl (lv_at hl 3 rfl) ?_
        refine lv_iconst (v := (nI (1))) hx hb dL_law_204 (by decide) ?_
        refine lv_iadd hx hb dL_law_205 ?_
        refine kp_i (nI_add _ _) ?_
        refine kb_sld hx hb hX hbl hbA hS ((4 * k) + 1) rfl (by omega) (by omega) dL_law_206 ?_
        refine kp_i ei ?_
        refine lc_i (As := [.int (nI i)]) (rest := [.int ((1 : Int32))]) [0, 1, 2, 3, 4, 5, 6, 7, 8, 9, 10] [11, 12, 13, 14, 15, 16, 17, 18] ⟨hx, hb, hml, hown, hts⟩ (m_change_y l D (va_A (wm r cI cJ hz tl lv mn vs cb hs su s2 ro be tm bs sz lw mi) H.size) r cI cJ hz tl lv mn vs cb hs su s2 ro be tm bs sz lw mi i hi hR.2.1 hR.1) (cwV 1 hts gL2_change rfl rfl rfl (by decide +kernel) ⟨Nat.le_of_ble_eq_true rfl, Nat.le_of_ble_eq_true rfl⟩) (va_recv hKm hP (ci := 2) (q0 := 0) rfl rfl) hKm hP hD hS hZ0 hA rfl rfl rfl (by decide) (by decide) (by decide) rfl hl.1 rfl (Nat.le_of_ble_eq_true rfl) ⟨Nat.le_of_ble_eq_true rfl, Nat.le_of_ble_eq_true rfl⟩ dL_law_207 (fun rm um H locs hwm hP hD hS => ?_)
        have hP : va_P D vwCl ((wk q cB cI 0 lv (lb + tl - ll i) uc.1 tp (va_up ll i tl) (rfa lv i (pn id i (lfh tp tl)) (rl lv)) uc.2.1 uc.2.2.1 uc.2.2.2) ++ (wm r cI cJ hz 0 lv mn vs cb hs su s2 ro be tm (cat bs (150 * i) tm tl) (va_up sz i tl) lw mi)) H := hP
        have hD : va_D (fun q : Nat => s.heap.size ≤ q) ((wk q cB cI 0 lv (lb + tl - ll i) uc.1 tp (va_up ll i tl) (rfa lv i (pn id i (lfh tp tl)) (rl lv)) uc.2.1 uc.2.2.1 uc.2.2.2) ++ (wm r cI cJ hz 0 lv mn vs cb hs su s2 ro be tm (cat bs (150 * i) tm tl) (va_up sz i tl) lw mi)) := hD
        have hwm : rm = ((1 : Int32)) := hwm
        subst hwm
        refine lv_icmp_eq (tgt := 398) hx hb dL_law_210 (by decide) (fun c_210 => ?_) (fun c_210 => absurd (rfl) c_210)
        refine lv_iinc (v := (nI (4 * (k + 1)))) (lv' := [(3, .int (nI (4 * (k + 1)))), (0, .ref b), (1, .ref (q 0)), (2, .ref (r 0))]) hx hb dL_law_398 hl (k := 3) rfl (kn_inc _ _ 4 (by omega)) (by decide) rfl (fun ls hl => ?_)
        refine lv_goto (tgt := 18) hx hb dL_law_401 (by decide) ?_
        exact ih hlt _ _ _ ⟨0, lv, lb + tl - ll i, uc.1, tp, va_up ll i tl, rfa lv i (pn id i (lfh tp tl)) (rl lv), uc.2.1, uc.2.2.1, uc.2.2.2, hz, mn, vs, cb, hs, su, s2, ro, be, tm, cat bs (150 * i) tm tl, va_up sz i tl, lw, mi, va_up LB i tp, RR_change hR hi, hP, hD, hS, (lv_sub hl [1, 2, 3, 0] rfl)⟩
      · refine lv_aload_n hx hb dL_law_192 rfl (lv_at hl 1 rfl) ?_
        refine lv_aload_n hx hb dL_law_193 rfl (lv_at hl 0 rfl) ?_
        refine lv_iload_n hx hb dL_law_194 rfl (lv_at hl 3 rfl) ?_
        refine lv_iconst (v := (nI (1))) hx hb dL_law_195 (by decide) ?_
        refine lv_iadd hx hb dL_law_196 ?_
        refine kp_i (nI_add _ _) ?_
        refine kb_sld hx hb hX hbl hbA hS ((4 * k) + 1) rfl (by omega) (by omega) dL_law_197 ?_
        refine lc_i (As := [.int (xs ((4 * k) + 1))]) (rest := []) [0, 1, 2, 3, 4, 5, 6, 7] [8, 9, 10, 11, 12, 13, 14, 15, 16, 17, 18] ⟨hx, hb, hml, hown, hts⟩ (c_change_n l D (va_A (wk q cB cI tl lv lb ln tp ll id ms sc st) H.size) q cB cI tl lv lb ln tp ll id ms sc st ((xs ((4 * k) + 1))) hf) (cwV 1 hts gL1_change rfl rfl rfl (by decide +kernel) ⟨Nat.le_of_ble_eq_true rfl, Nat.le_of_ble_eq_true rfl⟩) (va_recv hKc hP (ci := 1) (q0 := 0) rfl rfl) hKc hP hD hS hZ hA rfl rfl rfl (by decide) (by decide) (by decide) rfl hl.1 rfl (Nat.le_of_ble_eq_true rfl) ⟨Nat.le_of_ble_eq_true rfl, Nat.le_of_ble_eq_true rfl⟩ dL_law_198 (fun rc uc H locs hwc hP hD hS => ?_)
        have hP : va_P D vwCl ((wm r cI cJ hz tl lv mn vs cb hs su s2 ro be tm bs sz lw mi) ++ (wk q cB cI tl lv lb ln tp ll id ms sc st)) H := hP
        have hD : va_D (fun q : Nat => s.heap.size ≤ q) ((wm r cI cJ hz tl lv mn vs cb hs su s2 ro be tm bs sz lw mi) ++ (wk q cB cI tl lv lb ln tp ll id ms sc st)) := hD
        have hwc : rc = ((0 : Int32)) := hwc
        subst hwc
        refine lv_aload_n hx hb dL_law_201 rfl (lv_at hl 2 rfl) ?_
        refine lv_aload_n hx hb dL_law_202 rfl (lv_at hl 0 rfl) ?_
        refine lv_iload_n hx hb dL_law_203 rfl (lv_at hl 3 rfl) ?_
        refine lv_iconst (v := (nI (1))) hx hb dL_law_204 (by decide) ?_
        refine lv_iadd hx hb dL_law_205 ?_
        refine kp_i (nI_add _ _) ?_
        refine kb_sld hx hb hX hbl hbA hS ((4 * k) + 1) rfl (by omega) (by omega) dL_law_206 ?_
        refine lc_i (As := [.int (xs ((4 * k) + 1))]) (rest := [.int ((0 : Int32))]) [0, 1, 2, 3, 4, 5, 6, 7, 8, 9, 10] [11, 12, 13, 14, 15, 16, 17, 18] ⟨hx, hb, hml, hown, hts⟩ (m_change_n l D (va_A (wm r cI cJ hz tl lv mn vs cb hs su s2 ro be tm bs sz lw mi) H.size) r cI cJ hz tl lv mn vs cb hs su s2 ro be tm bs sz lw mi ((xs ((4 * k) + 1))) hf) (cwV 1 hts gL2_change rfl rfl rfl (by decide +kernel) ⟨Nat.le_of_ble_eq_true rfl, Nat.le_of_ble_eq_true rfl⟩) (va_recv hKm hP (ci := 2) (q0 := 0) rfl rfl) hKm hP hD hS hZ0 hA rfl rfl rfl (by decide) (by decide) (by decide) rfl hl.1 rfl (Nat.le_of_ble_eq_true rfl) ⟨Nat.le_of_ble_eq_true rfl, Nat.le_of_ble_eq_true rfl⟩ dL_law_207 (fun rm um H locs hwm hP hD hS => ?_)
        have hP : va_P D vwCl ((wk q cB cI tl lv lb ln tp ll id ms sc st) ++ (wm r cI cJ hz tl lv mn vs cb hs su s2 ro be tm bs sz lw mi)) H := hP
        have hD : va_D (fun q : Nat => s.heap.size ≤ q) ((wk q cB cI tl lv lb ln tp ll id ms sc st) ++ (wm r cI cJ hz tl lv mn vs cb hs su s2 ro be tm bs sz lw mi)) := hD
        have hwm : rm = ((0 : Int32)) := hwm
        subst hwm
        refine lv_icmp_eq (tgt := 398) hx hb dL_law_210 (by decide) (fun c_210 => ?_) (fun c_210 => absurd (rfl) c_210)
        refine lv_iinc (v := (nI (4 * (k + 1)))) (lv' := [(3, .int (nI (4 * (k + 1)))), (0, .ref b), (1, .ref (q 0)), (2, .ref (r 0))]) hx hb dL_law_398 hl (k := 3) rfl (kn_inc _ _ 4 (by omega)) (by decide) rfl (fun ls hl => ?_)
        refine lv_goto (tgt := 18) hx hb dL_law_401 (by decide) ?_
        exact ih hlt _ _ _ ⟨tl, lv, lb, ln, tp, ll, id, ms, sc, st, hz, mn, vs, cb, hs, su, s2, ro, be, tm, bs, sz, lw, mi, LB, hR, hP, hD, hS, (lv_sub hl [1, 2, 3, 0] rfl)⟩
    · refine lv_tableIn (tgt := 215) hx hb dL_law_32 (by decide) (by decide) rfl (by decide) ?_
      rcases dr_or lv with h0 | h0 | ⟨n, h0⟩
      · have e9 : 0 = lv := h0.symm
        subst e9
        refine lv_aload_n hx hb dL_law_215 rfl (lv_at hl 1 rfl) ?_
        refine lc_i (As := []) (rest := []) [0, 1, 2, 3, 4, 5, 6, 7] [8, 9, 10, 11, 12, 13, 14, 15, 16, 17, 18] ⟨hx, hb, hml, hown, hts⟩ (c_drop_n l D (va_A (wk q cB cI tl 0 lb ln tp ll id ms sc st) H.size) q cB cI tl 0 lb ln tp ll id ms sc st ) (cwV 0 hts gL1_drop rfl rfl rfl (by decide +kernel) ⟨Nat.le_of_ble_eq_true rfl, Nat.le_of_ble_eq_true rfl⟩) (va_recv hKc hP (ci := 1) (q0 := 0) rfl rfl) hKc hP hD hS hZ hA rfl rfl rfl (by decide) (by decide) (by decide) rfl hl.1 rfl (Nat.le_of_ble_eq_true rfl) ⟨Nat.le_of_ble_eq_true rfl, Nat.le_of_ble_eq_true rfl⟩ dL_law_216 (fun rc uc H locs hwc hP hD hS => ?_)
        have hP : va_P D vwCl ((wm r cI cJ hz tl 0 mn vs cb hs su s2 ro be tm bs sz lw mi) ++ (wk q cB cI tl 0 lb ln tp ll id ms sc st)) H := hP
        have hD : va_D (fun q : Nat => s.heap.size ≤ q) ((wm r cI cJ hz tl 0 mn vs cb hs su s2 ro be tm bs sz lw mi) ++ (wk q cB cI tl 0 lb ln tp ll id ms sc st)) := hD
        have hwc : rc = ((-1 : Int32)) := hwc
        subst hwc
        refine lv_aload_n hx hb dL_law_219 rfl (lv_at hl 2 rfl) ?_
        refine lc_i (As := []) (rest := [.int ((-1 : Int32))]) [0, 1, 2, 3, 4, 5, 6, 7, 8, 9, 10] [11, 12, 13, 14, 15, 16, 17, 18] ⟨hx, hb, hml, hown, hts⟩ (m_drop_n l D (va_A (wm r cI cJ hz tl 0 mn vs cb hs su s2 ro be tm bs sz lw mi) H.size) r cI cJ hz tl 0 mn vs cb hs su s2 ro be tm bs sz lw mi ) (cwV 0 hts gL2_drop rfl rfl rfl (by decide +kernel) ⟨Nat.le_of_ble_eq_true rfl, Nat.le_of_ble_eq_true rfl⟩) (va_recv hKm hP (ci := 2) (q0 := 0) rfl rfl) hKm hP hD hS hZ0 hA rfl rfl rfl (by decide) (by decide) (by decide) rfl hl.1 rfl (Nat.le_of_ble_eq_true rfl) ⟨Nat.le_of_ble_eq_true rfl, Nat.le_of_ble_eq_true rfl⟩ dL_law_220 (fun rm um H locs hwm hP hD hS => ?_)
        have hP : va_P D vwCl ((wk q cB cI tl 0 lb ln tp ll id ms sc st) ++ (wm r cI cJ hz tl 0 mn vs cb hs su s2 ro be tm bs sz lw mi)) H := hP
        have hD : va_D (fun q : Nat => s.heap.size ≤ q) ((wk q cB cI tl 0 lb ln tp ll id ms sc st) ++ (wm r cI cJ hz tl 0 mn vs cb hs su s2 ro be tm bs sz lw mi)) := hD
        have hwm : rm = ((-1 : Int32)) := hwm
        subst hwm
        refine lv_icmp_eq (tgt := 398) hx hb dL_law_223 (by decide) (fun c_223 => ?_) (fun c_223 => absurd (rfl) c_223)
        refine lv_iinc (v := (nI (4 * (k + 1)))) (lv' := [(3, .int (nI (4 * (k + 1)))), (0, .ref b), (1, .ref (q 0)), (2, .ref (r 0))]) hx hb dL_law_398 hl (k := 3) rfl (kn_inc _ _ 4 (by omega)) (by decide) rfl (fun ls hl => ?_)
        refine lv_goto (tgt := 18) hx hb dL_law_401 (by decide) ?_
        exact ih hlt _ _ _ ⟨tl, 0, lb, ln, tp, ll, id, ms, sc, st, hz, mn, vs, cb, hs, su, s2, ro, be, tm, bs, sz, lw, mi, LB, hR, hP, hD, hS, (lv_sub hl [1, 2, 3, 0] rfl)⟩
      · have e9 : 1 = lv := h0.symm
        subst e9
        refine lv_aload_n hx hb dL_law_215 rfl (lv_at hl 1 rfl) ?_
        refine lc_i (As := []) (rest := []) [0, 1, 2, 3, 4, 5, 6, 7] [8, 9, 10, 11, 12, 13, 14, 15, 16, 17, 18] ⟨hx, hb, hml, hown, hts⟩ (c_drop_z l D (va_A (wk q cB cI tl 1 lb ln tp ll id ms sc st) H.size) q cB cI tl 1 lb ln tp ll id ms sc st (RR_ll hR (by decide))) (cwV 0 hts gL1_drop rfl rfl rfl (by decide +kernel) ⟨Nat.le_of_ble_eq_true rfl, Nat.le_of_ble_eq_true rfl⟩) (va_recv hKc hP (ci := 1) (q0 := 0) rfl rfl) hKc hP hD hS hZ hA rfl rfl rfl (by decide) (by decide) (by decide) rfl hl.1 rfl (Nat.le_of_ble_eq_true rfl) ⟨Nat.le_of_ble_eq_true rfl, Nat.le_of_ble_eq_true rfl⟩ dL_law_216 (fun rc uc H locs hwc hP hD hS => ?_)
        have hP : va_P D vwCl ((wm r cI cJ hz tl 1 mn vs cb hs su s2 ro be tm bs sz lw mi) ++ (wk q cB cI tl 0 (lb - ll 0) ln tp ll id ms sc st)) H := hP
        have hD : va_D (fun q : Nat => s.heap.size ≤ q) ((wm r cI cJ hz tl 1 mn vs cb hs su s2 ro be tm bs sz lw mi) ++ (wk q cB cI tl 0 (lb - ll 0) ln tp ll id ms sc st)) := hD
        have hwc : rc = (nI (0)) := hwc
        subst hwc
        refine lv_aload_n hx hb dL_law_219 rfl (lv_at hl 2 rfl) ?_
        refine lc_i (As := []) (rest := [.int (nI 0)]) [0, 1, 2, 3, 4, 5, 6, 7, 8, 9, 10] [11, 12, 13, 14, 15, 16, 17, 18] ⟨hx, hb, hml, hown, hts⟩ (m_drop_y l D (va_A (wm r cI cJ hz tl 1 mn vs cb hs su s2 ro be tm bs sz lw mi) H.size) r cI cJ hz tl 1 mn vs cb hs su s2 ro be tm bs sz lw mi 0 (by decide)) (cwV 0 hts gL2_drop rfl rfl rfl (by decide +kernel) ⟨Nat.le_of_ble_eq_true rfl, Nat.le_of_ble_eq_true rfl⟩) (va_recv hKm hP (ci := 2) (q0 := 0) rfl rfl) hKm hP hD hS hZ0 hA rfl rfl rfl (by decide) (by decide) (by decide) rfl hl.1 rfl (Nat.le_of_ble_eq_true rfl) ⟨Nat.le_of_ble_eq_true rfl, Nat.le_of_ble_eq_true rfl⟩ dL_law_220 (fun rm um H locs hwm hP hD hS => ?_)
        have hP : va_P D vwCl ((wk q cB cI tl 0 (lb - ll 0) ln tp ll id ms sc st) ++ (wm r cI cJ hz tl 0 mn vs cb hs su s2 ro be tm bs sz lw mi)) H := hP
        have hD : va_D (fun q : Nat => s.heap.size ≤ q) ((wk q cB cI tl 0 (lb - ll 0) ln tp ll id ms sc st) ++ (wm r cI cJ hz tl 0 mn vs cb hs su s2 ro be tm bs sz lw mi)) := hD
        have hwm : rm = (nI (0)) := hwm
        subst hwm
        refine lv_icmp_eq (tgt := 398) hx hb dL_law_223 (by decide) (fun c_223 => ?_) (fun c_223 => absurd (rfl) c_223)
        refine lv_iinc (v := (nI (4 * (k + 1)))) (lv' := [(3, .int (nI (4 * (k + 1)))), (0, .ref b), (1, .ref (q 0)), (2, .ref (r 0))]) hx hb dL_law_398 hl (k := 3) rfl (kn_inc _ _ 4 (by omega)) (by decide) rfl (fun ls hl => ?_)
        refine lv_goto (tgt := 18) hx hb dL_law_401 (by decide) ?_
        exact ih hlt _ _ _ ⟨tl, 0, lb - ll 0, ln, tp, ll, id, ms, sc, st, hz, mn, vs, cb, hs, su, s2, ro, be, tm, bs, sz, lw, mi, LB, RR_drop1 hR, hP, hD, hS, (lv_sub hl [1, 2, 3, 0] rfl)⟩
      · have e9 : n + 2 = lv := h0.symm
        subst e9
        refine lv_aload_n hx hb dL_law_215 rfl (lv_at hl 1 rfl) ?_
        refine lc_i (As := []) (rest := []) [0, 1, 2, 3, 4, 5, 6, 7] [8, 9, 10, 11, 12, 13, 14, 15, 16, 17, 18] ⟨hx, hb, hml, hown, hts⟩ (c_drop_y l D (va_A (wk q cB cI tl ((n + 2)) lb ln tp ll id ms sc st) H.size) q cB cI tl ((n + 2)) lb ln tp ll id ms sc st n hR.2.1 (RR_ll hR (by omega))) (cwV 0 hts gL1_drop rfl rfl rfl (by decide +kernel) ⟨Nat.le_of_ble_eq_true rfl, Nat.le_of_ble_eq_true rfl⟩) (va_recv hKc hP (ci := 1) (q0 := 0) rfl rfl) hKc hP hD hS hZ hA rfl rfl rfl (by decide) (by decide) (by decide) rfl hl.1 rfl (Nat.le_of_ble_eq_true rfl) ⟨Nat.le_of_ble_eq_true rfl, Nat.le_of_ble_eq_true rfl⟩ dL_law_216 (fun rc uc H locs hwc hP hD hS => ?_)
        have hP : va_P D vwCl ((wm r cI cJ hz tl ((n + 2)) mn vs cb hs su s2 ro be tm bs sz lw mi) ++ (wk q cB cI tl (n + 1) (lb - ll (n + 1)) uc.1 tp ll (rfa (n + 1) n id (rl (n + 1))) uc.2.1 uc.2.2.1 uc.2.2.2)) H := hP
        have hD : va_D (fun q : Nat => s.heap.size ≤ q) ((wm r cI cJ hz tl ((n + 2)) mn vs cb hs su s2 ro be tm bs sz lw mi) ++ (wk q cB cI tl (n + 1) (lb - ll (n + 1)) uc.1 tp ll (rfa (n + 1) n id (rl (n + 1))) uc.2.1 uc.2.2.1 uc.2.2.2)) := hD
        have hwc : rc = (nI (n + 1)) := hwc
        subst hwc
        refine lv_aload_n hx hb dL_law_219 rfl (lv_at hl 2 rfl) ?_
        refine lc_i (As := []) (rest := [.int (nI (n + 1))]) [0, 1, 2, 3, 4, 5, 6, 7, 8, 9, 10] [11, 12, 13, 14, 15, 16, 17, 18] ⟨hx, hb, hml, hown, hts⟩ (m_drop_y l D (va_A (wm r cI cJ hz tl ((n + 2)) mn vs cb hs su s2 ro be tm bs sz lw mi) H.size) r cI cJ hz tl ((n + 2)) mn vs cb hs su s2 ro be tm bs sz lw mi (n + 1) (by have := hR.2.1; omega)) (cwV 0 hts gL2_drop rfl rfl rfl (by decide +kernel) ⟨Nat.le_of_ble_eq_true rfl, Nat.le_of_ble_eq_true rfl⟩) (va_recv hKm hP (ci := 2) (q0 := 0) rfl rfl) hKm hP hD hS hZ0 hA rfl rfl rfl (by decide) (by decide) (by decide) rfl hl.1 rfl (Nat.le_of_ble_eq_true rfl) ⟨Nat.le_of_ble_eq_true rfl, Nat.le_of_ble_eq_true rfl⟩ dL_law_220 (fun rm um H locs hwm hP hD hS => ?_)
        have hP : va_P D vwCl ((wk q cB cI tl (n + 1) (lb - ll (n + 1)) uc.1 tp ll (rfa (n + 1) n id (rl (n + 1))) uc.2.1 uc.2.2.1 uc.2.2.2) ++ (wm r cI cJ hz tl (n + 1) mn vs cb hs su s2 ro be tm bs sz lw mi)) H := hP
        have hD : va_D (fun q : Nat => s.heap.size ≤ q) ((wk q cB cI tl (n + 1) (lb - ll (n + 1)) uc.1 tp ll (rfa (n + 1) n id (rl (n + 1))) uc.2.1 uc.2.2.1 uc.2.2.2) ++ (wm r cI cJ hz tl (n + 1) mn vs cb hs su s2 ro be tm bs sz lw mi)) := hD
        have hwm : rm = (nI (n + 1)) := hwm
        subst hwm
        refine lv_icmp_eq (tgt := 398) hx hb dL_law_223 (by decide) (fun c_223 => ?_) (fun c_223 => absurd (rfl) c_223)
        refine lv_iinc (v := (nI (4 * (k + 1)))) (lv' := [(3, .int (nI (4 * (k + 1)))), (0, .ref b), (1, .ref (q 0)), (2, .ref (r 0))]) hx hb dL_law_398 hl (k := 3) rfl (kn_inc _ _ 4 (by omega)) (by decide) rfl (fun ls hl => ?_)
        refine lv_goto (tgt := 18) hx hb dL_law_401 (by decide) ?_
        exact ih hlt _ _ _ ⟨tl, n + 1, lb - ll (n + 1), uc.1, tp, ll, rfa (n + 1) n id (rl (n + 1)), uc.2.1, uc.2.2.1, uc.2.2.2, hz, mn, vs, cb, hs, su, s2, ro, be, tm, bs, sz, lw, mi, LB, RR_drop hR, hP, hD, hS, (lv_sub hl [1, 2, 3, 0] rfl)⟩
    · refine lv_tableIn (tgt := 228) hx hb dL_law_32 (by decide) (by decide) rfl (by decide) ?_
      rcases rt_or lv (xs (4 * k + 1)) with h0 | ⟨h0, ⟨j, hj, ej⟩ | hbad⟩
      · have e9 : 0 = lv := h0.symm
        subst e9
        refine lv_aload_n hx hb dL_law_228 rfl (lv_at hl 1 rfl) ?_
        refine lv_aload_n hx hb dL_law_229 rfl (lv_at hl 0 rfl) ?_
        refine lv_iload_n hx hb dL_law_230 rfl (lv_at hl 3 rfl) ?_
        refine lv_iconst (v := (nI (1))) hx hb dL_law_231 (by decide) ?_
        refine lv_iadd hx hb dL_law_232 ?_
        refine kp_i (nI_add _ _) ?_
        refine kb_sld hx hb hX hbl hbA hS ((4 * k) + 1) rfl (by omega) (by omega) dL_law_233 ?_
        refine lc_l (As := [.int (xs ((4 * k) + 1))]) (rest := []) [0, 1, 2, 3, 4, 5, 6, 7] [8, 9, 10, 11, 12, 13, 14, 15, 16, 17, 18] ⟨hx, hb, hml, hown, hts⟩ (c_root_n l D (va_A (wk q cB cI tl 0 lb ln tp ll id ms sc st) H.size) q cB cI tl 0 lb ln tp ll id ms sc st ((xs ((4 * k) + 1)))) (cwV 1 hts gL1_root rfl rfl rfl (by decide +kernel) ⟨Nat.le_of_ble_eq_true rfl, Nat.le_of_ble_eq_true rfl⟩) (va_recv hKc hP (ci := 1) (q0 := 0) rfl rfl) hKc hP hD hS hZ hA rfl rfl rfl (by decide) (by decide) (by decide) rfl hl.1 rfl (Nat.le_of_ble_eq_true rfl) ⟨Nat.le_of_ble_eq_true rfl, Nat.le_of_ble_eq_true rfl⟩ dL_law_234 (fun rc uc H locs hwc hP hD hS => ?_)
        have hP : va_P D vwCl ((wm r cI cJ hz tl 0 mn vs cb hs su s2 ro be tm bs sz lw mi) ++ (wk q cB cI tl 0 lb ln tp ll id ms sc st)) H := hP
        have hD : va_D (fun q : Nat => s.heap.size ≤ q) ((wm r cI cJ hz tl 0 mn vs cb hs su s2 ro be tm bs sz lw mi) ++ (wk q cB cI tl 0 lb ln tp ll id ms sc st)) := hD
        have hwc : rc = ((0 : Int64)) := hwc
        subst hwc
        refine lv_aload_n hx hb dL_law_237 rfl (lv_at hl 2 rfl) ?_
        refine lv_aload_n hx hb dL_law_238 rfl (lv_at hl 0 rfl) ?_
        refine lv_iload_n hx hb dL_law_239 rfl (lv_at hl 3 rfl) ?_
        refine lv_iconst (v := (nI (1))) hx hb dL_law_240 (by decide) ?_
        refine lv_iadd hx hb dL_law_241 ?_
        refine kp_i (nI_add _ _) ?_
        refine kb_sld hx hb hX hbl hbA hS ((4 * k) + 1) rfl (by omega) (by omega) dL_law_242 ?_
        refine lc_l (As := [.int (xs ((4 * k) + 1))]) (rest := [.long ((0 : Int64))]) [0, 1, 2, 3, 4, 5, 6, 7, 8, 9, 10] [11, 12, 13, 14, 15, 16, 17, 18] ⟨hx, hb, hml, hown, hts⟩ (m_root2_n l D (va_A (wm r cI cJ hz tl 0 mn vs cb hs su s2 ro be tm bs sz lw mi) H.size) r cI cJ hz tl 0 mn vs cb hs su s2 ro be tm bs sz lw mi ((xs ((4 * k) + 1))) (Or.inl rfl) (by decide)) (cwV 1 hts gL2_root2 rfl rfl rfl (by decide +kernel) ⟨Nat.le_of_ble_eq_true rfl, Nat.le_of_ble_eq_true rfl⟩) (va_recv hKm hP (ci := 2) (q0 := 0) rfl rfl) hKm hP hD hS hZ0 hA rfl rfl rfl (by decide) (by decide) (by decide) rfl hl.1 rfl (Nat.le_of_ble_eq_true rfl) ⟨Nat.le_of_ble_eq_true rfl, Nat.le_of_ble_eq_true rfl⟩ dL_law_243 (fun rm um H locs hwm hP hD hS => ?_)
        have hP : va_P D vwCl ((wk q cB cI tl 0 lb ln tp ll id ms sc st) ++ (wm r cI cJ hz tl 0 mn vs cb hs su s2 ro be tm bs sz lw mi)) H := hP
        have hD : va_D (fun q : Nat => s.heap.size ≤ q) ((wk q cB cI tl 0 lb ln tp ll id ms sc st) ++ (wm r cI cJ hz tl 0 mn vs cb hs su s2 ro be tm bs sz lw mi)) := hD
        have hwm : rm = ((0 : Int64)) := hwm
        subst hwm
        refine W.lcmp hx hb dL_law_246 ?_
        refine lv_if_eq (tgt := 398) hx hb dL_law_247 (by decide) (fun c_247 => ?_) (fun c_247 => absurd (rfl) (lc_n c_247))
        refine lv_iinc (v := (nI (4 * (k + 1)))) (lv' := [(3, .int (nI (4 * (k + 1)))), (0, .ref b), (1, .ref (q 0)), (2, .ref (r 0))]) hx hb dL_law_398 hl (k := 3) rfl (kn_inc _ _ 4 (by omega)) (by decide) rfl (fun ls hl => ?_)
        refine lv_goto (tgt := 18) hx hb dL_law_401 (by decide) ?_
        exact ih hlt _ _ _ ⟨tl, 0, lb, ln, tp, ll, id, ms, sc, st, hz, mn, vs, cb, hs, su, s2, ro, be, tm, bs, sz, lw, mi, LB, hR, hP, hD, hS, (lv_sub hl [1, 2, 3, 0] rfl)⟩
      · refine lv_aload_n hx hb dL_law_228 rfl (lv_at hl 1 rfl) ?_
        refine lv_aload_n hx hb dL_law_229 rfl (lv_at hl 0 rfl) ?_
        refine lv_iload_n hx hb dL_law_230 rfl (lv_at hl 3 rfl) ?_
        refine lv_iconst (v := (nI (1))) hx hb dL_law_231 (by decide) ?_
        refine lv_iadd hx hb dL_law_232 ?_
        refine kp_i (nI_add _ _) ?_
        refine kb_sld hx hb hX hbl hbA hS ((4 * k) + 1) rfl (by omega) (by omega) dL_law_233 ?_
        refine kp_i ej ?_
        refine lc_l (As := [.int (nI j)]) (rest := []) [0, 1, 2, 3, 4, 5, 6, 7] [8, 9, 10, 11, 12, 13, 14, 15, 16, 17, 18] ⟨hx, hb, hml, hown, hts⟩ (c_root_y l D (va_A (wk q cB cI tl lv lb ln tp ll id ms sc st) H.size) q cB cI tl lv lb ln tp ll id ms sc st ((nI (j))) h0 hR.2.1) (cwV 1 hts gL1_root rfl rfl rfl (by decide +kernel) ⟨Nat.le_of_ble_eq_true rfl, Nat.le_of_ble_eq_true rfl⟩) (va_recv hKc hP (ci := 1) (q0 := 0) rfl rfl) hKc hP hD hS hZ hA rfl rfl rfl (by decide) (by decide) (by decide) rfl hl.1 rfl (Nat.le_of_ble_eq_true rfl) ⟨Nat.le_of_ble_eq_true rfl, Nat.le_of_ble_eq_true rfl⟩ dL_law_234 (fun rc uc H locs hwc hP hD hS => ?_)
        have hP : va_P D vwCl ((wm r cI cJ hz tl lv mn vs cb hs su s2 ro be tm bs sz lw mi) ++ (wk q cB cI tl lv lb ln tp ll id ms sc st)) H := hP
        have hD : va_D (fun q : Nat => s.heap.size ≤ q) ((wm r cI cJ hz tl lv mn vs cb hs su s2 ro be tm bs sz lw mi) ++ (wk q cB cI tl lv lb ln tp ll id ms sc st)) := hD
        have hwc : rc = (e8 (nd id (lsv (rl lv))) (nI (j))) := hwc
        subst hwc
        refine lv_aload_n hx hb dL_law_237 rfl (lv_at hl 2 rfl) ?_
        refine lv_aload_n hx hb dL_law_238 rfl (lv_at hl 0 rfl) ?_
        refine lv_iload_n hx hb dL_law_239 rfl (lv_at hl 3 rfl) ?_
        refine lv_iconst (v := (nI (1))) hx hb dL_law_240 (by decide) ?_
        refine lv_iadd hx hb dL_law_241 ?_
        refine kp_i (nI_add _ _) ?_
        refine kb_sld hx hb hX hbl hbA hS ((4 * k) + 1) rfl (by omega) (by omega) dL_law_242 ?_
        refine kp_i ej ?_
        refine lc_l (As := [.int (nI j)]) (rest := [.long (e8 (nd id (lsv (rl lv))) (nI (j)))]) [0, 1, 2, 3, 4, 5, 6, 7, 8, 9, 10] [11, 12, 13, 14, 15, 16, 17, 18] ⟨hx, hb, hml, hown, hts⟩ (m_root2 l D (va_A (wm r cI cJ hz tl lv mn vs cb hs su s2 ro be tm bs sz lw mi) H.size) r cI cJ hz tl lv mn vs cb hs su s2 ro be tm bs sz lw mi j LB hR.2.1 hR.2.2.1 hR.2.2.2.2.2.2.1 hR.2.2.2.2.2.2.2.2.1 hR.2.2.2.2.2.2.2.2.2 hj h0) (cwV 1 hts gL2_root2 rfl rfl rfl (by decide +kernel) ⟨Nat.le_of_ble_eq_true rfl, Nat.le_of_ble_eq_true rfl⟩) (va_recv hKm hP (ci := 2) (q0 := 0) rfl rfl) hKm hP hD hS hZ0 hA rfl rfl rfl (by decide) (by decide) (by decide) rfl hl.1 rfl (Nat.le_of_ble_eq_true rfl) ⟨Nat.le_of_ble_eq_true rfl, Nat.le_of_ble_eq_true rfl⟩ dL_law_243 (fun rm um H locs hwm hP hD hS => ?_)
        have hP : va_P D vwCl ((wk q cB cI tl lv lb ln tp ll id ms sc st) ++ (wm r cI cJ um.1 tl lv um.2.1 um.2.2.1 cb um.2.2.2.1 um.2.2.2.2.1 um.2.2.2.2.2.1 ro be tm bs sz um.2.2.2.2.2.2 mi)) H := hP
        have hD : va_D (fun q : Nat => s.heap.size ≤ q) ((wk q cB cI tl lv lb ln tp ll id ms sc st) ++ (wm r cI cJ um.1 tl lv um.2.1 um.2.2.1 cb um.2.2.2.1 um.2.2.2.2.1 um.2.2.2.2.2.1 ro be tm bs sz um.2.2.2.2.2.2 mi)) := hD
        have hwm : rm = (e8 (nv lv (lid LB sz) (rl lv) 0) (nI j)) := hwm
        subst hwm
        refine W.lcmp hx hb dL_law_246 ?_
        refine lv_if_eq (tgt := 398) hx hb dL_law_247 (by decide) (fun c_247 => ?_) (fun c_247 => absurd (root_eq hR h0 _) (lc_n c_247))
        refine lv_iinc (v := (nI (4 * (k + 1)))) (lv' := [(3, .int (nI (4 * (k + 1)))), (0, .ref b), (1, .ref (q 0)), (2, .ref (r 0))]) hx hb dL_law_398 hl (k := 3) rfl (kn_inc _ _ 4 (by omega)) (by decide) rfl (fun ls hl => ?_)
        refine lv_goto (tgt := 18) hx hb dL_law_401 (by decide) ?_
        exact ih hlt _ _ _ ⟨tl, lv, lb, ln, tp, ll, id, ms, sc, st, um.1, um.2.1, um.2.2.1, cb, um.2.2.2.1, um.2.2.2.2.1, um.2.2.2.2.2.1, ro, be, tm, bs, sz, um.2.2.2.2.2.2, mi, LB, hR, hP, hD, hS, (lv_sub hl [1, 2, 3, 0] rfl)⟩
      · refine lv_aload_n hx hb dL_law_228 rfl (lv_at hl 1 rfl) ?_
        refine lv_aload_n hx hb dL_law_229 rfl (lv_at hl 0 rfl) ?_
        refine lv_iload_n hx hb dL_law_230 rfl (lv_at hl 3 rfl) ?_
        refine lv_iconst (v := (nI (1))) hx hb dL_law_231 (by decide) ?_
        refine lv_iadd hx hb dL_law_232 ?_
        refine kp_i (nI_add _ _) ?_
        refine kb_sld hx hb hX hbl hbA hS ((4 * k) + 1) rfl (by omega) (by omega) dL_law_233 ?_
        refine lc_l (As := [.int (xs ((4 * k) + 1))]) (rest := []) [0, 1, 2, 3, 4, 5, 6, 7] [8, 9, 10, 11, 12, 13, 14, 15, 16, 17, 18] ⟨hx, hb, hml, hown, hts⟩ (c_root_y l D (va_A (wk q cB cI tl lv lb ln tp ll id ms sc st) H.size) q cB cI tl lv lb ln tp ll id ms sc st ((xs ((4 * k) + 1))) h0 hR.2.1) (cwV 1 hts gL1_root rfl rfl rfl (by decide +kernel) ⟨Nat.le_of_ble_eq_true rfl, Nat.le_of_ble_eq_true rfl⟩) (va_recv hKc hP (ci := 1) (q0 := 0) rfl rfl) hKc hP hD hS hZ hA rfl rfl rfl (by decide) (by decide) (by decide) rfl hl.1 rfl (Nat.le_of_ble_eq_true rfl) ⟨Nat.le_of_ble_eq_true rfl, Nat.le_of_ble_eq_true rfl⟩ dL_law_234 (fun rc uc H locs hwc hP hD hS => ?_)
        have hP : va_P D vwCl ((wm r cI cJ hz tl lv mn vs cb hs su s2 ro be tm bs sz lw mi) ++ (wk q cB cI tl lv lb ln tp ll id ms sc st)) H := hP
        have hD : va_D (fun q : Nat => s.heap.size ≤ q) ((wm r cI cJ hz tl lv mn vs cb hs su s2 ro be tm bs sz lw mi) ++ (wk q cB cI tl lv lb ln tp ll id ms sc st)) := hD
        have hwc : rc = (e8 (nd id (lsv (rl lv))) (xs ((4 * k) + 1))) := hwc
        subst hwc
        refine lv_aload_n hx hb dL_law_237 rfl (lv_at hl 2 rfl) ?_
        refine lv_aload_n hx hb dL_law_238 rfl (lv_at hl 0 rfl) ?_
        refine lv_iload_n hx hb dL_law_239 rfl (lv_at hl 3 rfl) ?_
        refine lv_iconst (v := (nI (1))) hx hb dL_law_240 (by decide) ?_
        refine lv_iadd hx hb dL_law_241 ?_
        refine kp_i (nI_add _ _) ?_
        refine kb_sld hx hb hX hbl hbA hS ((4 * k) + 1) rfl (by omega) (by omega) dL_law_242 ?_
        refine lc_l (As := [.int (xs ((4 * k) + 1))]) (rest := [.long (e8 (nd id (lsv (rl lv))) (xs ((4 * k) + 1)))]) [0, 1, 2, 3, 4, 5, 6, 7, 8, 9, 10] [11, 12, 13, 14, 15, 16, 17, 18] ⟨hx, hb, hml, hown, hts⟩ (m_root2_n l D (va_A (wm r cI cJ hz tl lv mn vs cb hs su s2 ro be tm bs sz lw mi) H.size) r cI cJ hz tl lv mn vs cb hs su s2 ro be tm bs sz lw mi ((xs ((4 * k) + 1))) (Or.inr (hbad.imp (fun g => g) gt3)) hR.2.1) (cwV 1 hts gL2_root2 rfl rfl rfl (by decide +kernel) ⟨Nat.le_of_ble_eq_true rfl, Nat.le_of_ble_eq_true rfl⟩) (va_recv hKm hP (ci := 2) (q0 := 0) rfl rfl) hKm hP hD hS hZ0 hA rfl rfl rfl (by decide) (by decide) (by decide) rfl hl.1 rfl (Nat.le_of_ble_eq_true rfl) ⟨Nat.le_of_ble_eq_true rfl, Nat.le_of_ble_eq_true rfl⟩ dL_law_243 (fun rm um H locs hwm hP hD hS => ?_)
        have hP : va_P D vwCl ((wk q cB cI tl lv lb ln tp ll id ms sc st) ++ (wm r cI cJ hz tl lv mn vs cb hs su s2 ro be tm bs sz lw mi)) H := hP
        have hD : va_D (fun q : Nat => s.heap.size ≤ q) ((wk q cB cI tl lv lb ln tp ll id ms sc st) ++ (wm r cI cJ hz tl lv mn vs cb hs su s2 ro be tm bs sz lw mi)) := hD
        have hwm : rm = ((0 : Int64)) := hwm
        subst hwm
        refine W.lcmp hx hb dL_law_246 ?_
        refine lv_if_eq (tgt := 398) hx hb dL_law_247 (by decide) (fun c_247 => ?_) (fun c_247 => absurd (e8_bad hbad) (lc_n c_247))
        refine lv_iinc (v := (nI (4 * (k + 1)))) (lv' := [(3, .int (nI (4 * (k + 1)))), (0, .ref b), (1, .ref (q 0)), (2, .ref (r 0))]) hx hb dL_law_398 hl (k := 3) rfl (kn_inc _ _ 4 (by omega)) (by decide) rfl (fun ls hl => ?_)
        refine lv_goto (tgt := 18) hx hb dL_law_401 (by decide) ?_
        exact ih hlt _ _ _ ⟨tl, lv, lb, ln, tp, ll, id, ms, sc, st, hz, mn, vs, cb, hs, su, s2, ro, be, tm, bs, sz, lw, mi, LB, hR, hP, hD, hS, (lv_sub hl [1, 2, 3, 0] rfl)⟩
    · refine lv_tableIn (tgt := 252) hx hb dL_law_32 (by decide) (by decide) rfl (by decide) ?_
      rcases leaf_or (xs (4 * k + 1)) hR.2.1 with ⟨i, hi, ei⟩ | hf
      · refine lv_aload_n hx hb dL_law_252 rfl (lv_at hl 1 rfl) ?_
        refine lv_aload_n hx hb dL_law_253 rfl (lv_at hl 0 rfl) ?_
        refine lv_iload_n hx hb dL_law_254 rfl (lv_at hl 3 rfl) ?_
        refine lv_iconst (v := (nI (1))) hx hb dL_law_255 (by decide) ?_
        refine lv_iadd hx hb dL_law_256 ?_
        refine kp_i (nI_add _ _) ?_
        refine kb_sld hx hb hX hbl hbA hS ((4 * k) + 1) rfl (by omega) (by omega) dL_law_257 ?_
        refine kp_i ei ?_
        refine lc_i (As := [.int (nI i)]) (rest := []) [0, 1, 2, 3, 4, 5, 6, 7] [8, 9, 10, 11, 12, 13, 14, 15, 16, 17, 18] ⟨hx, hb, hml, hown, hts⟩ (c_way_y l D (va_A (wk q cB cI tl lv lb ln tp ll id ms sc st) H.size) q cB cI tl lv lb ln tp ll id ms sc st i hi hR.2.1) (cwV 1 hts gL1_way rfl rfl rfl (by decide +kernel) ⟨Nat.le_of_ble_eq_true rfl, Nat.le_of_ble_eq_true rfl⟩) (va_recv hKc hP (ci := 1) (q0 := 0) rfl rfl) hKc hP hD hS hZ hA rfl rfl rfl (by decide) (by decide) (by decide) rfl hl.1 rfl (Nat.le_of_ble_eq_true rfl) ⟨Nat.le_of_ble_eq_true rfl, Nat.le_of_ble_eq_true rfl⟩ dL_law_258 (fun rc uc H locs hwc hP hD hS => ?_)
        have hP : va_P D vwCl ((wm r cI cJ hz tl lv mn vs cb hs su s2 ro be tm bs sz lw mi) ++ (wk q cB cI tl lv lb ln tp ll id ms sc st)) H := hP
        have hD : va_D (fun q : Nat => s.heap.size ≤ q) ((wm r cI cJ hz tl lv mn vs cb hs su s2 ro be tm bs sz lw mi) ++ (wk q cB cI tl lv lb ln tp ll id ms sc st)) := hD
        have hwc : rc = (nI (stc lv i 8)) := hwc
        subst hwc
        refine lv_aload_n hx hb dL_law_261 rfl (lv_at hl 2 rfl) ?_
        refine lv_aload_n hx hb dL_law_262 rfl (lv_at hl 0 rfl) ?_
        refine lv_iload_n hx hb dL_law_263 rfl (lv_at hl 3 rfl) ?_
        refine lv_iconst (v := (nI (1))) hx hb dL_law_264 (by decide) ?_
        refine lv_iadd hx hb dL_law_265 ?_
        refine kp_i (nI_add _ _) ?_
        refine kb_sld hx hb hX hbl hbA hS ((4 * k) + 1) rfl (by omega) (by omega) dL_law_266 ?_
        refine kp_i ei ?_
        refine lc_i (As := [.int (nI i)]) (rest := [.int (nI (stc lv i 8))]) [0, 1, 2, 3, 4, 5, 6, 7, 8, 9, 10] [11, 12, 13, 14, 15, 16, 17, 18] ⟨hx, hb, hml, hown, hts⟩ (m_way l D (va_A (wm r cI cJ hz tl lv mn vs cb hs su s2 ro be tm bs sz lw mi) H.size) r cI cJ hz tl lv mn vs cb hs su s2 ro be tm bs sz lw mi i LB hR.2.1 hR.2.2.1 hR.2.2.2.2.2.2.1 hR.2.2.2.2.2.2.2.2.1 hR.2.2.2.2.2.2.2.2.2 hi) (cwV 1 hts gL2_way rfl rfl rfl (by decide +kernel) ⟨Nat.le_of_ble_eq_true rfl, Nat.le_of_ble_eq_true rfl⟩) (va_recv hKm hP (ci := 2) (q0 := 0) rfl rfl) hKm hP hD hS hZ0 hA rfl rfl rfl (by decide) (by decide) (by decide) rfl hl.1 rfl (Nat.le_of_ble_eq_true rfl) ⟨Nat.le_of_ble_eq_true rfl, Nat.le_of_ble_eq_true rfl⟩ dL_law_267 (fun rm um H locs hwm hP hD hS => ?_)
        have hP : va_P D vwCl ((wk q cB cI tl lv lb ln tp ll id ms sc st) ++ (wm r cI cJ um.1 tl lv um.2.1 um.2.2.1 um.2.2.2.1 um.2.2.2.2.1 um.2.2.2.2.2.1 um.2.2.2.2.2.2.1 ro be tm bs sz um.2.2.2.2.2.2.2 mi)) H := hP
        have hD : va_D (fun q : Nat => s.heap.size ≤ q) ((wk q cB cI tl lv lb ln tp ll id ms sc st) ++ (wm r cI cJ um.1 tl lv um.2.1 um.2.2.1 um.2.2.2.1 um.2.2.2.2.1 um.2.2.2.2.2.1 um.2.2.2.2.2.2.1 ro be tm bs sz um.2.2.2.2.2.2.2 mi)) := hD
        have hwm : rm = (nI (stc lv i (rl lv))) := hwm
        subst hwm
        refine lv_icmp_eq (tgt := 398) hx hb dL_law_270 (by decide) (fun c_270 => ?_) (fun c_270 => absurd (congrArg nI (way_eq hR.2.1 hi)) c_270)
        refine lv_iinc (v := (nI (4 * (k + 1)))) (lv' := [(3, .int (nI (4 * (k + 1)))), (0, .ref b), (1, .ref (q 0)), (2, .ref (r 0))]) hx hb dL_law_398 hl (k := 3) rfl (kn_inc _ _ 4 (by omega)) (by decide) rfl (fun ls hl => ?_)
        refine lv_goto (tgt := 18) hx hb dL_law_401 (by decide) ?_
        exact ih hlt _ _ _ ⟨tl, lv, lb, ln, tp, ll, id, ms, sc, st, um.1, um.2.1, um.2.2.1, um.2.2.2.1, um.2.2.2.2.1, um.2.2.2.2.2.1, um.2.2.2.2.2.2.1, ro, be, tm, bs, sz, um.2.2.2.2.2.2.2, mi, LB, hR, hP, hD, hS, (lv_sub hl [1, 2, 3, 0] rfl)⟩
      · refine lv_aload_n hx hb dL_law_252 rfl (lv_at hl 1 rfl) ?_
        refine lv_aload_n hx hb dL_law_253 rfl (lv_at hl 0 rfl) ?_
        refine lv_iload_n hx hb dL_law_254 rfl (lv_at hl 3 rfl) ?_
        refine lv_iconst (v := (nI (1))) hx hb dL_law_255 (by decide) ?_
        refine lv_iadd hx hb dL_law_256 ?_
        refine kp_i (nI_add _ _) ?_
        refine kb_sld hx hb hX hbl hbA hS ((4 * k) + 1) rfl (by omega) (by omega) dL_law_257 ?_
        refine lc_i (As := [.int (xs ((4 * k) + 1))]) (rest := []) [0, 1, 2, 3, 4, 5, 6, 7] [8, 9, 10, 11, 12, 13, 14, 15, 16, 17, 18] ⟨hx, hb, hml, hown, hts⟩ (c_way_n l D (va_A (wk q cB cI tl lv lb ln tp ll id ms sc st) H.size) q cB cI tl lv lb ln tp ll id ms sc st ((xs ((4 * k) + 1))) hf) (cwV 1 hts gL1_way rfl rfl rfl (by decide +kernel) ⟨Nat.le_of_ble_eq_true rfl, Nat.le_of_ble_eq_true rfl⟩) (va_recv hKc hP (ci := 1) (q0 := 0) rfl rfl) hKc hP hD hS hZ hA rfl rfl rfl (by decide) (by decide) (by decide) rfl hl.1 rfl (Nat.le_of_ble_eq_true rfl) ⟨Nat.le_of_ble_eq_true rfl, Nat.le_of_ble_eq_true rfl⟩ dL_law_258 (fun rc uc H locs hwc hP hD hS => ?_)
        have hP : va_P D vwCl ((wm r cI cJ hz tl lv mn vs cb hs su s2 ro be tm bs sz lw mi) ++ (wk q cB cI tl lv lb ln tp ll id ms sc st)) H := hP
        have hD : va_D (fun q : Nat => s.heap.size ≤ q) ((wm r cI cJ hz tl lv mn vs cb hs su s2 ro be tm bs sz lw mi) ++ (wk q cB cI tl lv lb ln tp ll id ms sc st)) := hD
        have hwc : rc = ((-1 : Int32)) := hwc
        subst hwc
        refine lv_aload_n hx hb dL_law_261 rfl (lv_at hl 2 rfl) ?_
        refine lv_aload_n hx hb dL_law_262 rfl (lv_at hl 0 rfl) ?_
        refine lv_iload_n hx hb dL_law_263 rfl (lv_at hl 3 rfl) ?_
        refine lv_iconst (v := (nI (1))) hx hb dL_law_264 (by decide) ?_
        refine lv_iadd hx hb dL_law_265 ?_
        refine kp_i (nI_add _ _) ?_
        refine kb_sld hx hb hX hbl hbA hS ((4 * k) + 1) rfl (by omega) (by omega) dL_law_266 ?_
        refine lc_i (As := [.int (xs ((4 * k) + 1))]) (rest := [.int ((-1 : Int32))]) [0, 1, 2, 3, 4, 5, 6, 7, 8, 9, 10] [11, 12, 13, 14, 15, 16, 17, 18] ⟨hx, hb, hml, hown, hts⟩ (m_way_n l D (va_A (wm r cI cJ hz tl lv mn vs cb hs su s2 ro be tm bs sz lw mi) H.size) r cI cJ hz tl lv mn vs cb hs su s2 ro be tm bs sz lw mi ((xs ((4 * k) + 1))) hf) (cwV 1 hts gL2_way rfl rfl rfl (by decide +kernel) ⟨Nat.le_of_ble_eq_true rfl, Nat.le_of_ble_eq_true rfl⟩) (va_recv hKm hP (ci := 2) (q0 := 0) rfl rfl) hKm hP hD hS hZ0 hA rfl rfl rfl (by decide) (by decide) (by decide) rfl hl.1 rfl (Nat.le_of_ble_eq_true rfl) ⟨Nat.le_of_ble_eq_true rfl, Nat.le_of_ble_eq_true rfl⟩ dL_law_267 (fun rm um H locs hwm hP hD hS => ?_)
        have hP : va_P D vwCl ((wk q cB cI tl lv lb ln tp ll id ms sc st) ++ (wm r cI cJ hz tl lv mn vs cb hs su s2 ro be tm bs sz lw mi)) H := hP
        have hD : va_D (fun q : Nat => s.heap.size ≤ q) ((wk q cB cI tl lv lb ln tp ll id ms sc st) ++ (wm r cI cJ hz tl lv mn vs cb hs su s2 ro be tm bs sz lw mi)) := hD
        have hwm : rm = ((-1 : Int32)) := hwm
        subst hwm
        refine lv_icmp_eq (tgt := 398) hx hb dL_law_270 (by decide) (fun c_270 => ?_) (fun c_270 => absurd (rfl) c_270)
        refine lv_iinc (v := (nI (4 * (k + 1)))) (lv' := [(3, .int (nI (4 * (k + 1)))), (0, .ref b), (1, .ref (q 0)), (2, .ref (r 0))]) hx hb dL_law_398 hl (k := 3) rfl (kn_inc _ _ 4 (by omega)) (by decide) rfl (fun ls hl => ?_)
        refine lv_goto (tgt := 18) hx hb dL_law_401 (by decide) ?_
        exact ih hlt _ _ _ ⟨tl, lv, lb, ln, tp, ll, id, ms, sc, st, hz, mn, vs, cb, hs, su, s2, ro, be, tm, bs, sz, lw, mi, LB, hR, hP, hD, hS, (lv_sub hl [1, 2, 3, 0] rfl)⟩
    · refine lv_tableIn (tgt := 275) hx hb dL_law_32 (by decide) (by decide) rfl (by decide) ?_
      refine lv_aload_n hx hb dL_law_275 rfl (lv_at hl 1 rfl) ?_
      refine lv_aload_n hx hb dL_law_276 rfl (lv_at hl 0 rfl) ?_
      refine lv_iload_n hx hb dL_law_277 rfl (lv_at hl 3 rfl) ?_
      refine lv_iconst (v := (nI (1))) hx hb dL_law_278 (by decide) ?_
      refine lv_iadd hx hb dL_law_279 ?_
      refine kp_i (nI_add _ _) ?_
      refine kb_sld hx hb hX hbl hbA hS ((4 * k) + 1) rfl (by omega) (by omega) dL_law_280 ?_
      refine lv_aload_n hx hb dL_law_281 rfl (lv_at hl 0 rfl) ?_
      refine lv_iload_n hx hb dL_law_282 rfl (lv_at hl 3 rfl) ?_
      refine lv_iconst (v := (nI (2))) hx hb dL_law_283 (by decide) ?_
      refine lv_iadd hx hb dL_law_284 ?_
      refine kp_i (nI_add _ _) ?_
      refine kb_sld hx hb hX hbl hbA hS ((4 * k) + 2) rfl (by omega) (by omega) dL_law_285 ?_
      refine lv_aload_n hx hb dL_law_286 rfl (lv_at hl 0 rfl) ?_
      refine lv_iload_n hx hb dL_law_287 rfl (lv_at hl 3 rfl) ?_
      refine lv_iconst (v := (nI (3))) hx hb dL_law_288 (by decide) ?_
      refine lv_iadd hx hb dL_law_289 ?_
      refine kp_i (nI_add _ _) ?_
      refine kb_sld hx hb hX hbl hbA hS ((4 * k) + 3) rfl (by omega) (by omega) dL_law_290 ?_
      refine lc_l (As := [.int (xs ((4 * k) + 1)), .int (xs ((4 * k) + 2)), .int (xs ((4 * k) + 3))]) (rest := []) [0, 1, 2, 3, 4, 5, 6, 7] [8, 9, 10, 11, 12, 13, 14, 15, 16, 17, 18] ⟨hx, hb, hml, hown, hts⟩ (c_beside l D (va_A (wk q cB cI tl lv lb ln tp ll id ms sc st) H.size) q cB cI tl lv lb ln tp ll id ms sc st ((xs ((4 * k) + 1))) ((xs ((4 * k) + 2))) ((xs ((4 * k) + 3))) hR.2.1) (cwV 3 hts gL1_beside rfl rfl rfl (by decide +kernel) ⟨Nat.le_of_ble_eq_true rfl, Nat.le_of_ble_eq_true rfl⟩) (va_recv hKc hP (ci := 1) (q0 := 0) rfl rfl) hKc hP hD hS hZ hA rfl rfl rfl (by decide) (by decide) (by decide) rfl hl.1 rfl (Nat.le_of_ble_eq_true rfl) ⟨Nat.le_of_ble_eq_true rfl, Nat.le_of_ble_eq_true rfl⟩ dL_law_291 (fun rc uc H locs hwc hP hD hS => ?_)
      have hP : va_P D vwCl ((wm r cI cJ hz tl lv mn vs cb hs su s2 ro be tm bs sz lw mi) ++ (wk q cB cI tl lv lb ln tp ll id ms sc st)) H := hP
      have hD : va_D (fun q : Nat => s.heap.size ≤ q) ((wm r cI cJ hz tl lv mn vs cb hs su s2 ro be tm bs sz lw mi) ++ (wk q cB cI tl lv lb ln tp ll id ms sc st)) := hD
      refine lv_aload_n hx hb dL_law_294 rfl (lv_at hl 2 rfl) ?_
      refine lv_aload_n hx hb dL_law_295 rfl (lv_at hl 0 rfl) ?_
      refine lv_iload_n hx hb dL_law_296 rfl (lv_at hl 3 rfl) ?_
      refine lv_iconst (v := (nI (1))) hx hb dL_law_297 (by decide) ?_
      refine lv_iadd hx hb dL_law_298 ?_
      refine kp_i (nI_add _ _) ?_
      refine kb_sld hx hb hX hbl hbA hS ((4 * k) + 1) rfl (by omega) (by omega) dL_law_299 ?_
      refine lv_aload_n hx hb dL_law_300 rfl (lv_at hl 0 rfl) ?_
      refine lv_iload_n hx hb dL_law_301 rfl (lv_at hl 3 rfl) ?_
      refine lv_iconst (v := (nI (2))) hx hb dL_law_302 (by decide) ?_
      refine lv_iadd hx hb dL_law_303 ?_
      refine kp_i (nI_add _ _) ?_
      refine kb_sld hx hb hX hbl hbA hS ((4 * k) + 2) rfl (by omega) (by omega) dL_law_304 ?_
      refine lv_aload_n hx hb dL_law_305 rfl (lv_at hl 0 rfl) ?_
      refine lv_iload_n hx hb dL_law_306 rfl (lv_at hl 3 rfl) ?_
      refine lv_iconst (v := (nI (3))) hx hb dL_law_307 (by decide) ?_
      refine lv_iadd hx hb dL_law_308 ?_
      refine kp_i (nI_add _ _) ?_
      refine kb_sld hx hb hX hbl hbA hS ((4 * k) + 3) rfl (by omega) (by omega) dL_law_309 ?_
      refine lc_l (As := [.int (xs ((4 * k) + 1)), .int (xs ((4 * k) + 2)), .int (xs ((4 * k) + 3))]) (rest := [.long rc]) [0, 1, 2, 3, 4, 5, 6, 7, 8, 9, 10] [11, 12, 13, 14, 15, 16, 17, 18] ⟨hx, hb, hml, hown, hts⟩ (m_beside l D (va_A (wm r cI cJ hz tl lv mn vs cb hs su s2 ro be tm bs sz lw mi) H.size) r cI cJ hz tl lv mn vs cb hs su s2 ro be tm bs sz lw mi ((xs ((4 * k) + 1))) ((xs ((4 * k) + 2))) ((xs ((4 * k) + 3))) LB hR.2.1 hR.2.2.1 hR.2.2.2.2.2.2.1 hR.2.2.2.2.2.2.2.2.1 hR.2.2.2.2.2.2.2.2.2) (cwV 3 hts gL2_beside rfl rfl rfl (by decide +kernel) ⟨Nat.le_of_ble_eq_true rfl, Nat.le_of_ble_eq_true rfl⟩) (va_recv hKm hP (ci := 2) (q0 := 0) rfl rfl) hKm hP hD hS hZ0 hA rfl rfl rfl (by decide) (by decide) (by decide) rfl hl.1 rfl (Nat.le_of_ble_eq_true rfl) ⟨Nat.le_of_ble_eq_true rfl, Nat.le_of_ble_eq_true rfl⟩ dL_law_310 (fun rm um H locs hwm hP hD hS => ?_)
      have hP : va_P D vwCl ((wk q cB cI tl lv lb ln tp ll id ms sc st) ++ (wm r cI cJ um.1 tl lv um.2.1 um.2.2.1 um.2.2.2.1 um.2.2.2.2.1 um.2.2.2.2.2.1 um.2.2.2.2.2.2.1 ro be tm bs sz um.2.2.2.2.2.2.2 mi)) H := hP
      have hD : va_D (fun q : Nat => s.heap.size ≤ q) ((wk q cB cI tl lv lb ln tp ll id ms sc st) ++ (wm r cI cJ um.1 tl lv um.2.1 um.2.2.1 um.2.2.2.1 um.2.2.2.2.1 um.2.2.2.2.2.1 um.2.2.2.2.2.2.1 ro be tm bs sz um.2.2.2.2.2.2.2 mi)) := hD
      refine W.lcmp hx hb dL_law_313 ?_
      refine lv_if_eq (tgt := 398) hx hb dL_law_314 (by decide) (fun c_314 => ?_) (fun c_314 => absurd (bes_eq hR hwc hwm) (lc_n c_314))
      refine lv_iinc (v := (nI (4 * (k + 1)))) (lv' := [(3, .int (nI (4 * (k + 1)))), (0, .ref b), (1, .ref (q 0)), (2, .ref (r 0))]) hx hb dL_law_398 hl (k := 3) rfl (kn_inc _ _ 4 (by omega)) (by decide) rfl (fun ls hl => ?_)
      refine lv_goto (tgt := 18) hx hb dL_law_401 (by decide) ?_
      exact ih hlt _ _ _ ⟨tl, lv, lb, ln, tp, ll, id, ms, sc, st, um.1, um.2.1, um.2.2.1, um.2.2.2.1, um.2.2.2.2.1, um.2.2.2.2.2.1, um.2.2.2.2.2.2.1, ro, be, tm, bs, sz, um.2.2.2.2.2.2.2, mi, LB, hR, hP, hD, hS, (lv_sub hl [1, 2, 3, 0] rfl)⟩
    · refine lv_tableIn (tgt := 319) hx hb dL_law_32 (by decide) (by decide) rfl (by decide) ?_
      refine lv_aload_n hx hb dL_law_319 rfl (lv_at hl 1 rfl) ?_
      refine lv_aload_n hx hb dL_law_320 rfl (lv_at hl 0 rfl) ?_
      refine lv_iload_n hx hb dL_law_321 rfl (lv_at hl 3 rfl) ?_
      refine lv_iconst (v := (nI (1))) hx hb dL_law_322 (by decide) ?_
      refine lv_iadd hx hb dL_law_323 ?_
      refine kp_i (nI_add _ _) ?_
      refine kb_sld hx hb hX hbl hbA hS ((4 * k) + 1) rfl (by omega) (by omega) dL_law_324 ?_
      refine lv_aload_n hx hb dL_law_325 rfl (lv_at hl 0 rfl) ?_
      refine lv_iload_n hx hb dL_law_326 rfl (lv_at hl 3 rfl) ?_
      refine lv_iconst (v := (nI (2))) hx hb dL_law_327 (by decide) ?_
      refine lv_iadd hx hb dL_law_328 ?_
      refine kp_i (nI_add _ _) ?_
      refine kb_sld hx hb hX hbl hbA hS ((4 * k) + 2) rfl (by omega) (by omega) dL_law_329 ?_
      refine lc_i (As := [.int (xs ((4 * k) + 1)), .int (xs ((4 * k) + 2))]) (rest := []) [0, 1, 2, 3, 4, 5, 6, 7] [8, 9, 10, 11, 12, 13, 14, 15, 16, 17, 18] ⟨hx, hb, hml, hown, hts⟩ (c_isLeft l D (va_A (wk q cB cI tl lv lb ln tp ll id ms sc st) H.size) q cB cI tl lv lb ln tp ll id ms sc st ((xs ((4 * k) + 1))) ((xs ((4 * k) + 2))) hR.2.1) (cwV 2 hts gL1_isLeft rfl rfl rfl (by decide +kernel) ⟨Nat.le_of_ble_eq_true rfl, Nat.le_of_ble_eq_true rfl⟩) (va_recv hKc hP (ci := 1) (q0 := 0) rfl rfl) hKc hP hD hS hZ hA rfl rfl rfl (by decide) (by decide) (by decide) rfl hl.1 rfl (Nat.le_of_ble_eq_true rfl) ⟨Nat.le_of_ble_eq_true rfl, Nat.le_of_ble_eq_true rfl⟩ dL_law_330 (fun rc uc H locs hwc hP hD hS => ?_)
      have hP : va_P D vwCl ((wm r cI cJ hz tl lv mn vs cb hs su s2 ro be tm bs sz lw mi) ++ (wk q cB cI tl lv lb ln tp ll id ms sc st)) H := hP
      have hD : va_D (fun q : Nat => s.heap.size ≤ q) ((wm r cI cJ hz tl lv mn vs cb hs su s2 ro be tm bs sz lw mi) ++ (wk q cB cI tl lv lb ln tp ll id ms sc st)) := hD
      refine lv_aload_n hx hb dL_law_333 rfl (lv_at hl 2 rfl) ?_
      refine lv_aload_n hx hb dL_law_334 rfl (lv_at hl 0 rfl) ?_
      refine lv_iload_n hx hb dL_law_335 rfl (lv_at hl 3 rfl) ?_
      refine lv_iconst (v := (nI (1))) hx hb dL_law_336 (by decide) ?_
      refine lv_iadd hx hb dL_law_337 ?_
      refine kp_i (nI_add _ _) ?_
      refine kb_sld hx hb hX hbl hbA hS ((4 * k) + 1) rfl (by omega) (by omega) dL_law_338 ?_
      refine lv_aload_n hx hb dL_law_339 rfl (lv_at hl 0 rfl) ?_
      refine lv_iload_n hx hb dL_law_340 rfl (lv_at hl 3 rfl) ?_
      refine lv_iconst (v := (nI (2))) hx hb dL_law_341 (by decide) ?_
      refine lv_iadd hx hb dL_law_342 ?_
      refine kp_i (nI_add _ _) ?_
      refine kb_sld hx hb hX hbl hbA hS ((4 * k) + 2) rfl (by omega) (by omega) dL_law_343 ?_
      refine lc_i (As := [.int (xs ((4 * k) + 1)), .int (xs ((4 * k) + 2))]) (rest := [.int rc]) [0, 1, 2, 3, 4, 5, 6, 7, 8, 9, 10] [11, 12, 13, 14, 15, 16, 17, 18] ⟨hx, hb, hml, hown, hts⟩ (m_isLeft l D (va_A (wm r cI cJ hz tl lv mn vs cb hs su s2 ro be tm bs sz lw mi) H.size) r cI cJ hz tl lv mn vs cb hs su s2 ro be tm bs sz lw mi ((xs ((4 * k) + 1))) ((xs ((4 * k) + 2))) LB hR.2.1 hR.2.2.1 hR.2.2.2.2.2.2.1 hR.2.2.2.2.2.2.2.2.1 hR.2.2.2.2.2.2.2.2.2) (cwV 2 hts gL2_isLeft rfl rfl rfl (by decide +kernel) ⟨Nat.le_of_ble_eq_true rfl, Nat.le_of_ble_eq_true rfl⟩) (va_recv hKm hP (ci := 2) (q0 := 0) rfl rfl) hKm hP hD hS hZ0 hA rfl rfl rfl (by decide) (by decide) (by decide) rfl hl.1 rfl (Nat.le_of_ble_eq_true rfl) ⟨Nat.le_of_ble_eq_true rfl, Nat.le_of_ble_eq_true rfl⟩ dL_law_344 (fun rm um H locs hwm hP hD hS => ?_)
      have hP : va_P D vwCl ((wk q cB cI tl lv lb ln tp ll id ms sc st) ++ (wm r cI cJ um.1 tl lv um.2.1 um.2.2.1 um.2.2.2.1 um.2.2.2.2.1 um.2.2.2.2.2.1 um.2.2.2.2.2.2.1 ro be tm bs sz um.2.2.2.2.2.2.2 mi)) H := hP
      have hD : va_D (fun q : Nat => s.heap.size ≤ q) ((wk q cB cI tl lv lb ln tp ll id ms sc st) ++ (wm r cI cJ um.1 tl lv um.2.1 um.2.2.1 um.2.2.2.1 um.2.2.2.2.1 um.2.2.2.2.2.1 um.2.2.2.2.2.2.1 ro be tm bs sz um.2.2.2.2.2.2.2 mi)) := hD
      refine lv_icmp_eq (tgt := 398) hx hb dL_law_347 (by decide) (fun c_347 => ?_) (fun c_347 => absurd (isl_eq hR.2.1 hwc hwm) c_347)
      refine lv_iinc (v := (nI (4 * (k + 1)))) (lv' := [(3, .int (nI (4 * (k + 1)))), (0, .ref b), (1, .ref (q 0)), (2, .ref (r 0))]) hx hb dL_law_398 hl (k := 3) rfl (kn_inc _ _ 4 (by omega)) (by decide) rfl (fun ls hl => ?_)
      refine lv_goto (tgt := 18) hx hb dL_law_401 (by decide) ?_
      exact ih hlt _ _ _ ⟨tl, lv, lb, ln, tp, ll, id, ms, sc, st, um.1, um.2.1, um.2.2.1, um.2.2.2.1, um.2.2.2.2.1, um.2.2.2.2.2.1, um.2.2.2.2.2.2.1, ro, be, tm, bs, sz, um.2.2.2.2.2.2.2, mi, LB, hR, hP, hD, hS, (lv_sub hl [1, 2, 3, 0] rfl)⟩
    · refine lv_tableIn (tgt := 352) hx hb dL_law_32 (by decide) (by decide) rfl (by decide) ?_
      rcases leaf_or (xs (4 * k + 1)) hR.2.1 with ⟨i, hi, ei⟩ | hf
      · refine lv_aload_n hx hb dL_law_352 rfl (lv_at hl 1 rfl) ?_
        refine lv_aload_n hx hb dL_law_353 rfl (lv_at hl 0 rfl) ?_
        refine lv_iload_n hx hb dL_law_354 rfl (lv_at hl 3 rfl) ?_
        refine lv_iconst (v := (nI (1))) hx hb dL_law_355 (by decide) ?_
        refine lv_iadd hx hb dL_law_356 ?_
        refine kp_i (nI_add _ _) ?_
        refine kb_sld hx hb hX hbl hbA hS ((4 * k) + 1) rfl (by omega) (by omega) dL_law_357 ?_
        refine kp_i ei ?_
        refine lc_i (As := [.int (nI i)]) (rest := []) [0, 1, 2, 3, 4, 5, 6, 7] [8, 9, 10, 11, 12, 13, 14, 15, 16, 17, 18] ⟨hx, hb, hml, hown, hts⟩ (c_proves_y l D (va_A (wk q cB cI tl lv lb ln tp ll id ms sc st) H.size) q cB cI tl lv lb ln tp ll id ms sc st i hi hR.2.1 hR.1) (cwV 1 hts gL1_proves rfl rfl rfl (by decide +kernel) ⟨Nat.le_of_ble_eq_true rfl, Nat.le_of_ble_eq_true rfl⟩) (va_recv hKc hP (ci := 1) (q0 := 0) rfl rfl) hKc hP hD hS hZ hA rfl rfl rfl (by decide) (by decide) (by decide) rfl hl.1 rfl (Nat.le_of_ble_eq_true rfl) ⟨Nat.le_of_ble_eq_true rfl, Nat.le_of_ble_eq_true rfl⟩ dL_law_358 (fun rc uc H locs hwc hP hD hS => ?_)
        have hP : va_P D vwCl ((wm r cI cJ hz tl lv mn vs cb hs su s2 ro be tm bs sz lw mi) ++ (wk q cB cI tl lv lb uc.1 tp ll (pn id 202 (pvh lv i id (lfh tp tl) 8)) uc.2.1 uc.2.2.1 uc.2.2.2)) H := hP
        have hD : va_D (fun q : Nat => s.heap.size ≤ q) ((wm r cI cJ hz tl lv mn vs cb hs su s2 ro be tm bs sz lw mi) ++ (wk q cB cI tl lv lb uc.1 tp ll (pn id 202 (pvh lv i id (lfh tp tl) 8)) uc.2.1 uc.2.2.1 uc.2.2.2)) := hD
        have hwc : rc = (bz (sm (pvh lv i id (lfh tp tl) 8) (nd id (lsv (rl lv))) 8)) := hwc
        subst hwc
        refine lv_aload_n hx hb dL_law_361 rfl (lv_at hl 2 rfl) ?_
        refine lv_aload_n hx hb dL_law_362 rfl (lv_at hl 0 rfl) ?_
        refine lv_iload_n hx hb dL_law_363 rfl (lv_at hl 3 rfl) ?_
        refine lv_iconst (v := (nI (1))) hx hb dL_law_364 (by decide) ?_
        refine lv_iadd hx hb dL_law_365 ?_
        refine kp_i (nI_add _ _) ?_
        refine kb_sld hx hb hX hbl hbA hS ((4 * k) + 1) rfl (by omega) (by omega) dL_law_366 ?_
        refine kp_i ei ?_
        refine lc_i (As := [.int (nI i)]) (rest := [.int (bz (sm (pvh lv i id (lfh tp tl) 8) (nd id (lsv (rl lv))) 8))]) [0, 1, 2, 3, 4, 5, 6, 7, 8, 9, 10] [11, 12, 13, 14, 15, 16, 17, 18] ⟨hx, hb, hml, hown, hts⟩ (m_proves_y l D (va_A (wm r cI cJ hz tl lv mn vs cb hs su s2 ro be tm bs sz lw mi) H.size) r cI cJ hz tl lv mn vs cb hs su s2 ro be tm bs sz lw mi i LB hR.2.1 hR.2.2.1 hR.2.2.2.2.2.2.1 hR.2.2.2.2.2.2.2.2.1 hR.2.2.2.2.2.2.2.2.2 hi tp hR.1 hR.2.2.2.2.2.1) (cwV 1 hts gL2_proves rfl rfl rfl (by decide +kernel) ⟨Nat.le_of_ble_eq_true rfl, Nat.le_of_ble_eq_true rfl⟩) (va_recv hKm hP (ci := 2) (q0 := 0) rfl rfl) hKm hP hD hS hZ0 hA rfl rfl rfl (by decide) (by decide) (by decide) rfl hl.1 rfl (Nat.le_of_ble_eq_true rfl) ⟨Nat.le_of_ble_eq_true rfl, Nat.le_of_ble_eq_true rfl⟩ dL_law_367 (fun rm um H locs hwm hP hD hS => ?_)
        have hP : va_P D vwCl ((wk q cB cI tl lv lb uc.1 tp ll (pn id 202 (pvh lv i id (lfh tp tl) 8)) uc.2.1 uc.2.2.1 uc.2.2.2) ++ (wm r cI cJ um.1 tl lv um.2.1 um.2.2.1 um.2.2.2.1 um.2.2.2.2.1 um.2.2.2.2.2.1 um.2.2.2.2.2.2.1 ro be tm bs sz um.2.2.2.2.2.2.2.1 um.2.2.2.2.2.2.2.2)) H := hP
        have hD : va_D (fun q : Nat => s.heap.size ≤ q) ((wk q cB cI tl lv lb uc.1 tp ll (pn id 202 (pvh lv i id (lfh tp tl) 8)) uc.2.1 uc.2.2.1 uc.2.2.2) ++ (wm r cI cJ um.1 tl lv um.2.1 um.2.2.1 um.2.2.2.1 um.2.2.2.2.1 um.2.2.2.2.2.1 um.2.2.2.2.2.2.1 ro be tm bs sz um.2.2.2.2.2.2.2.1 um.2.2.2.2.2.2.2.2)) := hD
        have hwm : rm = (bz (sm (pvn lv i (lid LB sz) (lfh tp tl) (rl lv)) (nv lv (lid LB sz) (rl lv) 0) 8)) := hwm
        subst hwm
        refine lv_icmp_eq (tgt := 398) hx hb dL_law_370 (by decide) (fun c_370 => ?_) (fun c_370 => absurd (congrArg bz (prv_eq hR hi _)) c_370)
        refine lv_iinc (v := (nI (4 * (k + 1)))) (lv' := [(3, .int (nI (4 * (k + 1)))), (0, .ref b), (1, .ref (q 0)), (2, .ref (r 0))]) hx hb dL_law_398 hl (k := 3) rfl (kn_inc _ _ 4 (by omega)) (by decide) rfl (fun ls hl => ?_)
        refine lv_goto (tgt := 18) hx hb dL_law_401 (by decide) ?_
        exact ih hlt _ _ _ ⟨tl, lv, lb, uc.1, tp, ll, pn id 202 (pvh lv i id (lfh tp tl) 8), uc.2.1, uc.2.2.1, uc.2.2.2, um.1, um.2.1, um.2.2.1, um.2.2.2.1, um.2.2.2.2.1, um.2.2.2.2.2.1, um.2.2.2.2.2.2.1, ro, be, tm, bs, sz, um.2.2.2.2.2.2.2.1, um.2.2.2.2.2.2.2.2, LB, RR_202 hR, hP, hD, hS, (lv_sub hl [1, 2, 3, 0] rfl)⟩
      · refine lv_aload_n hx hb dL_law_352 rfl (lv_at hl 1 rfl) ?_
        refine lv_aload_n hx hb dL_law_353 rfl (lv_at hl 0 rfl) ?_
        refine lv_iload_n hx hb dL_law_354 rfl (lv_at hl 3 rfl) ?_
        refine lv_iconst (v := (nI (1))) hx hb dL_law_355 (by decide) ?_
        refine lv_iadd hx hb dL_law_356 ?_
        refine kp_i (nI_add _ _) ?_
        refine kb_sld hx hb hX hbl hbA hS ((4 * k) + 1) rfl (by omega) (by omega) dL_law_357 ?_
        refine lc_i (As := [.int (xs ((4 * k) + 1))]) (rest := []) [0, 1, 2, 3, 4, 5, 6, 7] [8, 9, 10, 11, 12, 13, 14, 15, 16, 17, 18] ⟨hx, hb, hml, hown, hts⟩ (c_proves_n l D (va_A (wk q cB cI tl lv lb ln tp ll id ms sc st) H.size) q cB cI tl lv lb ln tp ll id ms sc st ((xs ((4 * k) + 1))) hf) (cwV 1 hts gL1_proves rfl rfl rfl (by decide +kernel) ⟨Nat.le_of_ble_eq_true rfl, Nat.le_of_ble_eq_true rfl⟩) (va_recv hKc hP (ci := 1) (q0 := 0) rfl rfl) hKc hP hD hS hZ hA rfl rfl rfl (by decide) (by decide) (by decide) rfl hl.1 rfl (Nat.le_of_ble_eq_true rfl) ⟨Nat.le_of_ble_eq_true rfl, Nat.le_of_ble_eq_true rfl⟩ dL_law_358 (fun rc uc H locs hwc hP hD hS => ?_)
        have hP : va_P D vwCl ((wm r cI cJ hz tl lv mn vs cb hs su s2 ro be tm bs sz lw mi) ++ (wk q cB cI tl lv lb ln tp ll id ms sc st)) H := hP
        have hD : va_D (fun q : Nat => s.heap.size ≤ q) ((wm r cI cJ hz tl lv mn vs cb hs su s2 ro be tm bs sz lw mi) ++ (wk q cB cI tl lv lb ln tp ll id ms sc st)) := hD
        have hwc : rc = ((-1 : Int32)) := hwc
        subst hwc
        refine lv_aload_n hx hb dL_law_361 rfl (lv_at hl 2 rfl) ?_
        refine lv_aload_n hx hb dL_law_362 rfl (lv_at hl 0 rfl) ?_
        refine lv_iload_n hx hb dL_law_363 rfl (lv_at hl 3 rfl) ?_
        refine lv_iconst (v := (nI (1))) hx hb dL_law_364 (by decide) ?_
        refine lv_iadd hx hb dL_law_365 ?_
        refine kp_i (nI_add _ _) ?_
        refine kb_sld hx hb hX hbl hbA hS ((4 * k) + 1) rfl (by omega) (by omega) dL_law_366 ?_
        refine lc_i (As := [.int (xs ((4 * k) + 1))]) (rest := [.int ((-1 : Int32))]) [0, 1, 2, 3, 4, 5, 6, 7, 8, 9, 10] [11, 12, 13, 14, 15, 16, 17, 18] ⟨hx, hb, hml, hown, hts⟩ (m_proves_n l D (va_A (wm r cI cJ hz tl lv mn vs cb hs su s2 ro be tm bs sz lw mi) H.size) r cI cJ hz tl lv mn vs cb hs su s2 ro be tm bs sz lw mi ((xs ((4 * k) + 1))) hf) (cwV 1 hts gL2_proves rfl rfl rfl (by decide +kernel) ⟨Nat.le_of_ble_eq_true rfl, Nat.le_of_ble_eq_true rfl⟩) (va_recv hKm hP (ci := 2) (q0 := 0) rfl rfl) hKm hP hD hS hZ0 hA rfl rfl rfl (by decide) (by decide) (by decide) rfl hl.1 rfl (Nat.le_of_ble_eq_true rfl) ⟨Nat.le_of_ble_eq_true rfl, Nat.le_of_ble_eq_true rfl⟩ dL_law_367 (fun rm um H locs hwm hP hD hS => ?_)
        have hP : va_P D vwCl ((wk q cB cI tl lv lb ln tp ll id ms sc st) ++ (wm r cI cJ hz tl lv mn vs cb hs su s2 ro be tm bs sz lw mi)) H := hP
        have hD : va_D (fun q : Nat => s.heap.size ≤ q) ((wk q cB cI tl lv lb ln tp ll id ms sc st) ++ (wm r cI cJ hz tl lv mn vs cb hs su s2 ro be tm bs sz lw mi)) := hD
        have hwm : rm = ((-1 : Int32)) := hwm
        subst hwm
        refine lv_icmp_eq (tgt := 398) hx hb dL_law_370 (by decide) (fun c_370 => ?_) (fun c_370 => absurd (rfl) c_370)
        refine lv_iinc (v := (nI (4 * (k + 1)))) (lv' := [(3, .int (nI (4 * (k + 1)))), (0, .ref b), (1, .ref (q 0)), (2, .ref (r 0))]) hx hb dL_law_398 hl (k := 3) rfl (kn_inc _ _ 4 (by omega)) (by decide) rfl (fun ls hl => ?_)
        refine lv_goto (tgt := 18) hx hb dL_law_401 (by decide) ?_
        exact ih hlt _ _ _ ⟨tl, lv, lb, ln, tp, ll, id, ms, sc, st, hz, mn, vs, cb, hs, su, s2, ro, be, tm, bs, sz, lw, mi, LB, hR, hP, hD, hS, (lv_sub hl [1, 2, 3, 0] rfl)⟩
    · refine lv_tableIn (tgt := 375) hx hb dL_law_32 (by decide) (by decide) rfl (by decide) ?_
      rcases what_or (xs (4 * k + 1)) with e9 | e9 | e9 | e9 | e9
      · refine lv_aload_n hx hb dL_law_375 rfl (lv_at hl 1 rfl) ?_
        refine lv_aload_n hx hb dL_law_376 rfl (lv_at hl 0 rfl) ?_
        refine lv_iload_n hx hb dL_law_377 rfl (lv_at hl 3 rfl) ?_
        refine lv_iconst (v := (nI (1))) hx hb dL_law_378 (by decide) ?_
        refine lv_iadd hx hb dL_law_379 ?_
        refine kp_i (nI_add _ _) ?_
        refine kb_sld hx hb hX hbl hbA hS ((4 * k) + 1) rfl (by omega) (by omega) dL_law_380 ?_
        refine kp_i e9 ?_
        refine lc_i (As := [.int ((0 : Int32))]) (rest := []) [0, 1, 2, 3, 4, 5, 6, 7] [8, 9, 10, 11, 12, 13, 14, 15, 16, 17, 18] ⟨hx, hb, hml, hown, hts⟩ (c_count_0 l D (va_A (wk q cB cI tl lv lb ln tp ll id ms sc st) H.size) q cB cI tl lv lb ln tp ll id ms sc st ) (cwV 1 hts gL1_count rfl rfl rfl (by decide +kernel) ⟨Nat.le_of_ble_eq_true rfl, Nat.le_of_ble_eq_true rfl⟩) (va_recv hKc hP (ci := 1) (q0 := 0) rfl rfl) hKc hP hD hS hZ hA rfl rfl rfl (by decide) (by decide) (by decide) rfl hl.1 rfl (Nat.le_of_ble_eq_true rfl) ⟨Nat.le_of_ble_eq_true rfl, Nat.le_of_ble_eq_true rfl⟩ dL_law_381 (fun rc uc H locs hwc hP hD hS => ?_)
        have hP : va_P D vwCl ((wm r cI cJ hz tl lv mn vs cb hs su s2 ro be tm bs sz lw mi) ++ (wk q cB cI tl lv lb ln tp ll id ms sc st)) H := hP
        have hD : va_D (fun q : Nat => s.heap.size ≤ q) ((wm r cI cJ hz tl lv mn vs cb hs su s2 ro be tm bs sz lw mi) ++ (wk q cB cI tl lv lb ln tp ll id ms sc st)) := hD
        have hwc : rc = (nI (tl)) := hwc
        subst hwc
        refine lv_aload_n hx hb dL_law_384 rfl (lv_at hl 2 rfl) ?_
        refine lv_aload_n hx hb dL_law_385 rfl (lv_at hl 0 rfl) ?_
        refine lv_iload_n hx hb dL_law_386 rfl (lv_at hl 3 rfl) ?_
        refine lv_iconst (v := (nI (1))) hx hb dL_law_387 (by decide) ?_
        refine lv_iadd hx hb dL_law_388 ?_
        refine kp_i (nI_add _ _) ?_
        refine kb_sld hx hb hX hbl hbA hS ((4 * k) + 1) rfl (by omega) (by omega) dL_law_389 ?_
        refine kp_i e9 ?_
        refine lc_i (As := [.int ((0 : Int32))]) (rest := [.int (nI tl)]) [0, 1, 2, 3, 4, 5, 6, 7, 8, 9, 10] [11, 12, 13, 14, 15, 16, 17, 18] ⟨hx, hb, hml, hown, hts⟩ (m_count_0 l D (va_A (wm r cI cJ hz tl lv mn vs cb hs su s2 ro be tm bs sz lw mi) H.size) r cI cJ hz tl lv mn vs cb hs su s2 ro be tm bs sz lw mi ) (cwV 1 hts gL2_count rfl rfl rfl (by decide +kernel) ⟨Nat.le_of_ble_eq_true rfl, Nat.le_of_ble_eq_true rfl⟩) (va_recv hKm hP (ci := 2) (q0 := 0) rfl rfl) hKm hP hD hS hZ0 hA rfl rfl rfl (by decide) (by decide) (by decide) rfl hl.1 rfl (Nat.le_of_ble_eq_true rfl) ⟨Nat.le_of_ble_eq_true rfl, Nat.le_of_ble_eq_true rfl⟩ dL_law_390 (fun rm um H locs hwm hP hD hS => ?_)
        have hP : va_P D vwCl ((wk q cB cI tl lv lb ln tp ll id ms sc st) ++ (wm r cI cJ hz tl lv mn vs cb hs su s2 ro be tm bs sz lw mi)) H := hP
        have hD : va_D (fun q : Nat => s.heap.size ≤ q) ((wk q cB cI tl lv lb ln tp ll id ms sc st) ++ (wm r cI cJ hz tl lv mn vs cb hs su s2 ro be tm bs sz lw mi)) := hD
        have hwm : rm = (nI (tl)) := hwm
        subst hwm
        refine lv_icmp_eq (tgt := 398) hx hb dL_law_393 (by decide) (fun c_393 => ?_) (fun c_393 => absurd (rfl) c_393)
        refine lv_iinc (v := (nI (4 * (k + 1)))) (lv' := [(3, .int (nI (4 * (k + 1)))), (0, .ref b), (1, .ref (q 0)), (2, .ref (r 0))]) hx hb dL_law_398 hl (k := 3) rfl (kn_inc _ _ 4 (by omega)) (by decide) rfl (fun ls hl => ?_)
        refine lv_goto (tgt := 18) hx hb dL_law_401 (by decide) ?_
        exact ih hlt _ _ _ ⟨tl, lv, lb, ln, tp, ll, id, ms, sc, st, hz, mn, vs, cb, hs, su, s2, ro, be, tm, bs, sz, lw, mi, LB, hR, hP, hD, hS, (lv_sub hl [1, 2, 3, 0] rfl)⟩
      · refine lv_aload_n hx hb dL_law_375 rfl (lv_at hl 1 rfl) ?_
        refine lv_aload_n hx hb dL_law_376 rfl (lv_at hl 0 rfl) ?_
        refine lv_iload_n hx hb dL_law_377 rfl (lv_at hl 3 rfl) ?_
        refine lv_iconst (v := (nI (1))) hx hb dL_law_378 (by decide) ?_
        refine lv_iadd hx hb dL_law_379 ?_
        refine kp_i (nI_add _ _) ?_
        refine kb_sld hx hb hX hbl hbA hS ((4 * k) + 1) rfl (by omega) (by omega) dL_law_380 ?_
        refine kp_i e9 ?_
        refine lc_i (As := [.int ((1 : Int32))]) (rest := []) [0, 1, 2, 3, 4, 5, 6, 7] [8, 9, 10, 11, 12, 13, 14, 15, 16, 17, 18] ⟨hx, hb, hml, hown, hts⟩ (c_count_1 l D (va_A (wk q cB cI tl lv lb ln tp ll id ms sc st) H.size) q cB cI tl lv lb ln tp ll id ms sc st ) (cwV 1 hts gL1_count rfl rfl rfl (by decide +kernel) ⟨Nat.le_of_ble_eq_true rfl, Nat.le_of_ble_eq_true rfl⟩) (va_recv hKc hP (ci := 1) (q0 := 0) rfl rfl) hKc hP hD hS hZ hA rfl rfl rfl (by decide) (by decide) (by decide) rfl hl.1 rfl (Nat.le_of_ble_eq_true rfl) ⟨Nat.le_of_ble_eq_true rfl, Nat.le_of_ble_eq_true rfl⟩ dL_law_381 (fun rc uc H locs hwc hP hD hS => ?_)
        have hP : va_P D vwCl ((wm r cI cJ hz tl lv mn vs cb hs su s2 ro be tm bs sz lw mi) ++ (wk q cB cI tl lv lb ln tp ll id ms sc st)) H := hP
        have hD : va_D (fun q : Nat => s.heap.size ≤ q) ((wm r cI cJ hz tl lv mn vs cb hs su s2 ro be tm bs sz lw mi) ++ (wk q cB cI tl lv lb ln tp ll id ms sc st)) := hD
        have hwc : rc = (nI (lv)) := hwc
        subst hwc
        refine lv_aload_n hx hb dL_law_384 rfl (lv_at hl 2 rfl) ?_
        refine lv_aload_n hx hb dL_law_385 rfl (lv_at hl 0 rfl) ?_
        refine lv_iload_n hx hb dL_law_386 rfl (lv_at hl 3 rfl) ?_
        refine lv_iconst (v := (nI (1))) hx hb dL_law_387 (by decide) ?_
        refine lv_iadd hx hb dL_law_388 ?_
        refine kp_i (nI_add _ _) ?_
        refine kb_sld hx hb hX hbl hbA hS ((4 * k) + 1) rfl (by omega) (by omega) dL_law_389 ?_
        refine kp_i e9 ?_
        refine lc_i (As := [.int ((1 : Int32))]) (rest := [.int (nI lv)]) [0, 1, 2, 3, 4, 5, 6, 7, 8, 9, 10] [11, 12, 13, 14, 15, 16, 17, 18] ⟨hx, hb, hml, hown, hts⟩ (m_count_1 l D (va_A (wm r cI cJ hz tl lv mn vs cb hs su s2 ro be tm bs sz lw mi) H.size) r cI cJ hz tl lv mn vs cb hs su s2 ro be tm bs sz lw mi ) (cwV 1 hts gL2_count rfl rfl rfl (by decide +kernel) ⟨Nat.le_of_ble_eq_true rfl, Nat.le_of_ble_eq_true rfl⟩) (va_recv hKm hP (ci := 2) (q0 := 0) rfl rfl) hKm hP hD hS hZ0 hA rfl rfl rfl (by decide) (by decide) (by decide) rfl hl.1 rfl (Nat.le_of_ble_eq_true rfl) ⟨Nat.le_of_ble_eq_true rfl, Nat.le_of_ble_eq_true rfl⟩ dL_law_390 (fun rm um H locs hwm hP hD hS => ?_)
        have hP : va_P D vwCl ((wk q cB cI tl lv lb ln tp ll id ms sc st) ++ (wm r cI cJ hz tl lv mn vs cb hs su s2 ro be tm bs sz lw mi)) H := hP
        have hD : va_D (fun q : Nat => s.heap.size ≤ q) ((wk q cB cI tl lv lb ln tp ll id ms sc st) ++ (wm r cI cJ hz tl lv mn vs cb hs su s2 ro be tm bs sz lw mi)) := hD
        have hwm : rm = (nI (lv)) := hwm
        subst hwm
        refine lv_icmp_eq (tgt := 398) hx hb dL_law_393 (by decide) (fun c_393 => ?_) (fun c_393 => absurd (rfl) c_393)
        refine lv_iinc (v := (nI (4 * (k + 1)))) (lv' := [(3, .int (nI (4 * (k + 1)))), (0, .ref b), (1, .ref (q 0)), (2, .ref (r 0))]) hx hb dL_law_398 hl (k := 3) rfl (kn_inc _ _ 4 (by omega)) (by decide) rfl (fun ls hl => ?_)
        refine lv_goto (tgt := 18) hx hb dL_law_401 (by decide) ?_
        exact ih hlt _ _ _ ⟨tl, lv, lb, ln, tp, ll, id, ms, sc, st, hz, mn, vs, cb, hs, su, s2, ro, be, tm, bs, sz, lw, mi, LB, hR, hP, hD, hS, (lv_sub hl [1, 2, 3, 0] rfl)⟩
      · refine lv_aload_n hx hb dL_law_375 rfl (lv_at hl 1 rfl) ?_
        refine lv_aload_n hx hb dL_law_376 rfl (lv_at hl 0 rfl) ?_
        refine lv_iload_n hx hb dL_law_377 rfl (lv_at hl 3 rfl) ?_
        refine lv_iconst (v := (nI (1))) hx hb dL_law_378 (by decide) ?_
        refine lv_iadd hx hb dL_law_379 ?_
        refine kp_i (nI_add _ _) ?_
        refine kb_sld hx hb hX hbl hbA hS ((4 * k) + 1) rfl (by omega) (by omega) dL_law_380 ?_
        refine kp_i e9 ?_
        refine lc_i (As := [.int ((2 : Int32))]) (rest := []) [0, 1, 2, 3, 4, 5, 6, 7] [8, 9, 10, 11, 12, 13, 14, 15, 16, 17, 18] ⟨hx, hb, hml, hown, hts⟩ (c_count_2 l D (va_A (wk q cB cI tl lv lb ln tp ll id ms sc st) H.size) q cB cI tl lv lb ln tp ll id ms sc st hR.2.1) (cwV 1 hts gL1_count rfl rfl rfl (by decide +kernel) ⟨Nat.le_of_ble_eq_true rfl, Nat.le_of_ble_eq_true rfl⟩) (va_recv hKc hP (ci := 1) (q0 := 0) rfl rfl) hKc hP hD hS hZ hA rfl rfl rfl (by decide) (by decide) (by decide) rfl hl.1 rfl (Nat.le_of_ble_eq_true rfl) ⟨Nat.le_of_ble_eq_true rfl, Nat.le_of_ble_eq_true rfl⟩ dL_law_381 (fun rc uc H locs hwc hP hD hS => ?_)
        have hP : va_P D vwCl ((wm r cI cJ hz tl lv mn vs cb hs su s2 ro be tm bs sz lw mi) ++ (wk q cB cI tl lv lb ln tp ll id ms sc st)) H := hP
        have hD : va_D (fun q : Nat => s.heap.size ≤ q) ((wm r cI cJ hz tl lv mn vs cb hs su s2 ro be tm bs sz lw mi) ++ (wk q cB cI tl lv lb ln tp ll id ms sc st)) := hD
        have hwc : rc = (nI (if lv < 1 then 0 else rl lv + 1)) := hwc
        subst hwc
        refine lv_aload_n hx hb dL_law_384 rfl (lv_at hl 2 rfl) ?_
        refine lv_aload_n hx hb dL_law_385 rfl (lv_at hl 0 rfl) ?_
        refine lv_iload_n hx hb dL_law_386 rfl (lv_at hl 3 rfl) ?_
        refine lv_iconst (v := (nI (1))) hx hb dL_law_387 (by decide) ?_
        refine lv_iadd hx hb dL_law_388 ?_
        refine kp_i (nI_add _ _) ?_
        refine kb_sld hx hb hX hbl hbA hS ((4 * k) + 1) rfl (by omega) (by omega) dL_law_389 ?_
        refine kp_i e9 ?_
        refine lc_i (As := [.int ((2 : Int32))]) (rest := [.int (nI (if lv < 1 then 0 else rl lv + 1))]) [0, 1, 2, 3, 4, 5, 6, 7, 8, 9, 10] [11, 12, 13, 14, 15, 16, 17, 18] ⟨hx, hb, hml, hown, hts⟩ (m_count_2 l D (va_A (wm r cI cJ hz tl lv mn vs cb hs su s2 ro be tm bs sz lw mi) H.size) r cI cJ hz tl lv mn vs cb hs su s2 ro be tm bs sz lw mi LB hR.2.1 hR.2.2.1 hR.2.2.2.2.2.2.1 hR.2.2.2.2.2.2.2.2.1 hR.2.2.2.2.2.2.2.2.2) (cwV 1 hts gL2_count rfl rfl rfl (by decide +kernel) ⟨Nat.le_of_ble_eq_true rfl, Nat.le_of_ble_eq_true rfl⟩) (va_recv hKm hP (ci := 2) (q0 := 0) rfl rfl) hKm hP hD hS hZ0 hA rfl rfl rfl (by decide) (by decide) (by decide) rfl hl.1 rfl (Nat.le_of_ble_eq_true rfl) ⟨Nat.le_of_ble_eq_true rfl, Nat.le_of_ble_eq_true rfl⟩ dL_law_390 (fun rm um H locs hwm hP hD hS => ?_)
        have hP : va_P D vwCl ((wk q cB cI tl lv lb ln tp ll id ms sc st) ++ (wm r cI cJ um.1 tl lv um.2.1 um.2.2.1 cb um.2.2.2.1 um.2.2.2.2.1 um.2.2.2.2.2.1 ro be tm bs sz um.2.2.2.2.2.2 mi)) H := hP
        have hD : va_D (fun q : Nat => s.heap.size ≤ q) ((wk q cB cI tl lv lb ln tp ll id ms sc st) ++ (wm r cI cJ um.1 tl lv um.2.1 um.2.2.1 cb um.2.2.2.1 um.2.2.2.2.1 um.2.2.2.2.2.1 ro be tm bs sz um.2.2.2.2.2.2 mi)) := hD
        have hwm : rm = (nI (if lv < 1 then 0 else rl lv + 1)) := hwm
        subst hwm
        refine lv_icmp_eq (tgt := 398) hx hb dL_law_393 (by decide) (fun c_393 => ?_) (fun c_393 => absurd (rfl) c_393)
        refine lv_iinc (v := (nI (4 * (k + 1)))) (lv' := [(3, .int (nI (4 * (k + 1)))), (0, .ref b), (1, .ref (q 0)), (2, .ref (r 0))]) hx hb dL_law_398 hl (k := 3) rfl (kn_inc _ _ 4 (by omega)) (by decide) rfl (fun ls hl => ?_)
        refine lv_goto (tgt := 18) hx hb dL_law_401 (by decide) ?_
        exact ih hlt _ _ _ ⟨tl, lv, lb, ln, tp, ll, id, ms, sc, st, um.1, um.2.1, um.2.2.1, cb, um.2.2.2.1, um.2.2.2.2.1, um.2.2.2.2.2.1, ro, be, tm, bs, sz, um.2.2.2.2.2.2, mi, LB, hR, hP, hD, hS, (lv_sub hl [1, 2, 3, 0] rfl)⟩
      · refine lv_aload_n hx hb dL_law_375 rfl (lv_at hl 1 rfl) ?_
        refine lv_aload_n hx hb dL_law_376 rfl (lv_at hl 0 rfl) ?_
        refine lv_iload_n hx hb dL_law_377 rfl (lv_at hl 3 rfl) ?_
        refine lv_iconst (v := (nI (1))) hx hb dL_law_378 (by decide) ?_
        refine lv_iadd hx hb dL_law_379 ?_
        refine kp_i (nI_add _ _) ?_
        refine kb_sld hx hb hX hbl hbA hS ((4 * k) + 1) rfl (by omega) (by omega) dL_law_380 ?_
        refine kp_i e9 ?_
        refine lc_i (As := [.int ((3 : Int32))]) (rest := []) [0, 1, 2, 3, 4, 5, 6, 7] [8, 9, 10, 11, 12, 13, 14, 15, 16, 17, 18] ⟨hx, hb, hml, hown, hts⟩ (c_count_3 l D (va_A (wk q cB cI tl lv lb ln tp ll id ms sc st) H.size) q cB cI tl lv lb ln tp ll id ms sc st ) (cwV 1 hts gL1_count rfl rfl rfl (by decide +kernel) ⟨Nat.le_of_ble_eq_true rfl, Nat.le_of_ble_eq_true rfl⟩) (va_recv hKc hP (ci := 1) (q0 := 0) rfl rfl) hKc hP hD hS hZ hA rfl rfl rfl (by decide) (by decide) (by decide) rfl hl.1 rfl (Nat.le_of_ble_eq_true rfl) ⟨Nat.le_of_ble_eq_true rfl, Nat.le_of_ble_eq_true rfl⟩ dL_law_381 (fun rc uc H locs hwc hP hD hS => ?_)
        have hP : va_P D vwCl ((wm r cI cJ hz tl lv mn vs cb hs su s2 ro be tm bs sz lw mi) ++ (wk q cB cI tl lv lb ln tp ll id ms sc st)) H := hP
        have hD : va_D (fun q : Nat => s.heap.size ≤ q) ((wm r cI cJ hz tl lv mn vs cb hs su s2 ro be tm bs sz lw mi) ++ (wk q cB cI tl lv lb ln tp ll id ms sc st)) := hD
        have hwc : rc = (nI (lb)) := hwc
        subst hwc
        refine lv_aload_n hx hb dL_law_384 rfl (lv_at hl 2 rfl) ?_
        refine lv_aload_n hx hb dL_law_385 rfl (lv_at hl 0 rfl) ?_
        refine lv_iload_n hx hb dL_law_386 rfl (lv_at hl 3 rfl) ?_
        refine lv_iconst (v := (nI (1))) hx hb dL_law_387 (by decide) ?_
        refine lv_iadd hx hb dL_law_388 ?_
        refine kp_i (nI_add _ _) ?_
        refine kb_sld hx hb hX hbl hbA hS ((4 * k) + 1) rfl (by omega) (by omega) dL_law_389 ?_
        refine kp_i e9 ?_
        refine lc_i (As := [.int ((3 : Int32))]) (rest := [.int (nI lb)]) [0, 1, 2, 3, 4, 5, 6, 7, 8, 9, 10] [11, 12, 13, 14, 15, 16, 17, 18] ⟨hx, hb, hml, hown, hts⟩ (m_count_3 l D (va_A (wm r cI cJ hz tl lv mn vs cb hs su s2 ro be tm bs sz lw mi) H.size) r cI cJ hz tl lv mn vs cb hs su s2 ro be tm bs sz lw mi hR.2.1) (cwV 1 hts gL2_count rfl rfl rfl (by decide +kernel) ⟨Nat.le_of_ble_eq_true rfl, Nat.le_of_ble_eq_true rfl⟩) (va_recv hKm hP (ci := 2) (q0 := 0) rfl rfl) hKm hP hD hS hZ0 hA rfl rfl rfl (by decide) (by decide) (by decide) rfl hl.1 rfl (Nat.le_of_ble_eq_true rfl) ⟨Nat.le_of_ble_eq_true rfl, Nat.le_of_ble_eq_true rfl⟩ dL_law_390 (fun rm um H locs hwm hP hD hS => ?_)
        have hP : va_P D vwCl ((wk q cB cI tl lv lb ln tp ll id ms sc st) ++ (wm r cI cJ hz tl lv mn vs cb hs su s2 ro be tm bs sz lw mi)) H := hP
        have hD : va_D (fun q : Nat => s.heap.size ≤ q) ((wk q cB cI tl lv lb ln tp ll id ms sc st) ++ (wm r cI cJ hz tl lv mn vs cb hs su s2 ro be tm bs sz lw mi)) := hD
        have hwm : rm = (nI (tot sz lv)) := hwm
        subst hwm
        refine lv_icmp_eq (tgt := 398) hx hb dL_law_393 (by decide) (fun c_393 => ?_) (fun c_393 => absurd (congrArg nI hR.2.2.2.2.1) c_393)
        refine lv_iinc (v := (nI (4 * (k + 1)))) (lv' := [(3, .int (nI (4 * (k + 1)))), (0, .ref b), (1, .ref (q 0)), (2, .ref (r 0))]) hx hb dL_law_398 hl (k := 3) rfl (kn_inc _ _ 4 (by omega)) (by decide) rfl (fun ls hl => ?_)
        refine lv_goto (tgt := 18) hx hb dL_law_401 (by decide) ?_
        exact ih hlt _ _ _ ⟨tl, lv, lb, ln, tp, ll, id, ms, sc, st, hz, mn, vs, cb, hs, su, s2, ro, be, tm, bs, sz, lw, mi, LB, hR, hP, hD, hS, (lv_sub hl [1, 2, 3, 0] rfl)⟩
      · refine lv_aload_n hx hb dL_law_375 rfl (lv_at hl 1 rfl) ?_
        refine lv_aload_n hx hb dL_law_376 rfl (lv_at hl 0 rfl) ?_
        refine lv_iload_n hx hb dL_law_377 rfl (lv_at hl 3 rfl) ?_
        refine lv_iconst (v := (nI (1))) hx hb dL_law_378 (by decide) ?_
        refine lv_iadd hx hb dL_law_379 ?_
        refine kp_i (nI_add _ _) ?_
        refine kb_sld hx hb hX hbl hbA hS ((4 * k) + 1) rfl (by omega) (by omega) dL_law_380 ?_
        refine lc_i (As := [.int (xs ((4 * k) + 1))]) (rest := []) [0, 1, 2, 3, 4, 5, 6, 7] [8, 9, 10, 11, 12, 13, 14, 15, 16, 17, 18] ⟨hx, hb, hml, hown, hts⟩ (c_count_n l D (va_A (wk q cB cI tl lv lb ln tp ll id ms sc st) H.size) q cB cI tl lv lb ln tp ll id ms sc st ((xs ((4 * k) + 1))) e9) (cwV 1 hts gL1_count rfl rfl rfl (by decide +kernel) ⟨Nat.le_of_ble_eq_true rfl, Nat.le_of_ble_eq_true rfl⟩) (va_recv hKc hP (ci := 1) (q0 := 0) rfl rfl) hKc hP hD hS hZ hA rfl rfl rfl (by decide) (by decide) (by decide) rfl hl.1 rfl (Nat.le_of_ble_eq_true rfl) ⟨Nat.le_of_ble_eq_true rfl, Nat.le_of_ble_eq_true rfl⟩ dL_law_381 (fun rc uc H locs hwc hP hD hS => ?_)
        have hP : va_P D vwCl ((wm r cI cJ hz tl lv mn vs cb hs su s2 ro be tm bs sz lw mi) ++ (wk q cB cI tl lv lb ln tp ll id ms sc st)) H := hP
        have hD : va_D (fun q : Nat => s.heap.size ≤ q) ((wm r cI cJ hz tl lv mn vs cb hs su s2 ro be tm bs sz lw mi) ++ (wk q cB cI tl lv lb ln tp ll id ms sc st)) := hD
        have hwc : rc = ((-1 : Int32)) := hwc
        subst hwc
        refine lv_aload_n hx hb dL_law_384 rfl (lv_at hl 2 rfl) ?_
        refine lv_aload_n hx hb dL_law_385 rfl (lv_at hl 0 rfl) ?_
        refine lv_iload_n hx hb dL_law_386 rfl (lv_at hl 3 rfl) ?_
        refine lv_iconst (v := (nI (1))) hx hb dL_law_387 (by decide) ?_
        refine lv_iadd hx hb dL_law_388 ?_
        refine kp_i (nI_add _ _) ?_
        refine kb_sld hx hb hX hbl hbA hS ((4 * k) + 1) rfl (by omega) (by omega) dL_law_389 ?_
        refine lc_i (As := [.int (xs ((4 * k) + 1))]) (rest := [.int ((-1 : Int32))]) [0, 1, 2, 3, 4, 5, 6, 7, 8, 9, 10] [11, 12, 13, 14, 15, 16, 17, 18] ⟨hx, hb, hml, hown, hts⟩ (m_count_n l D (va_A (wm r cI cJ hz tl lv mn vs cb hs su s2 ro be tm bs sz lw mi) H.size) r cI cJ hz tl lv mn vs cb hs su s2 ro be tm bs sz lw mi ((xs ((4 * k) + 1))) e9) (cwV 1 hts gL2_count rfl rfl rfl (by decide +kernel) ⟨Nat.le_of_ble_eq_true rfl, Nat.le_of_ble_eq_true rfl⟩) (va_recv hKm hP (ci := 2) (q0 := 0) rfl rfl) hKm hP hD hS hZ0 hA rfl rfl rfl (by decide) (by decide) (by decide) rfl hl.1 rfl (Nat.le_of_ble_eq_true rfl) ⟨Nat.le_of_ble_eq_true rfl, Nat.le_of_ble_eq_true rfl⟩ dL_law_390 (fun rm um H locs hwm hP hD hS => ?_)
        have hP : va_P D vwCl ((wk q cB cI tl lv lb ln tp ll id ms sc st) ++ (wm r cI cJ hz tl lv mn vs cb hs su s2 ro be tm bs sz lw mi)) H := hP
        have hD : va_D (fun q : Nat => s.heap.size ≤ q) ((wk q cB cI tl lv lb ln tp ll id ms sc st) ++ (wm r cI cJ hz tl lv mn vs cb hs su s2 ro be tm bs sz lw mi)) := hD
        have hwm : rm = ((-1 : Int32)) := hwm
        subst hwm
        refine lv_icmp_eq (tgt := 398) hx hb dL_law_393 (by decide) (fun c_393 => ?_) (fun c_393 => absurd (rfl) c_393)
        refine lv_iinc (v := (nI (4 * (k + 1)))) (lv' := [(3, .int (nI (4 * (k + 1)))), (0, .ref b), (1, .ref (q 0)), (2, .ref (r 0))]) hx hb dL_law_398 hl (k := 3) rfl (kn_inc _ _ 4 (by omega)) (by decide) rfl (fun ls hl => ?_)
        refine lv_goto (tgt := 18) hx hb dL_law_401 (by decide) ?_
        exact ih hlt _ _ _ ⟨tl, lv, lb, ln, tp, ll, id, ms, sc, st, hz, mn, vs, cb, hs, su, s2, ro, be, tm, bs, sz, lw, mi, LB, hR, hP, hD, hS, (lv_sub hl [1, 2, 3, 0] rfl)⟩
    · refine lv_tableOut (tgt := 398) hx hb dL_law_32 (Or.inr (by rw [nI_toInt (by omega)]; omega)) (by decide) ?_
      refine lv_iinc (v := (nI (4 * (k + 1)))) (lv' := [(3, .int (nI (4 * (k + 1)))), (0, .ref b), (1, .ref (q 0)), (2, .ref (r 0))]) hx hb dL_law_398 hl (k := 3) rfl (kn_inc _ _ 4 (by omega)) (by decide) rfl (fun ls hl => ?_)
      refine lv_goto (tgt := 18) hx hb dL_law_401 (by decide) ?_
      exact ih hlt _ _ _ ⟨tl, lv, lb, ln, tp, ll, id, ms, sc, st, hz, mn, vs, cb, hs, su, s2, ro, be, tm, bs, sz, lw, mi, LB, hR, hP, hD, hS, (lv_sub hl [1, 2, 3, 0] rfl)⟩
