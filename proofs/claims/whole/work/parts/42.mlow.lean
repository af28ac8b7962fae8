set_option maxHeartbeats 4000000 in
set_option maxRecDepth 100000 in
theorem m_lowest (l : Launch) (D : va_G) (A : Nat → Prop) (r : Nat → Nat) (cI cJ : ClassId) (hz tl lv mn vs cb : Nat) (hs su sc ro be tp bs : Nat → Int32) (sz : Nat → Nat) (lw mi : Nat → Int64) (LB : Nat → Nat → Int32) (h1 : lv ≤ 100) (h2 : ∀ k, k < lv → sz k ≤ 150) (h3 : ∀ k, k < lv → ∀ i, i < sz k → bs (150 * k + i) = LB k i &&& 255) (h4 : ∀ j, j < 64 → ro j = rwv j) (h5 : ∀ j, j < 8 → be j = fsv j) : Kv (S := (Nat × Nat × (Nat → Int32) × (Nat → Int32) × (Nat → Int32) × (Nat → Int64))) l yX2_lowest wsX2_lowest { frames := 3, cells := 0, slots := 0, locals := 75 } D vwCl [(cI, .int), (cJ, .long)] A [] [.ref (r 0)] (wm r cI cJ hz tl lv mn vs cb hs su sc ro be tp bs sz lw mi) (fun u => u.2.1 = (if 0 < lv then 1 else 0) ∧ Lw lv (lid LB sz) 0 u.2.2.2.2.2) (fun u => (wm r cI cJ u.1 tl lv lv u.2.1 cb u.2.2.1 u.2.2.2.1 u.2.2.2.2.1 ro be tp bs sz u.2.2.2.2.2 mi)) := by
  refine Met.ofW (cc := cX2_lowest) (maxL := 3) (ret := none) (by decide) rfl ?_
  intro p e s m args below meth c s₁ B hml hv
  obtain ⟨rfl, hP, hK, hD, hZ⟩ := hv
  have hx := B.exec
  have hb := B.bytes
  have hr := B.returns
  have hts := atoms_spec (ws := wsX2_lowest) B.pre
  have hown : s.vm.findClass RX2 = some m.cls := findClass_of_methodNamed B.named
  have hlocks := B.notSynchronized
  have hS : va_S A s.heap s.heap [] := va_S.rf
  have hin_2 : ∀ w ∈ u_ws RX2 TX2 16, w ∈ wsX2_lowest := fun w h => List.mem_cons_of_mem _ (List.mem_append_right _ h)
  have lk_25 := hts (.fieldLink RX2 25 "RootDeskModel" "hashSize" "I") (inM (List.mem_of_getElem? (i := 20) rfl))
  have lk_54 := hts (.fieldLink RX2 54 "RootDeskModel" "bytes" "[I") (inM (List.mem_of_getElem? (i := 28) rfl))
  have lk_57 := hts (.fieldLink RX2 57 "RootDeskModel" "sizes" "[I") (inM (List.mem_of_getElem? (i := 29) rfl))
  have lk_83 := hts (.fieldLink RX2 83 "RootDeskModel" "leaves" "I") (inM (List.mem_of_getElem? (i := 27) rfl))
  have lk_96 := hts (.fieldLink RX2 96 "RootDeskModel" "many" "I") (inM (List.mem_of_getElem? (i := 31) rfl))
  have lk_99 := hts (.fieldLink RX2 99 "RootDeskModel" "levels" "I") (inM (List.mem_of_getElem? (i := 32) rfl))
  have hl := lv_entry ([.ref (r 0)]) (n := 3) (Nat.le_of_ble_eq_true rfl)
  rw [lg_entry_eq]
  generalize (lg_sl ([.ref (r 0)]) ++ List.replicate (3 - (lg_sl ([.ref (r 0)])).length) Slot.unset).toArray = ls at hl ⊢
  have hl : lv_has ls 3 [(0, .ref (r 0))] := hl
  refine lv_iconst (v := (nI (0))) hx hb dX2_lowest_0 (by decide) ?_
  refine lv_istore_n (lv' := [(1, .int (nI 0)), (0, .ref (r 0))]) hx hb dX2_lowest_1 rfl hl (by decide) rfl (fun ls hl => ?_)
  refine kp_lp (hd := 2) (nn := lv) (fun (i : Nat) (H : Heap) (locs : List Loc) (ls : Array Slot) => ∃ (u0 : (Nat × (Nat → Int32) × (Nat → Int32) × (Nat → Int32) × (Nat → Int64))), (∀ x, x < i → ∀ a, a < 4 → u0.2.2.2.2 (4 * x + a) = lw8 (lid LB sz x) a) ∧ va_P D vwCl (wm r cI cJ u0.1 tl lv mn vs cb u0.2.1 u0.2.2.1 u0.2.2.2.1 ro be tp bs sz u0.2.2.2.2 mi) H ∧ va_D A (wm r cI cJ u0.1 tl lv mn vs cb u0.2.1 u0.2.2.1 u0.2.2.2.1 ro be tp bs sz u0.2.2.2.2 mi) ∧ va_S A s.heap H locs ∧ lv_has ls 3 [(0, .ref (r 0)), (1, .int (nI i))]) ?_ 0 (by omega) _ _ _ ⟨(hz, hs, su, sc, lw), fun x hx => absurd hx (Nat.not_lt_zero x), hP, hD, hS, (lv_sub hl [1, 0] rfl)⟩
  intro i hiN H locs ls hI ih
  obtain ⟨u0, hI_0, hP, hD, hS, hl⟩ := hI
  refine lv_iload_n hx hb dX2_lowest_2 rfl (lv_at hl 1 rfl) ?_
  refine lv_aload_n hx hb dX2_lowest_3 rfl (lv_at hl 0 rfl) ?_
  refine va_get (D := D) (ci := 2) (v := .int (nI lv)) (C := RX2) (T := TX2) (N := 16) hx hb hts hin_2 hown hK hP 0 rfl rfl 8 (by decide) lk_83 (fun _ h9 => h9) rfl dX2_lowest_4 ?_
  refine lv_icmp_ge (tgt := 69) hx hb dX2_lowest_7 (by decide) (fun c_7 => ?_) (fun c_7 => ?_)
  · have c_7 : lv ≤ i := kn_le c_7 (by omega) (by omega)
    have e9 : lv = i := by omega
    subst e9
    refine lv_aload_n hx hb dX2_lowest_69 rfl (lv_at hl 0 rfl) ?_
    refine lv_aload_n hx hb dX2_lowest_70 rfl (lv_at hl 0 rfl) ?_
    refine va_get (D := D) (ci := 2) (v := .int (nI lv)) (C := RX2) (T := TX2) (N := 16) hx hb hts hin_2 hown hK hP 0 rfl rfl 8 (by decide) lk_83 (fun _ h9 => h9) rfl dX2_lowest_71 ?_
    refine va_put (D := D) (ci := 2) (v := .int (nI lv)) (ty := .int) (C := RX2) (T := TX2) (N := 16) hx hb hts hin_2 tyX2 tyX2_ok nmX2 hown hK hP hD hS 0 rfl rfl 12 (by decide) lk_96 (fun _ h9 => h9) rfl (by decide +kernel) rfl rfl (Nat.le_of_ble_eq_true rfl) dX2_lowest_74 (fun H locs hP hD hS => ?_)
    have hP : va_P D vwCl (wm r cI cJ u0.1 tl lv lv vs cb u0.2.1 u0.2.2.1 u0.2.2.2.1 ro be tp bs sz u0.2.2.2.2 mi) H := hP
    have hD : va_D A (wm r cI cJ u0.1 tl lv lv vs cb u0.2.1 u0.2.2.1 u0.2.2.2.1 ro be tp bs sz u0.2.2.2.2 mi) := hD
    refine lv_aload_n hx hb dX2_lowest_77 rfl (lv_at hl 0 rfl) ?_
    refine lv_aload_n hx hb dX2_lowest_78 rfl (lv_at hl 0 rfl) ?_
    refine va_get (D := D) (ci := 2) (v := .int (nI lv)) (C := RX2) (T := TX2) (N := 16) hx hb hts hin_2 hown hK hP 0 rfl rfl 8 (by decide) lk_83 (fun _ h9 => h9) rfl dX2_lowest_79 ?_
    refine lv_if_le (tgt := 89) hx hb dX2_lowest_82 (by decide) (fun c_82 => ?_) (fun c_82 => ?_)
    · have c_82 : lv = 0 := kn_le0 c_82 (by omega)
      refine lv_iconst (v := (nI (0))) hx hb dX2_lowest_89 (by decide) ?_
      refine va_put (D := D) (ci := 2) (v := .int (nI 0)) (ty := .int) (C := RX2) (T := TX2) (N := 16) hx hb hts hin_2 tyX2 tyX2_ok nmX2 hown hK hP hD hS 0 rfl rfl 13 (by decide) lk_99 (fun _ h9 => h9) rfl (by decide +kernel) rfl rfl (Nat.le_of_ble_eq_true rfl) dX2_lowest_90 (fun H locs hP hD hS => ?_)
      have hP : va_P D vwCl (wm r cI cJ u0.1 tl lv lv 0 cb u0.2.1 u0.2.2.1 u0.2.2.2.1 ro be tp bs sz u0.2.2.2.2 mi) H := hP
      have hD : va_D A (wm r cI cJ u0.1 tl lv lv 0 cb u0.2.1 u0.2.2.1 u0.2.2.2.1 ro be tp bs sz u0.2.2.2.2 mi) := hD
      exact kr_v ((u0.1, 0, u0.2.1, u0.2.2.1, u0.2.2.2.1, u0.2.2.2.2)) hx hb hr hlocks hK hP hD hS (⟨by first | rw [if_pos c_82] | rw [if_neg (by omega)], hI_0⟩) dX2_lowest_93
    · have c_82 : 0 < lv := kn_nle0 c_82 (by omega)
      refine lv_iconst (v := (nI (1))) hx hb dX2_lowest_85 (by decide) ?_
      refine lv_goto (tgt := 90) hx hb dX2_lowest_86 (by decide) ?_
      refine va_put (D := D) (ci := 2) (v := .int (nI 1)) (ty := .int) (C := RX2) (T := TX2) (N := 16) hx hb hts hin_2 tyX2 tyX2_ok nmX2 hown hK hP hD hS 0 rfl rfl 13 (by decide) lk_99 (fun _ h9 => h9) rfl (by decide +kernel) rfl rfl (Nat.le_of_ble_eq_true rfl) dX2_lowest_90 (fun H locs hP hD hS => ?_)
      have hP : va_P D vwCl (wm r cI cJ u0.1 tl lv lv 1 cb u0.2.1 u0.2.2.1 u0.2.2.2.1 ro be tp bs sz u0.2.2.2.2 mi) H := hP
      have hD : va_D A (wm r cI cJ u0.1 tl lv lv 1 cb u0.2.1 u0.2.2.1 u0.2.2.2.1 ro be tp bs sz u0.2.2.2.2 mi) := hD
      exact kr_v ((u0.1, 1, u0.2.1, u0.2.2.1, u0.2.2.2.1, u0.2.2.2.2)) hx hb hr hlocks hK hP hD hS (⟨by first | rw [if_pos c_82] | rw [if_neg (by omega)], hI_0⟩) dX2_lowest_93
  · have c_7 : i < lv := kn_nle c_7 (by omega) (by omega)
    have hlt : i < lv := c_7
    have hszi := h2 i hlt
    refine lv_aload_n hx hb dX2_lowest_10 rfl (lv_at hl 0 rfl) ?_
    refine lv_iconst (v := (nI (0))) hx hb dX2_lowest_11 (by decide) ?_
    refine va_put (D := D) (ci := 2) (v := .int (nI 0)) (ty := .int) (C := RX2) (T := TX2) (N := 16) hx hb hts hin_2 tyX2 tyX2_ok nmX2 hown hK hP hD hS 0 rfl rfl 1 (by decide) lk_25 (fun _ h9 => h9) rfl (by decide +kernel) rfl rfl (Nat.le_of_ble_eq_true rfl) dX2_lowest_12 (fun H locs hP hD hS => ?_)
    have hP : va_P D vwCl (wm r cI cJ 0 tl lv mn vs cb u0.2.1 u0.2.2.1 u0.2.2.2.1 ro be tp bs sz u0.2.2.2.2 mi) H := hP
    have hD : va_D A (wm r cI cJ 0 tl lv mn vs cb u0.2.1 u0.2.2.1 u0.2.2.2.1 ro be tp bs sz u0.2.2.2.2 mi) := hD
    refine lv_aload_n hx hb dX2_lowest_15 rfl (lv_at hl 0 rfl) ?_
    refine lv_iconst (v := ((0 : Int32))) hx hb dX2_lowest_16 (by decide) ?_
    refine kc_v (As := [.int ((0 : Int32))]) (rest := []) ⟨hx, hb, hml, hown, hts⟩ (m_hashByte l D A r cI cJ 0 tl lv mn vs cb u0.2.1 u0.2.2.1 u0.2.2.2.1 ro be tp bs sz u0.2.2.2.2 mi (((0 : Int32))) (by omega)) (cwV 1 hts (gMV (List.mem_of_getElem? (i := 45) rfl) (List.mem_of_getElem? (i := 46) rfl) (List.mem_of_getElem? (i := 112) rfl) (List.mem_of_getElem? (i := 0) rfl) (List.mem_of_getElem? (i := 47) rfl)) rfl rfl rfl (by decide +kernel) ⟨Nat.le_of_ble_eq_true rfl, Nat.le_of_ble_eq_true rfl⟩) (va_recv hK hP (ci := 2) (q0 := 0) rfl rfl) hK hP hD hS hZ rfl hl.1 rfl (Nat.le_of_ble_eq_true rfl) ⟨Nat.zero_le _, Nat.zero_le _⟩ dX2_lowest_17 (fun _ H locs _ hP hD hS => ?_)
    have hP : va_P D vwCl (wm r cI cJ (0 + 1) tl lv mn vs cb (upd u0.2.1 0 (((0 : Int32)) &&& 255)) u0.2.2.1 u0.2.2.2.1 ro be tp bs sz u0.2.2.2.2 mi) H := hP
    have hD : va_D A (wm r cI cJ (0 + 1) tl lv mn vs cb (upd u0.2.1 0 (((0 : Int32)) &&& 255)) u0.2.2.1 u0.2.2.2.1 ro be tp bs sz u0.2.2.2.2 mi) := hD
    rw [← cat_0 (upd u0.2.1 0 (((0 : Int32)) &&& 255)) (0 + 1) (fun y => bs (150 * i + y) &&& 255)] at hP hD
    refine lv_iconst (v := (nI (0))) hx hb dX2_lowest_20 (by decide) ?_
    refine lv_istore_n (lv' := [(2, .int (nI 0)), (0, .ref (r 0)), (1, .int (nI i))]) hx hb dX2_lowest_21 rfl hl (by decide) rfl (fun ls hl => ?_)
    refine kp_lp (hd := 22) (nn := sz i) (fun (j : Nat) (H : Heap) (locs : List Loc) (ls : Array Slot) => va_P D vwCl (wm r cI cJ (0 + 1 + j) tl lv mn vs cb (cat (upd u0.2.1 0 (((0 : Int32)) &&& 255)) (0 + 1) (fun y => bs (150 * i + y) &&& 255) j) u0.2.2.1 u0.2.2.2.1 ro be tp bs sz u0.2.2.2.2 mi) H ∧ va_D A (wm r cI cJ (0 + 1 + j) tl lv mn vs cb (cat (upd u0.2.1 0 (((0 : Int32)) &&& 255)) (0 + 1) (fun y => bs (150 * i + y) &&& 255) j) u0.2.2.1 u0.2.2.2.1 ro be tp bs sz u0.2.2.2.2 mi) ∧ va_S A s.heap H locs ∧ lv_has ls 3 [(0, .ref (r 0)), (1, .int (nI i)), (2, .int (nI j))]) ?_ 0 (by omega) _ _ _ ⟨hP, hD, hS, (lv_sub hl [1, 2, 0] rfl)⟩
    intro j hjN H locs ls hI ih_j
    obtain ⟨hP, hD, hS, hl⟩ := hI
    refine lv_iload_n hx hb dX2_lowest_22 rfl (lv_at hl 2 rfl) ?_
    refine lv_aload_n hx hb dX2_lowest_23 rfl (lv_at hl 0 rfl) ?_
    refine va_get (D := D) (ci := 2) (v := .ref (r 8)) (C := RX2) (T := TX2) (N := 16) hx hb hts hin_2 hown hK hP 0 rfl rfl 10 (by decide) lk_57 (fun _ h9 => h9) rfl dX2_lowest_24 ?_
    refine lv_iload_n hx hb dX2_lowest_27 rfl (lv_at hl 1 rfl) ?_
    refine kb_iald hx hb hK hP 8 0 rfl rfl (i) (rfl) (by omega) (by decide) dX2_lowest_28 ?_
    refine lv_icmp_ge (tgt := 54) hx hb dX2_lowest_29 (by decide) (fun c_29 => ?_) (fun c_29 => ?_)
    · have c_29 : (sz (i)) ≤ j := kn_le c_29 (by omega) (by omega)
      have e9 : sz i = j := by omega
      subst e9
      refine lv_aload_n hx hb dX2_lowest_54 rfl (lv_at hl 0 rfl) ?_
      refine kc_v (As := []) (rest := []) ⟨hx, hb, hml, hown, hts⟩ (m_digest l D A r cI cJ (0 + 1 + (sz i)) tl lv mn vs cb (cat (upd u0.2.1 0 (((0 : Int32)) &&& 255)) (0 + 1) (fun y => bs (150 * i + y) &&& 255) (sz i)) u0.2.2.1 u0.2.2.2.1 ro be tp bs sz u0.2.2.2.2 mi (lfm (LB i)) (by omega) (low_rel (fun y hy => h3 i hlt y hy)) h4 h5) (cwV 0 hts (gMV (List.mem_of_getElem? (i := 48) rfl) (List.mem_of_getElem? (i := 49) rfl) (List.mem_of_getElem? (i := 113) rfl) (List.mem_of_getElem? (i := 0) rfl) (List.mem_of_getElem? (i := 50) rfl)) rfl rfl rfl (by decide +kernel) ⟨Nat.le_of_ble_eq_true rfl, Nat.le_of_ble_eq_true rfl⟩) (va_recv hK hP (ci := 2) (q0 := 0) rfl rfl) hK hP hD hS hZ rfl hl.1 rfl (Nat.le_of_ble_eq_true rfl) ⟨Nat.zero_le _, Nat.zero_le _⟩ dX2_lowest_55 (fun u_2 H locs hw_u_2 hP hD hS => ?_)
      have hP : va_P D vwCl (wm r cI cJ u_2.1 tl lv mn vs cb u_2.2.1 u_2.2.2.1 u_2.2.2.2 ro be tp bs sz u0.2.2.2.2 mi) H := hP
      have hD : va_D A (wm r cI cJ u_2.1 tl lv mn vs cb u_2.2.1 u_2.2.2.1 u_2.2.2.2 ro be tp bs sz u0.2.2.2.2 mi) := hD
      refine lv_aload_n hx hb dX2_lowest_58 rfl (lv_at hl 0 rfl) ?_
      refine lv_iload_n hx hb dX2_lowest_59 rfl (lv_at hl 1 rfl) ?_
      refine kc_v (As := [.int (nI i)]) (rest := []) ⟨hx, hb, hml, hown, hts⟩ (m_keep l D A r cI cJ u_2.1 tl lv mn vs cb u_2.2.1 u_2.2.2.1 u_2.2.2.2 ro be tp bs sz u0.2.2.2.2 mi i (by omega)) (cwV 1 hts (gMV (List.mem_of_getElem? (i := 81) rfl) (List.mem_of_getElem? (i := 82) rfl) (List.mem_of_getElem? (i := 119) rfl) (List.mem_of_getElem? (i := 0) rfl) (List.mem_of_getElem? (i := 83) rfl)) rfl rfl rfl (by decide +kernel) ⟨Nat.le_of_ble_eq_true rfl, Nat.le_of_ble_eq_true rfl⟩) (va_recv hK hP (ci := 2) (q0 := 0) rfl rfl) hK hP hD hS hZ rfl hl.1 rfl (Nat.le_of_ble_eq_true rfl) ⟨Nat.zero_le _, Nat.zero_le _⟩ dX2_lowest_60 (fun _ H locs _ hP hD hS => ?_)
      have hP : va_P D vwCl (wm r cI cJ u_2.1 tl lv mn vs cb u_2.2.1 u_2.2.2.1 u_2.2.2.2 ro be tp bs sz (catL u0.2.2.2.2 (4 * i) (lw8 u_2.2.2.1) 4) mi) H := hP
      have hD : va_D A (wm r cI cJ u_2.1 tl lv mn vs cb u_2.2.1 u_2.2.2.1 u_2.2.2.2 ro be tp bs sz (catL u0.2.2.2.2 (4 * i) (lw8 u_2.2.2.1) 4) mi) := hD
      refine lv_iinc (v := (nI (i + 1))) (lv' := [(1, .int (nI (i + 1))), (0, .ref (r 0)), (2, .int (nI ((sz i))))]) hx hb dX2_lowest_63 hl (k := 1) rfl (kn_inc _ _ 1 rfl) (by decide) rfl (fun ls hl => ?_)
      refine lv_goto (tgt := 2) hx hb dX2_lowest_66 (by decide) ?_
      exact ih hlt _ _ _ ⟨(u_2.1, u_2.2.1, u_2.2.2.1, u_2.2.2.2, catL u0.2.2.2.2 (4 * i) (lw8 u_2.2.2.1) 4), low_back hI_0 (low_id hw_u_2), hP, hD, hS, (lv_sub hl [1, 0] rfl)⟩
    · have c_29 : j < (sz (i)) := kn_nle c_29 (by omega) (by omega)
      have hltj : j < sz i := c_29
      refine lv_aload_n hx hb dX2_lowest_32 rfl (lv_at hl 0 rfl) ?_
      refine lv_aload_n hx hb dX2_lowest_33 rfl (lv_at hl 0 rfl) ?_
      refine va_get (D := D) (ci := 2) (v := .ref (r 7)) (C := RX2) (T := TX2) (N := 16) hx hb hts hin_2 hown hK hP 0 rfl rfl 9 (by decide) lk_54 (fun _ h9 => h9) rfl dX2_lowest_34 ?_
      refine lv_sipush (v := (nI (150))) hx hb dX2_lowest_37 (by decide) ?_
      refine lv_iload_n hx hb dX2_lowest_40 rfl (lv_at hl 1 rfl) ?_
      refine lv_imul hx hb dX2_lowest_41 ?_
      refine kp_i (pk_mul _ _) ?_
      refine lv_iload_n hx hb dX2_lowest_42 rfl (lv_at hl 2 rfl) ?_
      refine lv_iadd hx hb dX2_lowest_43 ?_
      refine kp_i (nI_add _ _) ?_
      refine kb_iald hx hb hK hP 7 0 rfl rfl ((150 * i) + j) (rfl) (by omega) (by decide) dX2_lowest_44 ?_
      refine kc_v (As := [.int (bs ((150 * i) + j))]) (rest := []) ⟨hx, hb, hml, hown, hts⟩ (m_hashByte l D A r cI cJ (0 + 1 + j) tl lv mn vs cb (cat (upd u0.2.1 0 (((0 : Int32)) &&& 255)) (0 + 1) (fun y => bs (150 * i + y) &&& 255) j) u0.2.2.1 u0.2.2.2.1 ro be tp bs sz u0.2.2.2.2 mi ((bs ((150 * i) + j))) (by omega)) (cwV 1 hts (gMV (List.mem_of_getElem? (i := 45) rfl) (List.mem_of_getElem? (i := 46) rfl) (List.mem_of_getElem? (i := 112) rfl) (List.mem_of_getElem? (i := 0) rfl) (List.mem_of_getElem? (i := 47) rfl)) rfl rfl rfl (by decide +kernel) ⟨Nat.le_of_ble_eq_true rfl, Nat.le_of_ble_eq_true rfl⟩) (va_recv hK hP (ci := 2) (q0 := 0) rfl rfl) hK hP hD hS hZ rfl hl.1 rfl (Nat.le_of_ble_eq_true rfl) ⟨Nat.zero_le _, Nat.zero_le _⟩ dX2_lowest_45 (fun _ H locs _ hP hD hS => ?_)
      have hP : va_P D vwCl (wm r cI cJ ((0 + 1 + j) + 1) tl lv mn vs cb (upd (cat (upd u0.2.1 0 (((0 : Int32)) &&& 255)) (0 + 1) (fun y => bs (150 * i + y) &&& 255) j) (0 + 1 + j) ((bs ((150 * i) + j)) &&& 255)) u0.2.2.1 u0.2.2.2.1 ro be tp bs sz u0.2.2.2.2 mi) H := hP
      have hD : va_D A (wm r cI cJ ((0 + 1 + j) + 1) tl lv mn vs cb (upd (cat (upd u0.2.1 0 (((0 : Int32)) &&& 255)) (0 + 1) (fun y => bs (150 * i + y) &&& 255) j) (0 + 1 + j) ((bs ((150 * i) + j)) &&& 255)) u0.2.2.1 u0.2.2.2.1 ro be tp bs sz u0.2.2.2.2 mi) := hD
      rw [cat_s _ _ _ _ rfl] at hP hD
      have hP : va_P D vwCl (wm r cI cJ ((0 + 1 + j) + 1) tl lv mn vs cb (cat (upd u0.2.1 0 ((0 : Int32) &&& 255)) (0 + 1) (fun y => bs (150 * i + y) &&& 255) (j + 1)) u0.2.2.1 u0.2.2.2.1 ro be tp bs sz u0.2.2.2.2 mi) H := hP
      have hD : va_D A (wm r cI cJ ((0 + 1 + j) + 1) tl lv mn vs cb (cat (upd u0.2.1 0 ((0 : Int32) &&& 255)) (0 + 1) (fun y => bs (150 * i + y) &&& 255) (j + 1)) u0.2.2.1 u0.2.2.2.1 ro be tp bs sz u0.2.2.2.2 mi) := hD
      refine lv_iinc (v := (nI (j + 1))) (lv' := [(2, .int (nI (j + 1))), (0, .ref (r 0)), (1, .int (nI i))]) hx hb dX2_lowest_48 hl (k := 2) rfl (kn_inc _ _ 1 rfl) (by decide) rfl (fun ls hl => ?_)
      refine lv_goto (tgt := 22) hx hb dX2_lowest_51 (by decide) ?_
      exact ih_j hltj _ _ _ ⟨hP, hD, hS, (lv_sub hl [1, 2, 0] rfl)⟩

set_option maxHeartbeats 4000000 in
set_option maxRecDepth 100000 in
theorem m_up (l : Launch) (D : va_G) (A : Nat → Prop) (r : Nat → Nat) (cI cJ : ClassId) (hz tl lv mn vs cb : Nat) (hs su sc ro be tp bs : Nat → Int32) (sz : Nat → Nat) (lw mi : Nat → Int64) (n : Nat) (t : Nat) (L : Nat → Nat → Int32) (h0 : 1 < mn) (h1 : mn ≤ 100) (h2 : mn = wdl n t) (h3 : Lw n L t lw) (h4 : ∀ j, j < 64 → ro j = rwv j) (h5 : ∀ j, j < 8 → be j = fsv j) : Kv (S := (Nat × (Nat → Int32) × (Nat → Int32) × (Nat → Int32) × (Nat → Int64))) l yX2_up wsX2_up { frames := 3, cells := 0, slots := 0, locals := 75 } D vwCl [(cI, .int), (cJ, .long)] A [] [.ref (r 0)] (wm r cI cJ hz tl lv mn vs cb hs su sc ro be tp bs sz lw mi) (fun u => Lw n L (t + 1) u.2.2.2.2) (fun u => (wm r cI cJ u.1 tl lv ((mn + 1) / 2) (vs + 1) cb u.2.1 u.2.2.1 u.2.2.2.1 ro be tp bs sz u.2.2.2.2 mi)) := by
  refine Met.ofW (cc := cX2_up) (maxL := 3) (ret := none) (by decide) rfl ?_
  intro p e s m args below meth c s₁ B hml hv
  obtain ⟨rfl, hP, hK, hD, hZ⟩ := hv
  have hx := B.exec
  have hb := B.bytes
  have hr := B.returns
  have hts := atoms_spec (ws := wsX2_up) B.pre
  have hown : s.vm.findClass RX2 = some m.cls := findClass_of_methodNamed B.named
  have hlocks := B.notSynchronized
  have hS : va_S A s.heap s.heap [] := va_S.rf
  have hin_2 : ∀ w ∈ u_ws RX2 TX2 16, w ∈ wsX2_up := fun w h => List.mem_cons_of_mem _ (List.mem_append_right _ h)
  have lk_25 := hts (.fieldLink RX2 25 "RootDeskModel" "hashSize" "I") (inM (List.mem_of_getElem? (i := 20) rfl))
  have lk_60 := hts (.fieldLink RX2 60 "RootDeskModel" "level" "[J") (inM (List.mem_of_getElem? (i := 30) rfl))
  have lk_96 := hts (.fieldLink RX2 96 "RootDeskModel" "many" "I") (inM (List.mem_of_getElem? (i := 31) rfl))
  have lk_99 := hts (.fieldLink RX2 99 "RootDeskModel" "levels" "I") (inM (List.mem_of_getElem? (i := 32) rfl))
  have hl := lv_entry ([.ref (r 0)]) (n := 3) (Nat.le_of_ble_eq_true rfl)
  rw [lg_entry_eq]
  generalize (lg_sl ([.ref (r 0)]) ++ List.replicate (3 - (lg_sl ([.ref (r 0)])).length) Slot.unset).toArray = ls at hl ⊢
  have hl : lv_has ls 3 [(0, .ref (r 0))] := hl
  refine lv_iconst (v := (nI (0))) hx hb dX2_up_0 (by decide) ?_
  refine lv_istore_n (lv' := [(1, .int (nI 0)), (0, .ref (r 0))]) hx hb dX2_up_1 rfl hl (by decide) rfl (fun ls hl => ?_)
  refine kp_lp (hd := 2) (nn := mn / 2) (fun (i : Nat) (H : Heap) (locs : List Loc) (ls : Array Slot) => ∃ (u0 : (Nat × (Nat → Int32) × (Nat → Int32) × (Nat → Int32) × (Nat → Int64))), (∀ x, x < i → ∀ a, a < 4 → u0.2.2.2.2 (4 * x + a) = lw8 (nv n L (t + 1) x) a) ∧ (∀ x, 2 * i ≤ x → x < mn → ∀ a, a < 4 → u0.2.2.2.2 (4 * x + a) = lw8 (nv n L t x) a) ∧ va_P D vwCl (wm r cI cJ u0.1 tl lv mn vs cb u0.2.1 u0.2.2.1 u0.2.2.2.1 ro be tp bs sz u0.2.2.2.2 mi) H ∧ va_D A (wm r cI cJ u0.1 tl lv mn vs cb u0.2.1 u0.2.2.1 u0.2.2.2.1 ro be tp bs sz u0.2.2.2.2 mi) ∧ va_S A s.heap H locs ∧ lv_has ls 3 [(0, .ref (r 0)), (1, .int (nI i))]) ?_ 0 (by omega) _ _ _ ⟨(hz, hs, su, sc, lw), fun x hx => absurd hx (Nat.not_lt_zero x), fun x _ hx => h3 x (by omega), hP, hD, hS, (lv_sub hl [1, 0] rfl)⟩
  intro i hiN H locs ls hI ih
  obtain ⟨u0, hI_0, hI_1, hP, hD, hS, hl⟩ := hI
  refine lv_iload_n hx hb dX2_up_2 rfl (lv_at hl 1 rfl) ?_
  refine lv_aload_n hx hb dX2_up_3 rfl (lv_at hl 0 rfl) ?_
  refine va_get (D := D) (ci := 2) (v := .int (nI mn)) (C := RX2) (T := TX2) (N := 16) hx hb hts hin_2 hown hK hP 0 rfl rfl 12 (by decide) lk_96 (fun _ h9 => h9) rfl dX2_up_4 ?_
  refine lv_iconst (v := (nI (2))) hx hb dX2_up_7 (by decide) ?_
  refine lv_idiv hx hb dX2_up_8 (by decide) ?_
  refine kp_i (y := (nI (mn / 2))) (pk_div (by omega) (by decide) (by decide)) ?_
  refine lv_icmp_ge (tgt := 76) hx hb dX2_up_9 (by decide) (fun c_9 => ?_) (fun c_9 => ?_)
  · have c_9 : (mn / 2) ≤ i := kn_le c_9 (by omega) (by omega)
    have e9 : mn / 2 = i := by omega
    subst e9
    rw [← catL_0 u0.2.2.2.2 (2 * (mn - 1)) (fun a => u0.2.2.2.2 (4 * (mn - 1) + a))] at hP hD
    refine lv_iconst (v := (nI (0))) hx hb dX2_up_76 (by decide) ?_
    refine lv_istore_n (lv' := [(1, .int (nI 0)), (0, .ref (r 0))]) hx hb dX2_up_77 rfl hl (by decide) rfl (fun ls hl => ?_)
    refine kp_lp (hd := 78) (nn := 4) (fun (k : Nat) (H : Heap) (locs : List Loc) (ls : Array Slot) => (mn % 2 = 1 ∨ k = 0) ∧ va_P D vwCl (wm r cI cJ u0.1 tl lv mn vs cb u0.2.1 u0.2.2.1 u0.2.2.2.1 ro be tp bs sz (catL (u0.2.2.2.2) (2 * (mn - 1)) (fun a => u0.2.2.2.2 (4 * (mn - 1) + a)) k) mi) H ∧ va_D A (wm r cI cJ u0.1 tl lv mn vs cb u0.2.1 u0.2.2.1 u0.2.2.2.1 ro be tp bs sz (catL (u0.2.2.2.2) (2 * (mn - 1)) (fun a => u0.2.2.2.2 (4 * (mn - 1) + a)) k) mi) ∧ va_S A s.heap H locs ∧ lv_has ls 3 [(0, .ref (r 0)), (1, .int (nI k))]) ?_ 0 (by omega) _ _ _ ⟨Or.inr rfl, hP, hD, hS, (lv_sub hl [1, 0] rfl)⟩
    intro k hkN H locs ls hI ih_k
    obtain ⟨hik, hP, hD, hS, hl⟩ := hI
    refine lv_aload_n hx hb dX2_up_78 rfl (lv_at hl 0 rfl) ?_
    refine va_get (D := D) (ci := 2) (v := .int (nI mn)) (C := RX2) (T := TX2) (N := 16) hx hb hts hin_2 hown hK hP 0 rfl rfl 12 (by decide) lk_96 (fun _ h9 => h9) rfl dX2_up_79 ?_
    refine lv_iconst (v := (nI (2))) hx hb dX2_up_82 (by decide) ?_
    refine lv_irem hx hb dX2_up_83 (by decide) ?_
    refine kp_i (y := (nI (mn % 2))) (pk_rem (by omega) (by decide) (by decide)) ?_
    refine lv_iconst (v := (nI (1))) hx hb dX2_up_84 (by decide) ?_
    refine lv_icmp_ne (tgt := 129) hx hb dX2_up_85 (by decide) (fun c_85 => ?_) (fun c_85 => ?_)
    · have c_85 : (mn % 2) ≠ 1 := kn_ne c_85 (by omega) (by omega)
      refine lv_aload_n hx hb dX2_up_129 rfl (lv_at hl 0 rfl) ?_
      refine lv_aload_n hx hb dX2_up_130 rfl (lv_at hl 0 rfl) ?_
      refine va_get (D := D) (ci := 2) (v := .int (nI mn)) (C := RX2) (T := TX2) (N := 16) hx hb hts hin_2 hown hK hP 0 rfl rfl 12 (by decide) lk_96 (fun _ h9 => h9) rfl dX2_up_131 ?_
      refine lv_iconst (v := (nI (1))) hx hb dX2_up_134 (by decide) ?_
      refine lv_iadd hx hb dX2_up_135 ?_
      refine kp_i (nI_add _ _) ?_
      refine lv_iconst (v := (nI (2))) hx hb dX2_up_136 (by decide) ?_
      refine lv_idiv hx hb dX2_up_137 (by decide) ?_
      refine kp_i (y := (nI ((mn + 1) / 2))) (pk_div (by omega) (by decide) (by decide)) ?_
      refine va_put (D := D) (ci := 2) (v := .int (nI ((mn + 1) / 2))) (ty := .int) (C := RX2) (T := TX2) (N := 16) hx hb hts hin_2 tyX2 tyX2_ok nmX2 hown hK hP hD hS 0 rfl rfl 12 (by decide) lk_96 (fun _ h9 => h9) rfl (by decide +kernel) rfl rfl (Nat.le_of_ble_eq_true rfl) dX2_up_138 (fun H locs hP hD hS => ?_)
      have hP : va_P D vwCl (wm r cI cJ u0.1 tl lv ((mn + 1) / 2) vs cb u0.2.1 u0.2.2.1 u0.2.2.2.1 ro be tp bs sz (catL (u0.2.2.2.2) (2 * (mn - 1)) (fun a => u0.2.2.2.2 (4 * (mn - 1) + a)) k) mi) H := hP
      have hD : va_D A (wm r cI cJ u0.1 tl lv ((mn + 1) / 2) vs cb u0.2.1 u0.2.2.1 u0.2.2.2.1 ro be tp bs sz (catL (u0.2.2.2.2) (2 * (mn - 1)) (fun a => u0.2.2.2.2 (4 * (mn - 1) + a)) k) mi) := hD
      refine lv_aload_n hx hb dX2_up_141 rfl (lv_at hl 0 rfl) ?_
      refine lv_aload_n hx hb dX2_up_142 rfl (lv_at hl 0 rfl) ?_
      refine va_get (D := D) (ci := 2) (v := .int (nI vs)) (C := RX2) (T := TX2) (N := 16) hx hb hts hin_2 hown hK hP 0 rfl rfl 13 (by decide) lk_99 (fun _ h9 => h9) rfl dX2_up_143 ?_
      refine lv_iconst (v := (nI (1))) hx hb dX2_up_146 (by decide) ?_
      refine lv_iadd hx hb dX2_up_147 ?_
      refine kp_i (nI_add _ _) ?_
      refine va_put (D := D) (ci := 2) (v := .int (nI (vs + 1))) (ty := .int) (C := RX2) (T := TX2) (N := 16) hx hb hts hin_2 tyX2 tyX2_ok nmX2 hown hK hP hD hS 0 rfl rfl 13 (by decide) lk_99 (fun _ h9 => h9) rfl (by decide +kernel) rfl rfl (Nat.le_of_ble_eq_true rfl) dX2_up_148 (fun H locs hP hD hS => ?_)
      have hP : va_P D vwCl (wm r cI cJ u0.1 tl lv ((mn + 1) / 2) (vs + 1) cb u0.2.1 u0.2.2.1 u0.2.2.2.1 ro be tp bs sz (catL (u0.2.2.2.2) (2 * (mn - 1)) (fun a => u0.2.2.2.2 (4 * (mn - 1) + a)) k) mi) H := hP
      have hD : va_D A (wm r cI cJ u0.1 tl lv ((mn + 1) / 2) (vs + 1) cb u0.2.1 u0.2.2.1 u0.2.2.2.1 ro be tp bs sz (catL (u0.2.2.2.2) (2 * (mn - 1)) (fun a => u0.2.2.2.2 (4 * (mn - 1) + a)) k) mi) := hD
      exact kr_v ((u0.1, u0.2.1, u0.2.2.1, u0.2.2.2.1, catL (u0.2.2.2.2) (2 * (mn - 1)) (fun a => u0.2.2.2.2 (4 * (mn - 1) + a)) k)) hx hb hr hlocks hK hP hD hS (by dsimp only; first | exact up_odd h2 h0 c_85 hI_0 hI_1 | exact up_ev0 hik h2 c_85 hI_0) dX2_up_151
    · have c_85 : (mn % 2) = 1 := kn_eq c_85 (by omega) (by omega)
      refine lv_iload_n hx hb dX2_up_88 rfl (lv_at hl 1 rfl) ?_
      refine lv_iconst (v := (nI (4))) hx hb dX2_up_89 (by decide) ?_
      refine lv_icmp_ge (tgt := 129) hx hb dX2_up_90 (by decide) (fun c_90 => ?_) (fun c_90 => ?_)
      · have c_90 : 4 ≤ k := kn_le c_90 (by omega) (by omega)
        have e9 : 4 = k := by omega
        subst e9
        refine lv_aload_n hx hb dX2_up_129 rfl (lv_at hl 0 rfl) ?_
        refine lv_aload_n hx hb dX2_up_130 rfl (lv_at hl 0 rfl) ?_
        refine va_get (D := D) (ci := 2) (v := .int (nI mn)) (C := RX2) (T := TX2) (N := 16) hx hb hts hin_2 hown hK hP 0 rfl rfl 12 (by decide) lk_96 (fun _ h9 => h9) rfl dX2_up_131 ?_
        refine lv_iconst (v := (nI (1))) hx hb dX2_up_134 (by decide) ?_
        refine lv_iadd hx hb dX2_up_135 ?_
        refine kp_i (nI_add _ _) ?_
        refine lv_iconst (v := (nI (2))) hx hb dX2_up_136 (by decide) ?_
        refine lv_idiv hx hb dX2_up_137 (by decide) ?_
        refine kp_i (y := (nI ((mn + 1) / 2))) (pk_div (by omega) (by decide) (by decide)) ?_
        refine va_put (D := D) (ci := 2) (v := .int (nI ((mn + 1) / 2))) (ty := .int) (C := RX2) (T := TX2) (N := 16) hx hb hts hin_2 tyX2 tyX2_ok nmX2 hown hK hP hD hS 0 rfl rfl 12 (by decide) lk_96 (fun _ h9 => h9) rfl (by decide +kernel) rfl rfl (Nat.le_of_ble_eq_true rfl) dX2_up_138 (fun H locs hP hD hS => ?_)
        have hP : va_P D vwCl (wm r cI cJ u0.1 tl lv ((mn + 1) / 2) vs cb u0.2.1 u0.2.2.1 u0.2.2.2.1 ro be tp bs sz (catL (u0.2.2.2.2) (2 * (mn - 1)) (fun a => u0.2.2.2.2 (4 * (mn - 1) + a)) 4) mi) H := hP
        have hD : va_D A (wm r cI cJ u0.1 tl lv ((mn + 1) / 2) vs cb u0.2.1 u0.2.2.1 u0.2.2.2.1 ro be tp bs sz (catL (u0.2.2.2.2) (2 * (mn - 1)) (fun a => u0.2.2.2.2 (4 * (mn - 1) + a)) 4) mi) := hD
        refine lv_aload_n hx hb dX2_up_141 rfl (lv_at hl 0 rfl) ?_
        refine lv_aload_n hx hb dX2_up_142 rfl (lv_at hl 0 rfl) ?_
        refine va_get (D := D) (ci := 2) (v := .int (nI vs)) (C := RX2) (T := TX2) (N := 16) hx hb hts hin_2 hown hK hP 0 rfl rfl 13 (by decide) lk_99 (fun _ h9 => h9) rfl dX2_up_143 ?_
        refine lv_iconst (v := (nI (1))) hx hb dX2_up_146 (by decide) ?_
        refine lv_iadd hx hb dX2_up_147 ?_
        refine kp_i (nI_add _ _) ?_
        refine va_put (D := D) (ci := 2) (v := .int (nI (vs + 1))) (ty := .int) (C := RX2) (T := TX2) (N := 16) hx hb hts hin_2 tyX2 tyX2_ok nmX2 hown hK hP hD hS 0 rfl rfl 13 (by decide) lk_99 (fun _ h9 => h9) rfl (by decide +kernel) rfl rfl (Nat.le_of_ble_eq_true rfl) dX2_up_148 (fun H locs hP hD hS => ?_)
        have hP : va_P D vwCl (wm r cI cJ u0.1 tl lv ((mn + 1) / 2) (vs + 1) cb u0.2.1 u0.2.2.1 u0.2.2.2.1 ro be tp bs sz (catL (u0.2.2.2.2) (2 * (mn - 1)) (fun a => u0.2.2.2.2 (4 * (mn - 1) + a)) 4) mi) H := hP
        have hD : va_D A (wm r cI cJ u0.1 tl lv ((mn + 1) / 2) (vs + 1) cb u0.2.1 u0.2.2.1 u0.2.2.2.1 ro be tp bs sz (catL (u0.2.2.2.2) (2 * (mn - 1)) (fun a => u0.2.2.2.2 (4 * (mn - 1) + a)) 4) mi) := hD
        exact kr_v ((u0.1, u0.2.1, u0.2.2.1, u0.2.2.2.1, catL (u0.2.2.2.2) (2 * (mn - 1)) (fun a => u0.2.2.2.2 (4 * (mn - 1) + a)) 4)) hx hb hr hlocks hK hP hD hS (by dsimp only; first | exact up_odd h2 h0 c_85 hI_0 hI_1 | exact up_ev0 hik h2 c_85 hI_0) dX2_up_151
      · have c_90 : k < 4 := kn_nle c_90 (by omega) (by omega)
        have hltk : k < 4 := c_90
        refine lv_aload_n hx hb dX2_up_93 rfl (lv_at hl 0 rfl) ?_
        refine va_get (D := D) (ci := 2) (v := .ref (r 9)) (C := RX2) (T := TX2) (N := 16) hx hb hts hin_2 hown hK hP 0 rfl rfl 11 (by decide) lk_60 (fun _ h9 => h9) rfl dX2_up_94 ?_
        refine lv_iconst (v := (nI (2))) hx hb dX2_up_97 (by decide) ?_
        refine lv_aload_n hx hb dX2_up_98 rfl (lv_at hl 0 rfl) ?_
        refine va_get (D := D) (ci := 2) (v := .int (nI mn)) (C := RX2) (T := TX2) (N := 16) hx hb hts hin_2 hown hK hP 0 rfl rfl 12 (by decide) lk_96 (fun _ h9 => h9) rfl dX2_up_99 ?_
        refine lv_iconst (v := (nI (1))) hx hb dX2_up_102 (by decide) ?_
        refine lv_isub hx hb dX2_up_103 ?_
        refine kp_i (pk_sub (by omega)) ?_
        refine lv_imul hx hb dX2_up_104 ?_
        refine kp_i (pk_mul _ _) ?_
        refine lv_iload_n hx hb dX2_up_105 rfl (lv_at hl 1 rfl) ?_
        refine lv_iadd hx hb dX2_up_106 ?_
        refine kp_i (nI_add _ _) ?_
        refine lv_aload_n hx hb dX2_up_107 rfl (lv_at hl 0 rfl) ?_
        refine va_get (D := D) (ci := 2) (v := .ref (r 9)) (C := RX2) (T := TX2) (N := 16) hx hb hts hin_2 hown hK hP 0 rfl rfl 11 (by decide) lk_60 (fun _ h9 => h9) rfl dX2_up_108 ?_
        refine lv_iconst (v := (nI (4))) hx hb dX2_up_111 (by decide) ?_
        refine lv_aload_n hx hb dX2_up_112 rfl (lv_at hl 0 rfl) ?_
        refine va_get (D := D) (ci := 2) (v := .int (nI mn)) (C := RX2) (T := TX2) (N := 16) hx hb hts hin_2 hown hK hP 0 rfl rfl 12 (by decide) lk_96 (fun _ h9 => h9) rfl dX2_up_113 ?_
        refine lv_iconst (v := (nI (1))) hx hb dX2_up_116 (by decide) ?_
        refine lv_isub hx hb dX2_up_117 ?_
        refine kp_i (pk_sub (by omega)) ?_
        refine lv_imul hx hb dX2_up_118 ?_
        refine kp_i (pk_mul _ _) ?_
        refine lv_iload_n hx hb dX2_up_119 rfl (lv_at hl 1 rfl) ?_
        refine lv_iadd hx hb dX2_up_120 ?_
        refine kp_i (nI_add _ _) ?_
        refine kb_lald hx hb hK hP 9 1 rfl rfl ((4 * (mn - 1)) + k) (rfl) (by omega) (by decide) dX2_up_121 ?_
        refine kb_last hx hb hK hP hD hS 9 1 rfl rfl ((2 * (mn - 1)) + k) (rfl) (by omega) (by decide) dX2_up_122 (fun H locs hP hD hS => ?_)
        have hP : va_P D vwCl (wm r cI cJ u0.1 tl lv mn vs cb u0.2.1 u0.2.2.1 u0.2.2.2.1 ro be tp bs sz (vp_updL (catL (u0.2.2.2.2) (2 * (mn - 1)) (fun a => u0.2.2.2.2 (4 * (mn - 1) + a)) k) ((2 * (mn - 1)) + k) (((catL (u0.2.2.2.2) (2 * (mn - 1)) (fun a => u0.2.2.2.2 (4 * (mn - 1) + a)) k) ((4 * (mn - 1)) + k)))) mi) H := hP
        have hD : va_D A (wm r cI cJ u0.1 tl lv mn vs cb u0.2.1 u0.2.2.1 u0.2.2.2.1 ro be tp bs sz (vp_updL (catL (u0.2.2.2.2) (2 * (mn - 1)) (fun a => u0.2.2.2.2 (4 * (mn - 1) + a)) k) ((2 * (mn - 1)) + k) (((catL (u0.2.2.2.2) (2 * (mn - 1)) (fun a => u0.2.2.2.2 (4 * (mn - 1) + a)) k) ((4 * (mn - 1)) + k)))) mi) := hD
        rw [catL_s u0.2.2.2.2 (2 * (mn - 1)) (fun a => u0.2.2.2.2 (4 * (mn - 1) + a)) k (up_cp h0 c_85 hltk)] at hP hD
        have hP : va_P D vwCl (wm r cI cJ u0.1 tl lv mn vs cb u0.2.1 u0.2.2.1 u0.2.2.2.1 ro be tp bs sz (catL (u0.2.2.2.2) (2 * (mn - 1)) (fun a => u0.2.2.2.2 (4 * (mn - 1) + a)) (k + 1)) mi) H := hP
        have hD : va_D A (wm r cI cJ u0.1 tl lv mn vs cb u0.2.1 u0.2.2.1 u0.2.2.2.1 ro be tp bs sz (catL (u0.2.2.2.2) (2 * (mn - 1)) (fun a => u0.2.2.2.2 (4 * (mn - 1) + a)) (k + 1)) mi) := hD
        refine lv_iinc (v := (nI (k + 1))) (lv' := [(1, .int (nI (k + 1))), (0, .ref (r 0))]) hx hb dX2_up_123 hl (k := 1) rfl (kn_inc _ _ 1 rfl) (by decide) rfl (fun ls hl => ?_)
        refine lv_goto (tgt := 78) hx hb dX2_up_126 (by decide) ?_
        exact ih_k hltk _ _ _ ⟨Or.inl c_85, hP, hD, hS, (lv_sub hl [1, 0] rfl)⟩
  · have c_9 : i < (mn / 2) := kn_nle c_9 (by omega) (by omega)
    have hlt : i < mn / 2 := c_9
    refine lv_aload_n hx hb dX2_up_12 rfl (lv_at hl 0 rfl) ?_
    refine lv_iconst (v := (nI (0))) hx hb dX2_up_13 (by decide) ?_
    refine va_put (D := D) (ci := 2) (v := .int (nI 0)) (ty := .int) (C := RX2) (T := TX2) (N := 16) hx hb hts hin_2 tyX2 tyX2_ok nmX2 hown hK hP hD hS 0 rfl rfl 1 (by decide) lk_25 (fun _ h9 => h9) rfl (by decide +kernel) rfl rfl (Nat.le_of_ble_eq_true rfl) dX2_up_14 (fun H locs hP hD hS => ?_)
    have hP : va_P D vwCl (wm r cI cJ 0 tl lv mn vs cb u0.2.1 u0.2.2.1 u0.2.2.2.1 ro be tp bs sz u0.2.2.2.2 mi) H := hP
    have hD : va_D A (wm r cI cJ 0 tl lv mn vs cb u0.2.1 u0.2.2.1 u0.2.2.2.1 ro be tp bs sz u0.2.2.2.2 mi) := hD
    refine lv_aload_n hx hb dX2_up_17 rfl (lv_at hl 0 rfl) ?_
    refine lv_iconst (v := ((1 : Int32))) hx hb dX2_up_18 (by decide) ?_
    refine kc_v (As := [.int ((1 : Int32))]) (rest := []) ⟨hx, hb, hml, hown, hts⟩ (m_hashByte l D A r cI cJ 0 tl lv mn vs cb u0.2.1 u0.2.2.1 u0.2.2.2.1 ro be tp bs sz u0.2.2.2.2 mi (((1 : Int32))) (by omega)) (cwV 1 hts (gMV (List.mem_of_getElem? (i := 45) rfl) (List.mem_of_getElem? (i := 46) rfl) (List.mem_of_getElem? (i := 112) rfl) (List.mem_of_getElem? (i := 0) rfl) (List.mem_of_getElem? (i := 47) rfl)) rfl rfl rfl (by decide +kernel) ⟨Nat.le_of_ble_eq_true rfl, Nat.le_of_ble_eq_true rfl⟩) (va_recv hK hP (ci := 2) (q0 := 0) rfl rfl) hK hP hD hS hZ rfl hl.1 rfl (Nat.le_of_ble_eq_true rfl) ⟨Nat.zero_le _, Nat.zero_le _⟩ dX2_up_19 (fun _ H locs _ hP hD hS => ?_)
    have hP : va_P D vwCl (wm r cI cJ (0 + 1) tl lv mn vs cb (upd u0.2.1 0 (((1 : Int32)) &&& 255)) u0.2.2.1 u0.2.2.2.1 ro be tp bs sz u0.2.2.2.2 mi) H := hP
    have hD : va_D A (wm r cI cJ (0 + 1) tl lv mn vs cb (upd u0.2.1 0 (((1 : Int32)) &&& 255)) u0.2.2.1 u0.2.2.2.1 ro be tp bs sz u0.2.2.2.2 mi) := hD
    rw [← cat_0 (upd u0.2.1 0 (((1 : Int32)) &&& 255)) (0 + 1) (fun y => byi (u0.2.2.2.2 (8 * i + y / 8)) (y % 8) &&& 255)] at hP hD
    refine lv_iconst (v := (nI (0))) hx hb dX2_up_22 (by decide) ?_
    refine lv_istore_n (lv' := [(2, .int (nI 0)), (0, .ref (r 0)), (1, .int (nI i))]) hx hb dX2_up_23 rfl hl (by decide) rfl (fun ls hl => ?_)
    refine kp_lp (hd := 24) (nn := 64) (fun (j : Nat) (H : Heap) (locs : List Loc) (ls : Array Slot) => va_P D vwCl (wm r cI cJ (0 + 1 + j) tl lv mn vs cb (cat (upd u0.2.1 0 (((1 : Int32)) &&& 255)) (0 + 1) (fun y => byi (u0.2.2.2.2 (8 * i + y / 8)) (y % 8) &&& 255) j) u0.2.2.1 u0.2.2.2.1 ro be tp bs sz u0.2.2.2.2 mi) H ∧ va_D A (wm r cI cJ (0 + 1 + j) tl lv mn vs cb (cat (upd u0.2.1 0 (((1 : Int32)) &&& 255)) (0 + 1) (fun y => byi (u0.2.2.2.2 (8 * i + y / 8)) (y % 8) &&& 255) j) u0.2.2.1 u0.2.2.2.1 ro be tp bs sz u0.2.2.2.2 mi) ∧ va_S A s.heap H locs ∧ lv_has ls 3 [(0, .ref (r 0)), (1, .int (nI i)), (2, .int (nI j))]) ?_ 0 (by omega) _ _ _ ⟨hP, hD, hS, (lv_sub hl [1, 2, 0] rfl)⟩
    intro j hjN H locs ls hI ih_j
    obtain ⟨hP, hD, hS, hl⟩ := hI
    refine lv_iload_n hx hb dX2_up_24 rfl (lv_at hl 2 rfl) ?_
    refine lv_bipush (v := (nI (64))) hx hb dX2_up_25 (by decide) ?_
    refine lv_icmp_ge (tgt := 61) hx hb dX2_up_27 (by decide) (fun c_27 => ?_) (fun c_27 => ?_)
    · have c_27 : 64 ≤ j := kn_le c_27 (by omega) (by omega)
      have e9 : 64 = j := by omega
      subst e9
      refine lv_aload_n hx hb dX2_up_61 rfl (lv_at hl 0 rfl) ?_
      refine kc_v (As := []) (rest := []) ⟨hx, hb, hml, hown, hts⟩ (m_digest l D A r cI cJ (0 + 1 + 64) tl lv mn vs cb (cat (upd u0.2.1 0 (((1 : Int32)) &&& 255)) (0 + 1) (fun y => byi (u0.2.2.2.2 (8 * i + y / 8)) (y % 8) &&& 255) 64) u0.2.2.1 u0.2.2.2.1 ro be tp bs sz u0.2.2.2.2 mi (ndm (nv n L t (2 * i)) (nv n L t (2 * i + 1))) (by decide) (up_rel (hI_1 (2 * i) (by omega) (by omega)) (hI_1 (2 * i + 1) (by omega) (by omega))) h4 h5) (cwV 0 hts (gMV (List.mem_of_getElem? (i := 48) rfl) (List.mem_of_getElem? (i := 49) rfl) (List.mem_of_getElem? (i := 113) rfl) (List.mem_of_getElem? (i := 0) rfl) (List.mem_of_getElem? (i := 50) rfl)) rfl rfl rfl (by decide +kernel) ⟨Nat.le_of_ble_eq_true rfl, Nat.le_of_ble_eq_true rfl⟩) (va_recv hK hP (ci := 2) (q0 := 0) rfl rfl) hK hP hD hS hZ rfl hl.1 rfl (Nat.le_of_ble_eq_true rfl) ⟨Nat.zero_le _, Nat.zero_le _⟩ dX2_up_62 (fun u_2 H locs hw_u_2 hP hD hS => ?_)
      have hP : va_P D vwCl (wm r cI cJ u_2.1 tl lv mn vs cb u_2.2.1 u_2.2.2.1 u_2.2.2.2 ro be tp bs sz u0.2.2.2.2 mi) H := hP
      have hD : va_D A (wm r cI cJ u_2.1 tl lv mn vs cb u_2.2.1 u_2.2.2.1 u_2.2.2.2 ro be tp bs sz u0.2.2.2.2 mi) := hD
      refine lv_aload_n hx hb dX2_up_65 rfl (lv_at hl 0 rfl) ?_
      refine lv_iload_n hx hb dX2_up_66 rfl (lv_at hl 1 rfl) ?_
      refine kc_v (As := [.int (nI i)]) (rest := []) ⟨hx, hb, hml, hown, hts⟩ (m_keep l D A r cI cJ u_2.1 tl lv mn vs cb u_2.2.1 u_2.2.2.1 u_2.2.2.2 ro be tp bs sz u0.2.2.2.2 mi i (by omega)) (cwV 1 hts (gMV (List.mem_of_getElem? (i := 81) rfl) (List.mem_of_getElem? (i := 82) rfl) (List.mem_of_getElem? (i := 119) rfl) (List.mem_of_getElem? (i := 0) rfl) (List.mem_of_getElem? (i := 83) rfl)) rfl rfl rfl (by decide +kernel) ⟨Nat.le_of_ble_eq_true rfl, Nat.le_of_ble_eq_true rfl⟩) (va_recv hK hP (ci := 2) (q0 := 0) rfl rfl) hK hP hD hS hZ rfl hl.1 rfl (Nat.le_of_ble_eq_true rfl) ⟨Nat.zero_le _, Nat.zero_le _⟩ dX2_up_67 (fun _ H locs _ hP hD hS => ?_)
      have hP : va_P D vwCl (wm r cI cJ u_2.1 tl lv mn vs cb u_2.2.1 u_2.2.2.1 u_2.2.2.2 ro be tp bs sz (catL u0.2.2.2.2 (4 * i) (lw8 u_2.2.2.1) 4) mi) H := hP
      have hD : va_D A (wm r cI cJ u_2.1 tl lv mn vs cb u_2.2.1 u_2.2.2.1 u_2.2.2.2 ro be tp bs sz (catL u0.2.2.2.2 (4 * i) (lw8 u_2.2.2.1) 4) mi) := hD
      refine lv_iinc (v := (nI (i + 1))) (lv' := [(1, .int (nI (i + 1))), (0, .ref (r 0)), (2, .int (nI 64))]) hx hb dX2_up_70 hl (k := 1) rfl (kn_inc _ _ 1 rfl) (by decide) rfl (fun ls hl => ?_)
      refine lv_goto (tgt := 2) hx hb dX2_up_73 (by decide) ?_
      exact ih hlt _ _ _ ⟨(u_2.1, u_2.2.1, u_2.2.2.1, u_2.2.2.2, catL u0.2.2.2.2 (4 * i) (lw8 u_2.2.2.1) 4), up_a (by omega) hI_0 hw_u_2, up_b hI_1, hP, hD, hS, (lv_sub hl [1, 0] rfl)⟩
    · have c_27 : j < 64 := kn_nle c_27 (by omega) (by omega)
      have hltj : j < 64 := c_27
      refine lv_aload_n hx hb dX2_up_30 rfl (lv_at hl 0 rfl) ?_
      refine lv_aload_n hx hb dX2_up_31 rfl (lv_at hl 0 rfl) ?_
      refine va_get (D := D) (ci := 2) (v := .ref (r 9)) (C := RX2) (T := TX2) (N := 16) hx hb hts hin_2 hown hK hP 0 rfl rfl 11 (by decide) lk_60 (fun _ h9 => h9) rfl dX2_up_32 ?_
      refine lv_bipush (v := (nI (8))) hx hb dX2_up_35 (by decide) ?_
      refine lv_iload_n hx hb dX2_up_37 rfl (lv_at hl 1 rfl) ?_
      refine lv_imul hx hb dX2_up_38 ?_
      refine kp_i (pk_mul _ _) ?_
      refine lv_iload_n hx hb dX2_up_39 rfl (lv_at hl 2 rfl) ?_
      refine lv_bipush (v := (nI (8))) hx hb dX2_up_40 (by decide) ?_
      refine lv_idiv hx hb dX2_up_42 (by decide) ?_
      refine kp_i (y := (nI (j / 8))) (pk_div (by omega) (by decide) (by decide)) ?_
      refine lv_iadd hx hb dX2_up_43 ?_
      refine kp_i (nI_add _ _) ?_
      refine kb_lald hx hb hK hP 9 1 rfl rfl ((8 * i) + (j / 8)) (rfl) (by omega) (by decide) dX2_up_44 ?_
      refine lv_iload_n hx hb dX2_up_45 rfl (lv_at hl 2 rfl) ?_
      refine lv_bipush (v := (nI (8))) hx hb dX2_up_46 (by decide) ?_
      refine lv_irem hx hb dX2_up_48 (by decide) ?_
      refine kp_i (y := (nI (j % 8))) (pk_rem (by omega) (by decide) (by decide)) ?_
      refine kcs_i (As := [.long (u0.2.2.2.2 ((8 * i) + (j / 8))), .int (nI (j % 8))]) (rest := [.ref (r 0)]) ⟨hx, hb, hml, hown, hts⟩ (m_byteIn l D A r cI cJ (wm r cI cJ (0 + 1 + j) tl lv mn vs cb (cat (upd u0.2.1 0 (((1 : Int32)) &&& 255)) (0 + 1) (fun y => byi (u0.2.2.2.2 (8 * i + y / 8)) (y % 8) &&& 255) j) u0.2.2.1 u0.2.2.2.1 ro be tp bs sz u0.2.2.2.2 mi) ((u0.2.2.2.2 ((8 * i) + (j / 8)))) (j % 8) (by omega)) (cwS 2 hts (gMS (List.mem_of_getElem? (i := 87) rfl) (List.mem_of_getElem? (i := 88) rfl) (List.mem_of_getElem? (i := 0) rfl) (List.mem_of_getElem? (i := 89) rfl)) rfl rfl rfl (by decide +kernel) ⟨Nat.le_of_ble_eq_true rfl, Nat.le_of_ble_eq_true rfl⟩) hK hP hD hS hZ rfl hl.1 rfl (Nat.le_of_ble_eq_true rfl) ⟨Nat.zero_le _, Nat.zero_le _⟩ dX2_up_49 (fun r_4 _ H locs hw hP hD hS => ?_)
      have hw : r_4 = (byi (u0.2.2.2.2 ((8 * i) + (j / 8))) (j % 8)) := hw
      subst hw
      have hP : va_P D vwCl (wm r cI cJ (0 + 1 + j) tl lv mn vs cb (cat (upd u0.2.1 0 (((1 : Int32)) &&& 255)) (0 + 1) (fun y => byi (u0.2.2.2.2 (8 * i + y / 8)) (y % 8) &&& 255) j) u0.2.2.1 u0.2.2.2.1 ro be tp bs sz u0.2.2.2.2 mi) H := hP
      have hD : va_D A (wm r cI cJ (0 + 1 + j) tl lv mn vs cb (cat (upd u0.2.1 0 (((1 : Int32)) &&& 255)) (0 + 1) (fun y => byi (u0.2.2.2.2 (8 * i + y / 8)) (y % 8) &&& 255) j) u0.2.2.1 u0.2.2.2.1 ro be tp bs sz u0.2.2.2.2 mi) := hD
      refine kc_v (As := [.int (byi (u0.2.2.2.2 ((8 * i) + (j / 8))) (j % 8))]) (rest := []) ⟨hx, hb, hml, hown, hts⟩ (m_hashByte l D A r cI cJ (0 + 1 + j) tl lv mn vs cb (cat (upd u0.2.1 0 (((1 : Int32)) &&& 255)) (0 + 1) (fun y => byi (u0.2.2.2.2 (8 * i + y / 8)) (y % 8) &&& 255) j) u0.2.2.1 u0.2.2.2.1 ro be tp bs sz u0.2.2.2.2 mi ((byi (u0.2.2.2.2 ((8 * i) + (j / 8))) (j % 8))) (by omega)) (cwV 1 hts (gMV (List.mem_of_getElem? (i := 45) rfl) (List.mem_of_getElem? (i := 46) rfl) (List.mem_of_getElem? (i := 112) rfl) (List.mem_of_getElem? (i := 0) rfl) (List.mem_of_getElem? (i := 47) rfl)) rfl rfl rfl (by decide +kernel) ⟨Nat.le_of_ble_eq_true rfl, Nat.le_of_ble_eq_true rfl⟩) (va_recv hK hP (ci := 2) (q0 := 0) rfl rfl) hK hP hD hS hZ rfl hl.1 rfl (Nat.le_of_ble_eq_true rfl) ⟨Nat.zero_le _, Nat.zero_le _⟩ dX2_up_52 (fun _ H locs _ hP hD hS => ?_)
      have hP : va_P D vwCl (wm r cI cJ ((0 + 1 + j) + 1) tl lv mn vs cb (upd (cat (upd u0.2.1 0 (((1 : Int32)) &&& 255)) (0 + 1) (fun y => byi (u0.2.2.2.2 (8 * i + y / 8)) (y % 8) &&& 255) j) (0 + 1 + j) ((byi (u0.2.2.2.2 ((8 * i) + (j / 8))) (j % 8)) &&& 255)) u0.2.2.1 u0.2.2.2.1 ro be tp bs sz u0.2.2.2.2 mi) H := hP
      have hD : va_D A (wm r cI cJ ((0 + 1 + j) + 1) tl lv mn vs cb (upd (cat (upd u0.2.1 0 (((1 : Int32)) &&& 255)) (0 + 1) (fun y => byi (u0.2.2.2.2 (8 * i + y / 8)) (y % 8) &&& 255) j) (0 + 1 + j) ((byi (u0.2.2.2.2 ((8 * i) + (j / 8))) (j % 8)) &&& 255)) u0.2.2.1 u0.2.2.2.1 ro be tp bs sz u0.2.2.2.2 mi) := hD
      rw [cat_s _ _ _ _ rfl] at hP hD
      have hP : va_P D vwCl (wm r cI cJ ((0 + 1 + j) + 1) tl lv mn vs cb (cat (upd u0.2.1 0 ((1 : Int32) &&& 255)) (0 + 1) (fun y => byi (u0.2.2.2.2 (8 * i + y / 8)) (y % 8) &&& 255) (j + 1)) u0.2.2.1 u0.2.2.2.1 ro be tp bs sz u0.2.2.2.2 mi) H := hP
      have hD : va_D A (wm r cI cJ ((0 + 1 + j) + 1) tl lv mn vs cb (cat (upd u0.2.1 0 ((1 : Int32) &&& 255)) (0 + 1) (fun y => byi (u0.2.2.2.2 (8 * i + y / 8)) (y % 8) &&& 255) (j + 1)) u0.2.2.1 u0.2.2.2.1 ro be tp bs sz u0.2.2.2.2 mi) := hD
      refine lv_iinc (v := (nI (j + 1))) (lv' := [(2, .int (nI (j + 1))), (0, .ref (r 0)), (1, .int (nI i))]) hx hb dX2_up_55 hl (k := 2) rfl (kn_inc _ _ 1 rfl) (by decide) rfl (fun ls hl => ?_)
      refine lv_goto (tgt := 24) hx hb dX2_up_58 (by decide) ?_
      exact ih_j hltj _ _ _ ⟨hP, hD, hS, (lv_sub hl [1, 2, 0] rfl)⟩
