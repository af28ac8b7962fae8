set_option maxHeartbeats 4000000 in
set_option maxRecDepth 100000 in
theorem m_root2 (l : Launch) (D : va_G) (A : Nat → Prop) (r : Nat → Nat) (cI cJ : ClassId) (hz tl lv mn vs cb : Nat) (hs su sc ro be tp bs : Nat → Int32) (sz : Nat → Nat) (lw mi : Nat → Int64) (k : Nat) (LB : Nat → Nat → Int32) (h1 : lv ≤ 100) (h2 : ∀ k, k < lv → sz k ≤ 150) (h3 : ∀ k, k < lv → ∀ i, i < sz k → bs (150 * k + i) = LB k i &&& 255) (h4 : ∀ j, j < 64 → ro j = rwv j) (h5 : ∀ j, j < 8 → be j = fsv j) (h6 : k ≤ 3) (h7 : 0 < lv) : Kl (S := (Nat × Nat × Nat × (Nat → Int32) × (Nat → Int32) × (Nat → Int32) × (Nat → Int64))) l yX2_root2 wsX2_root2 { frames := 4, cells := 0, slots := 0, locals := 97 } D vwCl [(cI, .int), (cJ, .long)] A [] [.ref (r 0), .int (nI k)] (wm r cI cJ hz tl lv mn vs cb hs su sc ro be tp bs sz lw mi) (fun r _ => r = e8 (nv lv (lid LB sz) (rl lv) 0) (nI k)) (fun u => (wm r cI cJ u.1 tl lv u.2.1 u.2.2.1 cb u.2.2.2.1 u.2.2.2.2.1 u.2.2.2.2.2.1 ro be tp bs sz u.2.2.2.2.2.2 mi)) := by
  refine Met.ofW (cc := cX2_root2) (maxL := 2) (ret := (some .long)) (by decide) rfl ?_
  intro p e s m args below meth c s₁ B hml hv
  obtain ⟨rfl, hP, hK, hD, hZ⟩ := hv
  have hx := B.exec
  have hb := B.bytes
  have hr := B.returns
  have hts := atoms_spec (ws := wsX2_root2) B.pre
  have hown : s.vm.findClass RX2 = some m.cls := findClass_of_methodNamed B.named
  have hlocks := B.notSynchronized
  have hS : va_S A s.heap s.heap [] := va_S.rf
  have hin_2 : ∀ w ∈ u_ws RX2 TX2 16, w ∈ wsX2_root2 := fun w h => List.mem_cons_of_mem _ (List.mem_append_right _ h)
  have lk_60 := hts (.fieldLink RX2 60 "RootDeskModel" "level" "[J") (inM (List.mem_of_getElem? (i := 30) rfl))
  have lk_83 := hts (.fieldLink RX2 83 "RootDeskModel" "leaves" "I") (inM (List.mem_of_getElem? (i := 27) rfl))
  have lk_96 := hts (.fieldLink RX2 96 "RootDeskModel" "many" "I") (inM (List.mem_of_getElem? (i := 31) rfl))
  have hl := lv_entry ([.ref (r 0), .int (nI k)]) (n := 2) (Nat.le_of_ble_eq_true rfl)
  rw [lg_entry_eq]
  generalize (lg_sl ([.ref (r 0), .int (nI k)]) ++ List.replicate (2 - (lg_sl ([.ref (r 0), .int (nI k)])).length) Slot.unset).toArray = ls at hl ⊢
  have hl : lv_has ls 2 [(0, .ref (r 0)), (1, .int (nI k))] := hl
  refine lv_iload_n hx hb dX2_root2_0 rfl (lv_at hl 1 rfl) ?_
  refine lv_if_lt (tgt := 16) hx hb dX2_root2_1 (by decide) (fun c_1 => absurd c_1 (nI_pos (by omega))) (fun c_1 => ?_)
  refine lv_iload_n hx hb dX2_root2_4 rfl (lv_at hl 1 rfl) ?_
  refine lv_iconst (v := (nI (3))) hx hb dX2_root2_5 (by decide) ?_
  refine lv_icmp_gt (tgt := 16) hx hb dX2_root2_6 (by decide) (fun c_6 => absurd (kn_lt c_6 (by omega) (by omega)) (by omega)) (fun c_6 => ?_)
  have c_6 : k ≤ 3 := kn_nlt c_6 (by omega) (by omega)
  refine lv_aload_n hx hb dX2_root2_9 rfl (lv_at hl 0 rfl) ?_
  refine va_get (D := D) (ci := 2) (v := .int (nI lv)) (C := RX2) (T := TX2) (N := 16) hx hb hts hin_2 hown hK hP 0 rfl rfl 8 (by decide) lk_83 (fun _ h9 => h9) rfl dX2_root2_10 ?_
  refine lv_if_ne (tgt := 18) hx hb dX2_root2_13 (by decide) (fun c_13 => ?_) (fun c_13 => absurd (kn_eq0 c_13 (by omega)) (by omega))
  have c_13 : lv ≠ 0 := kn_ne0 c_13 (by omega)
  refine lv_aload_n hx hb dX2_root2_18 rfl (lv_at hl 0 rfl) ?_
  refine kc_v (As := []) (rest := []) ⟨hx, hb, hml, hown, hts⟩ (m_lowest l D A r cI cJ hz tl lv mn vs cb hs su sc ro be tp bs sz lw mi LB h1 h2 h3 h4 h5) (cwV 0 hts (gMV (List.mem_of_getElem? (i := 78) rfl) (List.mem_of_getElem? (i := 79) rfl) (List.mem_of_getElem? (i := 118) rfl) (List.mem_of_getElem? (i := 0) rfl) (List.mem_of_getElem? (i := 80) rfl)) rfl rfl rfl (by decide +kernel) ⟨Nat.le_of_ble_eq_true rfl, Nat.le_of_ble_eq_true rfl⟩) (va_recv hK hP (ci := 2) (q0 := 0) rfl rfl) hK hP hD hS hZ rfl hl.1 rfl (Nat.le_of_ble_eq_true rfl) ⟨Nat.zero_le _, Nat.zero_le _⟩ dX2_root2_19 (fun u_1 H locs hw_u_1 hP hD hS => ?_)
  have hP : va_P D vwCl (wm r cI cJ u_1.1 tl lv lv u_1.2.1 cb u_1.2.2.1 u_1.2.2.2.1 u_1.2.2.2.2.1 ro be tp bs sz u_1.2.2.2.2.2 mi) H := hP
  have hD : va_D A (wm r cI cJ u_1.1 tl lv lv u_1.2.1 cb u_1.2.2.1 u_1.2.2.2.1 u_1.2.2.2.2.1 ro be tp bs sz u_1.2.2.2.2.2 mi) := hD
  refine kp_lp (hd := 22) (nn := rl lv) (fun (i : Nat) (H : Heap) (locs : List Loc) (ls : Array Slot) => ∃ (u0 : (Nat × Nat × (Nat → Int32) × (Nat → Int32) × (Nat → Int32) × (Nat → Int64))), (Lw lv (lid LB sz) i u0.2.2.2.2.2) ∧ va_P D vwCl (wm r cI cJ u0.1 tl lv (wdl lv i) u0.2.1 cb u0.2.2.1 u0.2.2.2.1 u0.2.2.2.2.1 ro be tp bs sz u0.2.2.2.2.2 mi) H ∧ va_D A (wm r cI cJ u0.1 tl lv (wdl lv i) u0.2.1 cb u0.2.2.1 u0.2.2.2.1 u0.2.2.2.2.1 ro be tp bs sz u0.2.2.2.2.2 mi) ∧ va_S A s.heap H locs ∧ lv_has ls 2 [(0, .ref (r 0)), (1, .int (nI k))]) ?_ 0 (by omega) _ _ _ ⟨(u_1.1, u_1.2.1, u_1.2.2.1, u_1.2.2.2.1, u_1.2.2.2.2.1, u_1.2.2.2.2.2), hw_u_1.2, hP, hD, hS, (lv_sub hl [0, 1] rfl)⟩
  intro i hiN H locs ls hI ih
  obtain ⟨u0, hI_0, hP, hD, hS, hl⟩ := hI
  have hwi := wdl_le lv i
  have hr8 := rl_lt lv
  refine lv_aload_n hx hb dX2_root2_22 rfl (lv_at hl 0 rfl) ?_
  refine va_get (D := D) (ci := 2) (v := .int (nI (wdl lv i))) (C := RX2) (T := TX2) (N := 16) hx hb hts hin_2 hown hK hP 0 rfl rfl 12 (by decide) lk_96 (fun _ h9 => h9) rfl dX2_root2_23 ?_
  refine lv_iconst (v := (nI (1))) hx hb dX2_root2_26 (by decide) ?_
  refine lv_icmp_le (tgt := 37) hx hb dX2_root2_27 (by decide) (fun c_27 => ?_) (fun c_27 => ?_)
  · have c_27 : (wdl lv i) ≤ 1 := kn_le c_27 (by omega) (by omega)
    have e9 : rl lv = i := (rl_at (by omega) hiN c_27).symm
    subst e9
    refine lv_aload_n hx hb dX2_root2_37 rfl (lv_at hl 0 rfl) ?_
    refine va_get (D := D) (ci := 2) (v := .ref (r 9)) (C := RX2) (T := TX2) (N := 16) hx hb hts hin_2 hown hK hP 0 rfl rfl 11 (by decide) lk_60 (fun _ h9 => h9) rfl dX2_root2_38 ?_
    refine lv_iload_n hx hb dX2_root2_41 rfl (lv_at hl 1 rfl) ?_
    refine kb_lald hx hb hK hP 9 1 rfl rfl (k) (rfl) (by omega) (by decide) dX2_root2_42 ?_
    exact kr_l ((u0.1, wdl lv (rl lv), u0.2.1, u0.2.2.1, u0.2.2.2.1, u0.2.2.2.2.1, u0.2.2.2.2.2)) hx hb hr hlocks hK hP hD hS (Lw_root h7 hI_0 h6) dX2_root2_43
  · have c_27 : 1 < (wdl lv i) := kn_nle c_27 (by omega) (by omega)
    have hlt : i < rl lv := rl_nat (by omega) hiN c_27
    refine lv_aload_n hx hb dX2_root2_30 rfl (lv_at hl 0 rfl) ?_
    refine kc_v (As := []) (rest := []) ⟨hx, hb, hml, hown, hts⟩ (m_up l D A r cI cJ u0.1 tl lv (wdl lv i) u0.2.1 cb u0.2.2.1 u0.2.2.2.1 u0.2.2.2.2.1 ro be tp bs sz u0.2.2.2.2.2 mi lv i (lid LB sz) (by omega) (by omega) rfl hI_0 h4 h5) (cwV 0 hts (gMV (List.mem_of_getElem? (i := 84) rfl) (List.mem_of_getElem? (i := 85) rfl) (List.mem_of_getElem? (i := 120) rfl) (List.mem_of_getElem? (i := 0) rfl) (List.mem_of_getElem? (i := 86) rfl)) rfl rfl rfl (by decide +kernel) ⟨Nat.le_of_ble_eq_true rfl, Nat.le_of_ble_eq_true rfl⟩) (va_recv hK hP (ci := 2) (q0 := 0) rfl rfl) hK hP hD hS hZ rfl hl.1 rfl (Nat.le_of_ble_eq_true rfl) ⟨Nat.zero_le _, Nat.zero_le _⟩ dX2_root2_31 (fun u_2 H locs hw_u_2 hP hD hS => ?_)
    have hP : va_P D vwCl (wm r cI cJ u_2.1 tl lv (((wdl lv i) + 1) / 2) (u0.2.1 + 1) cb u_2.2.1 u_2.2.2.1 u_2.2.2.2.1 ro be tp bs sz u_2.2.2.2.2 mi) H := hP
    have hD : va_D A (wm r cI cJ u_2.1 tl lv (((wdl lv i) + 1) / 2) (u0.2.1 + 1) cb u_2.2.1 u_2.2.2.1 u_2.2.2.2.1 ro be tp bs sz u_2.2.2.2.2 mi) := hD
    have hP : va_P D vwCl (wm r cI cJ u_2.1 tl lv (wdl lv (i + 1)) (u0.2.1 + 1) cb u_2.2.1 u_2.2.2.1 u_2.2.2.2.1 ro be tp bs sz u_2.2.2.2.2 mi) H := hP
    have hD : va_D A (wm r cI cJ u_2.1 tl lv (wdl lv (i + 1)) (u0.2.1 + 1) cb u_2.2.1 u_2.2.2.1 u_2.2.2.2.1 ro be tp bs sz u_2.2.2.2.2 mi) := hD
    refine lv_goto (tgt := 22) hx hb dX2_root2_34 (by decide) ?_
    exact ih hlt _ _ _ ⟨(u_2.1, u0.2.1 + 1, u_2.2.1, u_2.2.2.1, u_2.2.2.2.1, u_2.2.2.2.2), hw_u_2, hP, hD, hS, (lv_sub hl [0, 1] rfl)⟩

set_option maxHeartbeats 4000000 in
set_option maxRecDepth 100000 in
theorem m_root2_n (l : Launch) (D : va_G) (A : Nat → Prop) (r : Nat → Nat) (cI cJ : ClassId) (hz tl lv mn vs cb : Nat) (hs su sc ro be tp bs : Nat → Int32) (sz : Nat → Nat) (lw mi : Nat → Int64) (x : Int32) (h1 : lv = 0 ∨ x < 0 ∨ 3 < x) (h9 : lv ≤ 100) : Kl (S := Unit) l yX2_root2 wsX2_root2 { frames := 4, cells := 0, slots := 0, locals := 97 } D vwCl [(cI, .int), (cJ, .long)] A [] [.ref (r 0), .int x] (wm r cI cJ hz tl lv mn vs cb hs su sc ro be tp bs sz lw mi) (fun r _ => r = ((0 : Int64))) (fun _ => (wm r cI cJ hz tl lv mn vs cb hs su sc ro be tp bs sz lw mi)) := by
  refine Met.ofW (cc := cX2_root2) (maxL := 2) (ret := (some .long)) (by decide) rfl ?_
  intro p e s m args below meth c s₁ B hml hv
  obtain ⟨rfl, hP, hK, hD, hZ⟩ := hv
  have hx := B.exec
  have hb := B.bytes
  have hr := B.returns
  have hts := atoms_spec (ws := wsX2_root2) B.pre
  have hown : s.vm.findClass RX2 = some m.cls := findClass_of_methodNamed B.named
  have hlocks := B.notSynchronized
  have hS : va_S A s.heap s.heap [] := va_S.rf
  have hin_2 : ∀ w ∈ u_ws RX2 TX2 16, w ∈ wsX2_root2 := fun w h => List.mem_cons_of_mem _ (List.mem_append_right _ h)
  have lk_83 := hts (.fieldLink RX2 83 "RootDeskModel" "leaves" "I") (inM (List.mem_of_getElem? (i := 27) rfl))
  have hl := lv_entry ([.ref (r 0), .int x]) (n := 2) (Nat.le_of_ble_eq_true rfl)
  rw [lg_entry_eq]
  generalize (lg_sl ([.ref (r 0), .int x]) ++ List.replicate (2 - (lg_sl ([.ref (r 0), .int x])).length) Slot.unset).toArray = ls at hl ⊢
  have hl : lv_has ls 2 [(0, .ref (r 0)), (1, .int x)] := hl
  refine lv_iload_n hx hb dX2_root2_0 rfl (lv_at hl 1 rfl) ?_
  refine lv_if_lt (tgt := 16) hx hb dX2_root2_1 (by decide) (fun c_1 => ?_) (fun c_1 => ?_)
  · refine lv_lconst (v := 0) hx hb dX2_root2_16 (by decide) ?_
    exact kr_l (()) hx hb hr hlocks hK hP hD hS (rfl) dX2_root2_17
  · refine lv_iload_n hx hb dX2_root2_4 rfl (lv_at hl 1 rfl) ?_
    refine lv_iconst (v := ((3 : Int32))) hx hb dX2_root2_5 (by decide) ?_
    refine lv_icmp_gt (tgt := 16) hx hb dX2_root2_6 (by decide) (fun c_6 => ?_) (fun c_6 => ?_)
    · refine lv_lconst (v := 0) hx hb dX2_root2_16 (by decide) ?_
      exact kr_l (()) hx hb hr hlocks hK hP hD hS (rfl) dX2_root2_17
    · refine lv_aload_n hx hb dX2_root2_9 rfl (lv_at hl 0 rfl) ?_
      refine va_get (D := D) (ci := 2) (v := .int (nI lv)) (C := RX2) (T := TX2) (N := 16) hx hb hts hin_2 hown hK hP 0 rfl rfl 8 (by decide) lk_83 (fun _ h9 => h9) rfl dX2_root2_10 ?_
      refine lv_if_ne (tgt := 18) hx hb dX2_root2_13 (by decide) (fun c_13 => absurd h1 (rt_no c_1 c_6 (kn_ne0 c_13 (by omega)))) (fun c_13 => ?_)
      have c_13 : lv = 0 := kn_eq0 c_13 (by omega)
      refine lv_lconst (v := 0) hx hb dX2_root2_16 (by decide) ?_
      exact kr_l (()) hx hb hr hlocks hK hP hD hS (rfl) dX2_root2_17

set_option maxHeartbeats 4000000 in
set_option maxRecDepth 100000 in
theorem m_climb (l : Launch) (D : va_G) (A : Nat → Prop) (r : Nat → Nat) (cI cJ : ClassId) (hz tl lv mn vs cb : Nat) (hs su sc ro be tp bs : Nat → Int32) (sz : Nat → Nat) (lw mi : Nat → Int64) (i0 : Nat) (y : Int32) (LB : Nat → Nat → Int32) (h1 : lv ≤ 100) (h2 : ∀ k, k < lv → sz k ≤ 150) (h3 : ∀ k, k < lv → ∀ i, i < sz k → bs (150 * k + i) = LB k i &&& 255) (h4 : ∀ j, j < 64 → ro j = rwv j) (h5 : ∀ j, j < 8 → be j = fsv j) (h6 : i0 < lv) : Ki (S := (Nat × Nat × Nat × Nat × (Nat → Int32) × (Nat → Int32) × (Nat → Int32) × (Nat → Int64))) l yX2_climb wsX2_climb { frames := 4, cells := 0, slots := 0, locals := 97 } D vwCl [(cI, .int), (cJ, .long)] A [] [.ref (r 0), .int (nI i0), .int y] (wm r cI cJ hz tl lv mn vs cb hs su sc ro be tp bs sz lw mi) (fun r u => clm lv i0 (lid LB sz) y r u.2.2.2.1 u.2.2.2.2.2.2.2) (fun u => (wm r cI cJ u.1 tl lv u.2.1 u.2.2.1 u.2.2.2.1 u.2.2.2.2.1 u.2.2.2.2.2.1 u.2.2.2.2.2.2.1 ro be tp bs sz u.2.2.2.2.2.2.2 mi)) := by
  refine Met.ofW (cc := cX2_climb) (maxL := 5) (ret := (some .int)) (by decide) rfl ?_
  intro p e s m args below meth c s₁ B hml hv
  obtain ⟨rfl, hP, hK, hD, hZ⟩ := hv
  have hx := B.exec
  have hb := B.bytes
  have hr := B.returns
  have hts := atoms_spec (ws := wsX2_climb) B.pre
  have hown : s.vm.findClass RX2 = some m.cls := findClass_of_methodNamed B.named
  have hlocks := B.notSynchronized
  have hS : va_S A s.heap s.heap [] := va_S.rf
  have hin_2 : ∀ w ∈ u_ws RX2 TX2 16, w ∈ wsX2_climb := fun w h => List.mem_cons_of_mem _ (List.mem_append_right _ h)
  have lk_96 := hts (.fieldLink RX2 96 "RootDeskModel" "many" "I") (inM (List.mem_of_getElem? (i := 31) rfl))
  have lk_112 := hts (.fieldLink RX2 112 "RootDeskModel" "climbed" "I") (inM (List.mem_of_getElem? (i := 33) rfl))
  have hl := lv_entry ([.ref (r 0), .int (nI i0), .int y]) (n := 5) (Nat.le_of_ble_eq_true rfl)
  rw [lg_entry_eq]
  generalize (lg_sl ([.ref (r 0), .int (nI i0), .int y]) ++ List.replicate (5 - (lg_sl ([.ref (r 0), .int (nI i0), .int y])).length) Slot.unset).toArray = ls at hl ⊢
  have hl : lv_has ls 5 [(0, .ref (r 0)), (1, .int (nI i0)), (2, .int y)] := hl
  refine lv_aload_n hx hb dX2_climb_0 rfl (lv_at hl 0 rfl) ?_
  refine kc_v (As := []) (rest := []) ⟨hx, hb, hml, hown, hts⟩ (m_lowest l D A r cI cJ hz tl lv mn vs cb hs su sc ro be tp bs sz lw mi LB h1 h2 h3 h4 h5) (cwV 0 hts (gMV (List.mem_of_getElem? (i := 78) rfl) (List.mem_of_getElem? (i := 79) rfl) (List.mem_of_getElem? (i := 118) rfl) (List.mem_of_getElem? (i := 0) rfl) (List.mem_of_getElem? (i := 80) rfl)) rfl rfl rfl (by decide +kernel) ⟨Nat.le_of_ble_eq_true rfl, Nat.le_of_ble_eq_true rfl⟩) (va_recv hK hP (ci := 2) (q0 := 0) rfl rfl) hK hP hD hS hZ rfl hl.1 rfl (Nat.le_of_ble_eq_true rfl) ⟨Nat.zero_le _, Nat.zero_le _⟩ dX2_climb_1 (fun u_1 H locs hw_u_1 hP hD hS => ?_)
  have hP : va_P D vwCl (wm r cI cJ u_1.1 tl lv lv u_1.2.1 cb u_1.2.2.1 u_1.2.2.2.1 u_1.2.2.2.2.1 ro be tp bs sz u_1.2.2.2.2.2 mi) H := hP
  have hD : va_D A (wm r cI cJ u_1.1 tl lv lv u_1.2.1 cb u_1.2.2.1 u_1.2.2.2.1 u_1.2.2.2.2.1 ro be tp bs sz u_1.2.2.2.2.2 mi) := hD
  have hl : lv_has ls 5 [(0, .ref (r 0)), (1, .int (nI (i0 / 2 ^ 0))), (2, .int y)] := by rw [Nat.pow_zero, Nat.div_one]; exact hl
  refine lv_iload_n hx hb dX2_climb_4 rfl (lv_at hl 1 rfl) ?_
  refine lv_istore_n (lv' := [(3, .int (nI (i0 / 2 ^ 0))), (0, .ref (r 0)), (1, .int (nI (i0 / 2 ^ 0))), (2, .int y)]) hx hb dX2_climb_5 rfl hl (by decide) rfl (fun ls hl => ?_)
  refine lv_aload_n hx hb dX2_climb_6 rfl (lv_at hl 1 rfl) ?_
  refine lv_iconst (v := (nI (0))) hx hb dX2_climb_7 (by decide) ?_
  refine va_put (D := D) (ci := 2) (v := .int (nI 0)) (ty := .int) (C := RX2) (T := TX2) (N := 16) hx hb hts hin_2 tyX2 tyX2_ok nmX2 hown hK hP hD hS 0 rfl rfl 14 (by decide) lk_112 (fun _ h9 => h9) rfl (by decide +kernel) rfl rfl (Nat.le_of_ble_eq_true rfl) dX2_climb_8 (fun H locs hP hD hS => ?_)
  have hP : va_P D vwCl (wm r cI cJ u_1.1 tl lv lv u_1.2.1 0 u_1.2.2.1 u_1.2.2.2.1 u_1.2.2.2.2.1 ro be tp bs sz u_1.2.2.2.2.2 mi) H := hP
  have hD : va_D A (wm r cI cJ u_1.1 tl lv lv u_1.2.1 0 u_1.2.2.1 u_1.2.2.2.1 u_1.2.2.2.2.1 ro be tp bs sz u_1.2.2.2.2.2 mi) := hD
  refine kp_lp (hd := 11) (nn := rl lv) (fun (i : Nat) (H : Heap) (locs : List Loc) (ls : Array Slot) => ∃ (u0 : (Nat × Nat × (Nat → Int32) × (Nat → Int32) × (Nat → Int32) × (Nat → Int64))), (Lw lv (lid LB sz) i u0.2.2.2.2.2) ∧ (∀ t, t < i → hbt lv i0 t = true → y ≠ nI (stc lv i0 t)) ∧ va_P D vwCl (wm r cI cJ u0.1 tl lv (wdl lv i) u0.2.1 (stc lv i0 i) u0.2.2.1 u0.2.2.2.1 u0.2.2.2.2.1 ro be tp bs sz u0.2.2.2.2.2 mi) H ∧ va_D A (wm r cI cJ u0.1 tl lv (wdl lv i) u0.2.1 (stc lv i0 i) u0.2.2.1 u0.2.2.2.1 u0.2.2.2.2.1 ro be tp bs sz u0.2.2.2.2.2 mi) ∧ va_S A s.heap H locs ∧ lv_has ls 5 [(0, .ref (r 0)), (2, .int y), (3, .int (nI (i0 / 2 ^ i)))]) ?_ 0 (by omega) _ _ _ ⟨(u_1.1, u_1.2.1, u_1.2.2.1, u_1.2.2.2.1, u_1.2.2.2.2.1, u_1.2.2.2.2.2), hw_u_1.2, fun t ht => absurd ht (Nat.not_lt_zero t), hP, hD, hS, (lv_sub hl [1, 3, 0] rfl)⟩
  intro i hiN H locs ls hI ih
  obtain ⟨u0, hI_0, hI_1, hP, hD, hS, hl⟩ := hI
  have hwi := wdl_le lv i
  have hr8 := rl_lt lv
  have hdv : i0 / 2 ^ i ≤ i0 := Nat.div_le_self _ _
  have hxo := xo_le (i0 / 2 ^ i)
  refine lv_aload_n hx hb dX2_climb_11 rfl (lv_at hl 0 rfl) ?_
  refine va_get (D := D) (ci := 2) (v := .int (nI (wdl lv i))) (C := RX2) (T := TX2) (N := 16) hx hb hts hin_2 hown hK hP 0 rfl rfl 12 (by decide) lk_96 (fun _ h9 => h9) rfl dX2_climb_12 ?_
  refine lv_iconst (v := (nI (1))) hx hb dX2_climb_15 (by decide) ?_
  refine lv_icmp_le (tgt := 77) hx hb dX2_climb_16 (by decide) (fun c_16 => ?_) (fun c_16 => ?_)
  · have c_16 : (wdl lv i) ≤ 1 := kn_le c_16 (by omega) (by omega)
    have e9 : rl lv = i := (rl_at (by omega) hiN c_16).symm
    subst e9
    refine lv_iconst (v := ((-1 : Int32))) hx hb dX2_climb_77 (by decide) ?_
    exact kr_i ((u0.1, wdl lv (rl lv), u0.2.1, stc lv i0 (rl lv), u0.2.2.1, u0.2.2.2.1, u0.2.2.2.2.1, u0.2.2.2.2.2)) hx hb hr hlocks hK hP hD hS (Or.inr ⟨rfl, rfl, hI_1⟩) dX2_climb_78
  · have c_16 : 1 < (wdl lv i) := kn_nle c_16 (by omega) (by omega)
    have hlt : i < rl lv := rl_nat (by omega) hiN c_16
    refine lv_iload_n hx hb dX2_climb_19 rfl (lv_at hl 2 rfl) ?_
    refine lv_iconst (v := (nI (2))) hx hb dX2_climb_20 (by decide) ?_
    refine lv_irem hx hb dX2_climb_21 (by decide) ?_
    refine kp_i (y := (nI (i0 / 2 ^ i % 2))) (pk_rem (by omega) (by decide) (by decide)) ?_
    refine lv_if_ne (tgt := 31) hx hb dX2_climb_22 (by decide) (fun c_22 => ?_) (fun c_22 => ?_)
    · have c_22 : (i0 / 2 ^ i % 2) ≠ 0 := kn_ne0 c_22 (by omega)
      refine lv_iload_n hx hb dX2_climb_31 rfl (lv_at hl 2 rfl) ?_
      refine lv_iconst (v := (nI (1))) hx hb dX2_climb_32 (by decide) ?_
      refine lv_isub hx hb dX2_climb_33 ?_
      refine kp_i (y := (nI (xo (i0 / 2 ^ i)))) (xo_od c_22) ?_
      refine lv_istore (lv' := [(4, .int (nI (xo (i0 / 2 ^ i)))), (0, .ref (r 0)), (2, .int y), (3, .int (nI (i0 / 2 ^ i)))]) hx hb dX2_climb_34 hl (by decide) rfl (fun ls hl => ?_)
      refine lv_iload hx hb dX2_climb_36 (lv_at hl 0 rfl) ?_
      refine lv_aload_n hx hb dX2_climb_38 rfl (lv_at hl 1 rfl) ?_
      refine va_get (D := D) (ci := 2) (v := .int (nI (wdl lv i))) (C := RX2) (T := TX2) (N := 16) hx hb hts hin_2 hown hK hP 0 rfl rfl 12 (by decide) lk_96 (fun _ h9 => h9) rfl dX2_climb_39 ?_
      refine lv_icmp_ge (tgt := 66) hx hb dX2_climb_42 (by decide) (fun c_42 => ?_) (fun c_42 => ?_)
      · have c_42 : (wdl lv i) ≤ (xo (i0 / 2 ^ i)) := kn_le c_42 (by omega) (by omega)
        rw [← stc_f (hb_no c_42)] at hP hD
        have hP : va_P D vwCl (wm r cI cJ u0.1 tl lv (wdl lv i) u0.2.1 (stc lv i0 (i + 1)) u0.2.2.1 u0.2.2.2.1 u0.2.2.2.2.1 ro be tp bs sz u0.2.2.2.2.2 mi) H := hP
        have hD : va_D A (wm r cI cJ u0.1 tl lv (wdl lv i) u0.2.1 (stc lv i0 (i + 1)) u0.2.2.1 u0.2.2.2.1 u0.2.2.2.2.1 ro be tp bs sz u0.2.2.2.2.2 mi) := hD
        refine lv_iload_n hx hb dX2_climb_66 rfl (lv_at hl 3 rfl) ?_
        refine lv_iconst (v := (nI (2))) hx hb dX2_climb_67 (by decide) ?_
        refine lv_idiv hx hb dX2_climb_68 (by decide) ?_
        refine kp_i (y := (nI (i0 / 2 ^ (i + 1)))) (nt_dv2 (by omega)) ?_
        refine lv_istore_n (lv' := [(3, .int (nI (i0 / 2 ^ (i + 1)))), (4, .int (nI (xo (i0 / 2 ^ i)))), (0, .ref (r 0)), (2, .int y)]) hx hb dX2_climb_69 rfl hl (by decide) rfl (fun ls hl => ?_)
        refine lv_aload_n hx hb dX2_climb_70 rfl (lv_at hl 2 rfl) ?_
        refine kc_v (As := []) (rest := []) ⟨hx, hb, hml, hown, hts⟩ (m_up l D A r cI cJ u0.1 tl lv (wdl lv i) u0.2.1 (stc lv i0 (i + 1)) u0.2.2.1 u0.2.2.2.1 u0.2.2.2.2.1 ro be tp bs sz u0.2.2.2.2.2 mi lv i (lid LB sz) (by omega) (by omega) rfl hI_0 h4 h5) (cwV 0 hts (gMV (List.mem_of_getElem? (i := 84) rfl) (List.mem_of_getElem? (i := 85) rfl) (List.mem_of_getElem? (i := 120) rfl) (List.mem_of_getElem? (i := 0) rfl) (List.mem_of_getElem? (i := 86) rfl)) rfl rfl rfl (by decide +kernel) ⟨Nat.le_of_ble_eq_true rfl, Nat.le_of_ble_eq_true rfl⟩) (va_recv hK hP (ci := 2) (q0 := 0) rfl rfl) hK hP hD hS hZ rfl hl.1 rfl (Nat.le_of_ble_eq_true rfl) ⟨Nat.zero_le _, Nat.zero_le _⟩ dX2_climb_71 (fun u_2 H locs hw_u_2 hP hD hS => ?_)
        have hP : va_P D vwCl (wm r cI cJ u_2.1 tl lv (((wdl lv i) + 1) / 2) (u0.2.1 + 1) (stc lv i0 (i + 1)) u_2.2.1 u_2.2.2.1 u_2.2.2.2.1 ro be tp bs sz u_2.2.2.2.2 mi) H := hP
        have hD : va_D A (wm r cI cJ u_2.1 tl lv (((wdl lv i) + 1) / 2) (u0.2.1 + 1) (stc lv i0 (i + 1)) u_2.2.1 u_2.2.2.1 u_2.2.2.2.1 ro be tp bs sz u_2.2.2.2.2 mi) := hD
        have hP : va_P D vwCl (wm r cI cJ u_2.1 tl lv (wdl lv (i + 1)) (u0.2.1 + 1) (stc lv i0 (i + 1)) u_2.2.1 u_2.2.2.1 u_2.2.2.2.1 ro be tp bs sz u_2.2.2.2.2 mi) H := hP
        have hD : va_D A (wm r cI cJ u_2.1 tl lv (wdl lv (i + 1)) (u0.2.1 + 1) (stc lv i0 (i + 1)) u_2.2.1 u_2.2.2.1 u_2.2.2.2.1 ro be tp bs sz u_2.2.2.2.2 mi) := hD
        refine lv_goto (tgt := 11) hx hb dX2_climb_74 (by decide) ?_
        exact ih hlt _ _ _ ⟨(u_2.1, u0.2.1 + 1, u_2.2.1, u_2.2.2.1, u_2.2.2.2.1, u_2.2.2.2.2), hw_u_2, by first | exact clm_t hI_1 c_50 | exact clm_f hI_1 (hb_no c_42), hP, hD, hS, (lv_sub hl [2, 3, 0] rfl)⟩
      · have c_42 : (xo (i0 / 2 ^ i)) < (wdl lv i) := kn_nle c_42 (by omega) (by omega)
        refine lv_aload_n hx hb dX2_climb_45 rfl (lv_at hl 1 rfl) ?_
        refine va_get (D := D) (ci := 2) (v := .int (nI (stc lv i0 i))) (C := RX2) (T := TX2) (N := 16) hx hb hts hin_2 hown hK hP 0 rfl rfl 14 (by decide) lk_112 (fun _ h9 => h9) rfl dX2_climb_46 ?_
        refine lv_iload_n hx hb dX2_climb_49 rfl (lv_at hl 2 rfl) ?_
        refine lv_icmp_ne (tgt := 56) hx hb dX2_climb_50 (by decide) (fun c_50 => ?_) (fun c_50 => ?_)
        · refine lv_aload_n hx hb dX2_climb_56 rfl (lv_at hl 1 rfl) ?_
          refine lv_aload_n hx hb dX2_climb_57 rfl (lv_at hl 1 rfl) ?_
          refine va_get (D := D) (ci := 2) (v := .int (nI (stc lv i0 i))) (C := RX2) (T := TX2) (N := 16) hx hb hts hin_2 hown hK hP 0 rfl rfl 14 (by decide) lk_112 (fun _ h9 => h9) rfl dX2_climb_58 ?_
          refine lv_iconst (v := (nI (1))) hx hb dX2_climb_61 (by decide) ?_
          refine lv_iadd hx hb dX2_climb_62 ?_
          refine kp_i (nI_add _ _) ?_
          refine va_put (D := D) (ci := 2) (v := .int (nI ((stc lv i0 i) + 1))) (ty := .int) (C := RX2) (T := TX2) (N := 16) hx hb hts hin_2 tyX2 tyX2_ok nmX2 hown hK hP hD hS 0 rfl rfl 14 (by decide) lk_112 (fun _ h9 => h9) rfl (by decide +kernel) rfl rfl (Nat.le_of_ble_eq_true rfl) dX2_climb_63 (fun H locs hP hD hS => ?_)
          have hP : va_P D vwCl (wm r cI cJ u0.1 tl lv (wdl lv i) u0.2.1 ((stc lv i0 i) + 1) u0.2.2.1 u0.2.2.2.1 u0.2.2.2.2.1 ro be tp bs sz u0.2.2.2.2.2 mi) H := hP
          have hD : va_D A (wm r cI cJ u0.1 tl lv (wdl lv i) u0.2.1 ((stc lv i0 i) + 1) u0.2.2.1 u0.2.2.2.1 u0.2.2.2.2.1 ro be tp bs sz u0.2.2.2.2.2 mi) := hD
          rw [← stc_t (hb_yes c_42)] at hP hD
          have hP : va_P D vwCl (wm r cI cJ u0.1 tl lv (wdl lv i) u0.2.1 (stc lv i0 (i + 1)) u0.2.2.1 u0.2.2.2.1 u0.2.2.2.2.1 ro be tp bs sz u0.2.2.2.2.2 mi) H := hP
          have hD : va_D A (wm r cI cJ u0.1 tl lv (wdl lv i) u0.2.1 (stc lv i0 (i + 1)) u0.2.2.1 u0.2.2.2.1 u0.2.2.2.2.1 ro be tp bs sz u0.2.2.2.2.2 mi) := hD
          refine lv_iload_n hx hb dX2_climb_66 rfl (lv_at hl 3 rfl) ?_
          refine lv_iconst (v := (nI (2))) hx hb dX2_climb_67 (by decide) ?_
          refine lv_idiv hx hb dX2_climb_68 (by decide) ?_
          refine kp_i (y := (nI (i0 / 2 ^ (i + 1)))) (nt_dv2 (by omega)) ?_
          refine lv_istore_n (lv' := [(3, .int (nI (i0 / 2 ^ (i + 1)))), (4, .int (nI (xo (i0 / 2 ^ i)))), (0, .ref (r 0)), (2, .int y)]) hx hb dX2_climb_69 rfl hl (by decide) rfl (fun ls hl => ?_)
          refine lv_aload_n hx hb dX2_climb_70 rfl (lv_at hl 2 rfl) ?_
          refine kc_v (As := []) (rest := []) ⟨hx, hb, hml, hown, hts⟩ (m_up l D A r cI cJ u0.1 tl lv (wdl lv i) u0.2.1 (stc lv i0 (i + 1)) u0.2.2.1 u0.2.2.2.1 u0.2.2.2.2.1 ro be tp bs sz u0.2.2.2.2.2 mi lv i (lid LB sz) (by omega) (by omega) rfl hI_0 h4 h5) (cwV 0 hts (gMV (List.mem_of_getElem? (i := 84) rfl) (List.mem_of_getElem? (i := 85) rfl) (List.mem_of_getElem? (i := 120) rfl) (List.mem_of_getElem? (i := 0) rfl) (List.mem_of_getElem? (i := 86) rfl)) rfl rfl rfl (by decide +kernel) ⟨Nat.le_of_ble_eq_true rfl, Nat.le_of_ble_eq_true rfl⟩) (va_recv hK hP (ci := 2) (q0 := 0) rfl rfl) hK hP hD hS hZ rfl hl.1 rfl (Nat.le_of_ble_eq_true rfl) ⟨Nat.zero_le _, Nat.zero_le _⟩ dX2_climb_71 (fun u_3 H locs hw_u_3 hP hD hS => ?_)
          have hP : va_P D vwCl (wm r cI cJ u_3.1 tl lv (((wdl lv i) + 1) / 2) (u0.2.1 + 1) (stc lv i0 (i + 1)) u_3.2.1 u_3.2.2.1 u_3.2.2.2.1 ro be tp bs sz u_3.2.2.2.2 mi) H := hP
          have hD : va_D A (wm r cI cJ u_3.1 tl lv (((wdl lv i) + 1) / 2) (u0.2.1 + 1) (stc lv i0 (i + 1)) u_3.2.1 u_3.2.2.1 u_3.2.2.2.1 ro be tp bs sz u_3.2.2.2.2 mi) := hD
          have hP : va_P D vwCl (wm r cI cJ u_3.1 tl lv (wdl lv (i + 1)) (u0.2.1 + 1) (stc lv i0 (i + 1)) u_3.2.1 u_3.2.2.1 u_3.2.2.2.1 ro be tp bs sz u_3.2.2.2.2 mi) H := hP
          have hD : va_D A (wm r cI cJ u_3.1 tl lv (wdl lv (i + 1)) (u0.2.1 + 1) (stc lv i0 (i + 1)) u_3.2.1 u_3.2.2.1 u_3.2.2.2.1 ro be tp bs sz u_3.2.2.2.2 mi) := hD
          refine lv_goto (tgt := 11) hx hb dX2_climb_74 (by decide) ?_
          exact ih hlt _ _ _ ⟨(u_3.1, u0.2.1 + 1, u_3.2.1, u_3.2.2.1, u_3.2.2.2.1, u_3.2.2.2.2), hw_u_3, by first | exact clm_t hI_1 c_50 | exact clm_f hI_1 (hb_no c_42), hP, hD, hS, (lv_sub hl [2, 3, 0] rfl)⟩
        · refine lv_iload hx hb dX2_climb_53 (lv_at hl 0 rfl) ?_
          exact kr_i ((u0.1, wdl lv i, u0.2.1, stc lv i0 i, u0.2.2.1, u0.2.2.2.1, u0.2.2.2.2.1, u0.2.2.2.2.2)) hx hb hr hlocks hK hP hD hS (Or.inl ⟨i, hlt, hb_yes c_42, c_50.symm, rfl, hI_0⟩) dX2_climb_55
    · have c_22 : (i0 / 2 ^ i % 2) = 0 := kn_eq0 c_22 (by omega)
      refine lv_iload_n hx hb dX2_climb_25 rfl (lv_at hl 2 rfl) ?_
      refine lv_iconst (v := (nI (1))) hx hb dX2_climb_26 (by decide) ?_
      refine lv_iadd hx hb dX2_climb_27 ?_
      refine kp_i (y := (nI (xo (i0 / 2 ^ i)))) (xo_ev c_22) ?_
      refine lv_goto (tgt := 34) hx hb dX2_climb_28 (by decide) ?_
      refine lv_istore (lv' := [(4, .int (nI (xo (i0 / 2 ^ i)))), (0, .ref (r 0)), (2, .int y), (3, .int (nI (i0 / 2 ^ i)))]) hx hb dX2_climb_34 hl (by decide) rfl (fun ls hl => ?_)
      refine lv_iload hx hb dX2_climb_36 (lv_at hl 0 rfl) ?_
      refine lv_aload_n hx hb dX2_climb_38 rfl (lv_at hl 1 rfl) ?_
      refine va_get (D := D) (ci := 2) (v := .int (nI (wdl lv i))) (C := RX2) (T := TX2) (N := 16) hx hb hts hin_2 hown hK hP 0 rfl rfl 12 (by decide) lk_96 (fun _ h9 => h9) rfl dX2_climb_39 ?_
      refine lv_icmp_ge (tgt := 66) hx hb dX2_climb_42 (by decide) (fun c_42 => ?_) (fun c_42 => ?_)
      · have c_42 : (wdl lv i) ≤ (xo (i0 / 2 ^ i)) := kn_le c_42 (by omega) (by omega)
        rw [← stc_f (hb_no c_42)] at hP hD
        have hP : va_P D vwCl (wm r cI cJ u0.1 tl lv (wdl lv i) u0.2.1 (stc lv i0 (i + 1)) u0.2.2.1 u0.2.2.2.1 u0.2.2.2.2.1 ro be tp bs sz u0.2.2.2.2.2 mi) H := hP
        have hD : va_D A (wm r cI cJ u0.1 tl lv (wdl lv i) u0.2.1 (stc lv i0 (i + 1)) u0.2.2.1 u0.2.2.2.1 u0.2.2.2.2.1 ro be tp bs sz u0.2.2.2.2.2 mi) := hD
        refine lv_iload_n hx hb dX2_climb_66 rfl (lv_at hl 3 rfl) ?_
        refine lv_iconst (v := (nI (2))) hx hb dX2_climb_67 (by decide) ?_
        refine lv_idiv hx hb dX2_climb_68 (by decide) ?_
        refine kp_i (y := (nI (i0 / 2 ^ (i + 1)))) (nt_dv2 (by omega)) ?_
        refine lv_istore_n (lv' := [(3, .int (nI (i0 / 2 ^ (i + 1)))), (4, .int (nI (xo (i0 / 2 ^ i)))), (0, .ref (r 0)), (2, .int y)]) hx hb dX2_climb_69 rfl hl (by decide) rfl (fun ls hl => ?_)
        refine lv_aload_n hx hb dX2_climb_70 rfl (lv_at hl 2 rfl) ?_
        refine kc_v (As := []) (rest := []) ⟨hx, hb, hml, hown, hts⟩ (m_up l D A r cI cJ u0.1 tl lv (wdl lv i) u0.2.1 (stc lv i0 (i + 1)) u0.2.2.1 u0.2.2.2.1 u0.2.2.2.2.1 ro be tp bs sz u0.2.2.2.2.2 mi lv i (lid LB sz) (by omega) (by omega) rfl hI_0 h4 h5) (cwV 0 hts (gMV (List.mem_of_getElem? (i := 84) rfl) (List.mem_of_getElem? (i := 85) rfl) (List.mem_of_getElem? (i := 120) rfl) (List.mem_of_getElem? (i := 0) rfl) (List.mem_of_getElem? (i := 86) rfl)) rfl rfl rfl (by decide +kernel) ⟨Nat.le_of_ble_eq_true rfl, Nat.le_of_ble_eq_true rfl⟩) (va_recv hK hP (ci := 2) (q0 := 0) rfl rfl) hK hP hD hS hZ rfl hl.1 rfl (Nat.le_of_ble_eq_true rfl) ⟨Nat.zero_le _, Nat.zero_le _⟩ dX2_climb_71 (fun u_4 H locs hw_u_4 hP hD hS => ?_)
        have hP : va_P D vwCl (wm r cI cJ u_4.1 tl lv (((wdl lv i) + 1) / 2) (u0.2.1 + 1) (stc lv i0 (i + 1)) u_4.2.1 u_4.2.2.1 u_4.2.2.2.1 ro be tp bs sz u_4.2.2.2.2 mi) H := hP
        have hD : va_D A (wm r cI cJ u_4.1 tl lv (((wdl lv i) + 1) / 2) (u0.2.1 + 1) (stc lv i0 (i + 1)) u_4.2.1 u_4.2.2.1 u_4.2.2.2.1 ro be tp bs sz u_4.2.2.2.2 mi) := hD
        have hP : va_P D vwCl (wm r cI cJ u_4.1 tl lv (wdl lv (i + 1)) (u0.2.1 + 1) (stc lv i0 (i + 1)) u_4.2.1 u_4.2.2.1 u_4.2.2.2.1 ro be tp bs sz u_4.2.2.2.2 mi) H := hP
        have hD : va_D A (wm r cI cJ u_4.1 tl lv (wdl lv (i + 1)) (u0.2.1 + 1) (stc lv i0 (i + 1)) u_4.2.1 u_4.2.2.1 u_4.2.2.2.1 ro be tp bs sz u_4.2.2.2.2 mi) := hD
        refine lv_goto (tgt := 11) hx hb dX2_climb_74 (by decide) ?_
        exact ih hlt _ _ _ ⟨(u_4.1, u0.2.1 + 1, u_4.2.1, u_4.2.2.1, u_4.2.2.2.1, u_4.2.2.2.2), hw_u_4, by first | exact clm_t hI_1 c_50 | exact clm_f hI_1 (hb_no c_42), hP, hD, hS, (lv_sub hl [2, 3, 0] rfl)⟩
      · have c_42 : (xo (i0 / 2 ^ i)) < (wdl lv i) := kn_nle c_42 (by omega) (by omega)
        refine lv_aload_n hx hb dX2_climb_45 rfl (lv_at hl 1 rfl) ?_
        refine va_get (D := D) (ci := 2) (v := .int (nI (stc lv i0 i))) (C := RX2) (T := TX2) (N := 16) hx hb hts hin_2 hown hK hP 0 rfl rfl 14 (by decide) lk_112 (fun _ h9 => h9) rfl dX2_climb_46 ?_
        refine lv_iload_n hx hb dX2_climb_49 rfl (lv_at hl 2 rfl) ?_
        refine lv_icmp_ne (tgt := 56) hx hb dX2_climb_50 (by decide) (fun c_50 => ?_) (fun c_50 => ?_)
        · refine lv_aload_n hx hb dX2_climb_56 rfl (lv_at hl 1 rfl) ?_
          refine lv_aload_n hx hb dX2_climb_57 rfl (lv_at hl 1 rfl) ?_
          refine va_get (D := D) (ci := 2) (v := .int (nI (stc lv i0 i))) (C := RX2) (T := TX2) (N := 16) hx hb hts hin_2 hown hK hP 0 rfl rfl 14 (by decide) lk_112 (fun _ h9 => h9) rfl dX2_climb_58 ?_
          refine lv_iconst (v := (nI (1))) hx hb dX2_climb_61 (by decide) ?_
          refine lv_iadd hx hb dX2_climb_62 ?_
          refine kp_i (nI_add _ _) ?_
          refine va_put (D := D) (ci := 2) (v := .int (nI ((stc lv i0 i) + 1))) (ty := .int) (C := RX2) (T := TX2) (N := 16) hx hb hts hin_2 tyX2 tyX2_ok nmX2 hown hK hP hD hS 0 rfl rfl 14 (by decide) lk_112 (fun _ h9 => h9) rfl (by decide +kernel) rfl rfl (Nat.le_of_ble_eq_true rfl) dX2_climb_63 (fun H locs hP hD hS => ?_)
          have hP : va_P D vwCl (wm r cI cJ u0.1 tl lv (wdl lv i) u0.2.1 ((stc lv i0 i) + 1) u0.2.2.1 u0.2.2.2.1 u0.2.2.2.2.1 ro be tp bs sz u0.2.2.2.2.2 mi) H := hP
          have hD : va_D A (wm r cI cJ u0.1 tl lv (wdl lv i) u0.2.1 ((stc lv i0 i) + 1) u0.2.2.1 u0.2.2.2.1 u0.2.2.2.2.1 ro be tp bs sz u0.2.2.2.2.2 mi) := hD
          rw [← stc_t (hb_yes c_42)] at hP hD
          have hP : va_P D vwCl (wm r cI cJ u0.1 tl lv (wdl lv i) u0.2.1 (stc lv i0 (i + 1)) u0.2.2.1 u0.2.2.2.1 u0.2.2.2.2.1 ro be tp bs sz u0.2.2.2.2.2 mi) H := hP
          have hD : va_D A (wm r cI cJ u0.1 tl lv (wdl lv i) u0.2.1 (stc lv i0 (i + 1)) u0.2.2.1 u0.2.2.2.1 u0.2.2.2.2.1 ro be tp bs sz u0.2.2.2.2.2 mi) := hD
          refine lv_iload_n hx hb dX2_climb_66 rfl (lv_at hl 3 rfl) ?_
          refine lv_iconst (v := (nI (2))) hx hb dX2_climb_67 (by decide) ?_
          refine lv_idiv hx hb dX2_climb_68 (by decide) ?_
          refine kp_i (y := (nI (i0 / 2 ^ (i + 1)))) (nt_dv2 (by omega)) ?_
          refine lv_istore_n (lv' := [(3, .int (nI (i0 / 2 ^ (i + 1)))), (4, .int (nI (xo (i0 / 2 ^ i)))), (0, .ref (r 0)), (2, .int y)]) hx hb dX2_climb_69 rfl hl (by decide) rfl (fun ls hl => ?_)
          refine lv_aload_n hx hb dX2_climb_70 rfl (lv_at hl 2 rfl) ?_
          refine kc_v (As := []) (rest := []) ⟨hx, hb, hml, hown, hts⟩ (m_up l D A r cI cJ u0.1 tl lv (wdl lv i) u0.2.1 (stc lv i0 (i + 1)) u0.2.2.1 u0.2.2.2.1 u0.2.2.2.2.1 ro be tp bs sz u0.2.2.2.2.2 mi lv i (lid LB sz) (by omega) (by omega) rfl hI_0 h4 h5) (cwV 0 hts (gMV (List.mem_of_getElem? (i := 84) rfl) (List.mem_of_getElem? (i := 85) rfl) (List.mem_of_getElem? (i := 120) rfl) (List.mem_of_getElem? (i := 0) rfl) (List.mem_of_getElem? (i := 86) rfl)) rfl rfl rfl (by decide +kernel) ⟨Nat.le_of_ble_eq_true rfl, Nat.le_of_ble_eq_true rfl⟩) (va_recv hK hP (ci := 2) (q0 := 0) rfl rfl) hK hP hD hS hZ rfl hl.1 rfl (Nat.le_of_ble_eq_true rfl) ⟨Nat.zero_le _, Nat.zero_le _⟩ dX2_climb_71 (fun u_5 H locs hw_u_5 hP hD hS => ?_)
          have hP : va_P D vwCl (wm r cI cJ u_5.1 tl lv (((wdl lv i) + 1) / 2) (u0.2.1 + 1) (stc lv i0 (i + 1)) u_5.2.1 u_5.2.2.1 u_5.2.2.2.1 ro be tp bs sz u_5.2.2.2.2 mi) H := hP
          have hD : va_D A (wm r cI cJ u_5.1 tl lv (((wdl lv i) + 1) / 2) (u0.2.1 + 1) (stc lv i0 (i + 1)) u_5.2.1 u_5.2.2.1 u_5.2.2.2.1 ro be tp bs sz u_5.2.2.2.2 mi) := hD
          have hP : va_P D vwCl (wm r cI cJ u_5.1 tl lv (wdl lv (i + 1)) (u0.2.1 + 1) (stc lv i0 (i + 1)) u_5.2.1 u_5.2.2.1 u_5.2.2.2.1 ro be tp bs sz u_5.2.2.2.2 mi) H := hP
          have hD : va_D A (wm r cI cJ u_5.1 tl lv (wdl lv (i + 1)) (u0.2.1 + 1) (stc lv i0 (i + 1)) u_5.2.1 u_5.2.2.1 u_5.2.2.2.1 ro be tp bs sz u_5.2.2.2.2 mi) := hD
          refine lv_goto (tgt := 11) hx hb dX2_climb_74 (by decide) ?_
          exact ih hlt _ _ _ ⟨(u_5.1, u0.2.1 + 1, u_5.2.1, u_5.2.2.1, u_5.2.2.2.1, u_5.2.2.2.2), hw_u_5, by first | exact clm_t hI_1 c_50 | exact clm_f hI_1 (hb_no c_42), hP, hD, hS, (lv_sub hl [2, 3, 0] rfl)⟩
        · refine lv_iload hx hb dX2_climb_53 (lv_at hl 0 rfl) ?_
          exact kr_i ((u0.1, wdl lv i, u0.2.1, stc lv i0 i, u0.2.2.1, u0.2.2.2.1, u0.2.2.2.2.1, u0.2.2.2.2.2)) hx hb hr hlocks hK hP hD hS (Or.inl ⟨i, hlt, hb_yes c_42, c_50.symm, rfl, hI_0⟩) dX2_climb_55

set_option maxHeartbeats 4000000 in
set_option maxRecDepth 100000 in
theorem m_isLeaf (l : Launch) (D : va_G) (A : Nat → Prop) (r : Nat → Nat) (cI cJ : ClassId) (hz tl lv mn vs cb : Nat) (hs su sc ro be tp bs : Nat → Int32) (sz : Nat → Nat) (lw mi : Nat → Int64) (x : Int32) : Ki (S := Unit) l yX2_isLeaf wsX2_isLeaf { frames := 0, cells := 0, slots := 0, locals := 0 } D vwCl [(cI, .int), (cJ, .long)] A [] [.ref (r 0), .int x] (wm r cI cJ hz tl lv mn vs cb hs su sc ro be tp bs sz lw mi) (fun r _ => r = (bz (lf (x) lv))) (fun _ => (wm r cI cJ hz tl lv mn vs cb hs su sc ro be tp bs sz lw mi)) := by
  refine Met.ofW (cc := cX2_isLeaf) (maxL := 2) (ret := (some .boolean)) (by decide) rfl ?_
  intro p e s m args below meth c s₁ B hml hv
  obtain ⟨rfl, hP, hK, hD, hZ⟩ := hv
  have hx := B.exec
  have hb := B.bytes
  have hr := B.returns
  have hts := atoms_spec (ws := wsX2_isLeaf) B.pre
  have hown : s.vm.findClass RX2 = some m.cls := findClass_of_methodNamed B.named
  have hlocks := B.notSynchronized
  have hS : va_S A s.heap s.heap [] := va_S.rf
  have hin_2 : ∀ w ∈ u_ws RX2 TX2 16, w ∈ wsX2_isLeaf := fun w h => List.mem_cons_of_mem _ (List.mem_append_right _ h)
  have lk_83 := hts (.fieldLink RX2 83 "RootDeskModel" "leaves" "I") (inM (List.mem_of_getElem? (i := 27) rfl))
  have hl := lv_entry ([.ref (r 0), .int x]) (n := 2) (Nat.le_of_ble_eq_true rfl)
  rw [lg_entry_eq]
  generalize (lg_sl ([.ref (r 0), .int x]) ++ List.replicate (2 - (lg_sl ([.ref (r 0), .int x])).length) Slot.unset).toArray = ls at hl ⊢
  have hl : lv_has ls 2 [(0, .ref (r 0)), (1, .int x)] := hl
  refine lv_iload_n hx hb dX2_isLeaf_0 rfl (lv_at hl 1 rfl) ?_
  refine lv_if_lt (tgt := 16) hx hb dX2_isLeaf_1 (by decide) (fun c_1 => ?_) (fun c_1 => ?_)
  · refine lv_iconst (v := ((0 : Int32))) hx hb dX2_isLeaf_16 (by decide) ?_
    exact kr_z (()) hx hb hr hlocks hK hP hD hS (rfl) (by first | exact lf_c c_1 c_9 | exact lf_b c_9 | exact lf_a c_1) dX2_isLeaf_17
  · refine lv_iload_n hx hb dX2_isLeaf_4 rfl (lv_at hl 1 rfl) ?_
    refine lv_aload_n hx hb dX2_isLeaf_5 rfl (lv_at hl 0 rfl) ?_
    refine va_get (D := D) (ci := 2) (v := .int (nI lv)) (C := RX2) (T := TX2) (N := 16) hx hb hts hin_2 hown hK hP 0 rfl rfl 8 (by decide) lk_83 (fun _ h9 => h9) rfl dX2_isLeaf_6 ?_
    refine lv_icmp_ge (tgt := 16) hx hb dX2_isLeaf_9 (by decide) (fun c_9 => ?_) (fun c_9 => ?_)
    · refine lv_iconst (v := ((0 : Int32))) hx hb dX2_isLeaf_16 (by decide) ?_
      exact kr_z (()) hx hb hr hlocks hK hP hD hS (rfl) (by first | exact lf_c c_1 c_9 | exact lf_b c_9 | exact lf_a c_1) dX2_isLeaf_17
    · refine lv_iconst (v := ((1 : Int32))) hx hb dX2_isLeaf_12 (by decide) ?_
      refine lv_goto (tgt := 17) hx hb dX2_isLeaf_13 (by decide) ?_
      exact kr_z (()) hx hb hr hlocks hK hP hD hS (rfl) (by first | exact lf_c c_1 c_9 | exact lf_b c_9 | exact lf_a c_1) dX2_isLeaf_17

set_option maxHeartbeats 4000000 in
set_option maxRecDepth 100000 in
theorem m_way (l : Launch) (D : va_G) (A : Nat → Prop) (r : Nat → Nat) (cI cJ : ClassId) (hz tl lv mn vs cb : Nat) (hs su sc ro be tp bs : Nat → Int32) (sz : Nat → Nat) (lw mi : Nat → Int64) (i0 : Nat) (LB : Nat → Nat → Int32) (h1 : lv ≤ 100) (h2 : ∀ k, k < lv → sz k ≤ 150) (h3 : ∀ k, k < lv → ∀ i, i < sz k → bs (150 * k + i) = LB k i &&& 255) (h4 : ∀ j, j < 64 → ro j = rwv j) (h5 : ∀ j, j < 8 → be j = fsv j) (h6 : i0 < lv) : Ki (S := (Nat × Nat × Nat × Nat × (Nat → Int32) × (Nat → Int32) × (Nat → Int32) × (Nat → Int64))) l yX2_way wsX2_way { frames := 5, cells := 0, slots := 0, locals := 121 } D vwCl [(cI, .int), (cJ, .long)] A [] [.ref (r 0), .int (nI i0)] (wm r cI cJ hz tl lv mn vs cb hs su sc ro be tp bs sz lw mi) (fun r _ => r = nI (stc lv i0 (rl lv))) (fun u => (wm r cI cJ u.1 tl lv u.2.1 u.2.2.1 u.2.2.2.1 u.2.2.2.2.1 u.2.2.2.2.2.1 u.2.2.2.2.2.2.1 ro be tp bs sz u.2.2.2.2.2.2.2 mi)) := by
  refine Met.ofW (cc := cX2_way) (maxL := 2) (ret := (some .int)) (by decide) rfl ?_
  intro p e s m args below meth c s₁ B hml hv
  obtain ⟨rfl, hP, hK, hD, hZ⟩ := hv
  have hx := B.exec
  have hb := B.bytes
  have hr := B.returns
  have hts := atoms_spec (ws := wsX2_way) B.pre
  have hown : s.vm.findClass RX2 = some m.cls := findClass_of_methodNamed B.named
  have hlocks := B.notSynchronized
  have hS : va_S A s.heap s.heap [] := va_S.rf
  have hin_2 : ∀ w ∈ u_ws RX2 TX2 16, w ∈ wsX2_way := fun w h => List.mem_cons_of_mem _ (List.mem_append_right _ h)
  have lk_112 := hts (.fieldLink RX2 112 "RootDeskModel" "climbed" "I") (inM (List.mem_of_getElem? (i := 33) rfl))
  have hl := lv_entry ([.ref (r 0), .int (nI i0)]) (n := 2) (Nat.le_of_ble_eq_true rfl)
  rw [lg_entry_eq]
  generalize (lg_sl ([.ref (r 0), .int (nI i0)]) ++ List.replicate (2 - (lg_sl ([.ref (r 0), .int (nI i0)])).length) Slot.unset).toArray = ls at hl ⊢
  have hl : lv_has ls 2 [(0, .ref (r 0)), (1, .int (nI i0))] := hl
  refine lv_aload_n hx hb dX2_way_0 rfl (lv_at hl 0 rfl) ?_
  refine lv_iload_n hx hb dX2_way_1 rfl (lv_at hl 1 rfl) ?_
  refine kc_i (As := [.int (nI i0)]) (rest := []) ⟨hx, hb, hml, hown, hts⟩ (m_isLeaf l D A r cI cJ hz tl lv mn vs cb hs su sc ro be tp bs sz lw mi ((nI (i0)))) (cwV 1 hts (gMV (List.mem_of_getElem? (i := 69) rfl) (List.mem_of_getElem? (i := 70) rfl) (List.mem_of_getElem? (i := 117) rfl) (List.mem_of_getElem? (i := 0) rfl) (List.mem_of_getElem? (i := 71) rfl)) rfl rfl rfl (by decide +kernel) ⟨Nat.le_of_ble_eq_true rfl, Nat.le_of_ble_eq_true rfl⟩) (va_recv hK hP (ci := 2) (q0 := 0) rfl rfl) hK hP hD hS hZ rfl hl.1 rfl (Nat.le_of_ble_eq_true rfl) ⟨Nat.zero_le _, Nat.zero_le _⟩ dX2_way_2 (fun r_1 _ H locs hw hP hD hS => ?_)
  have hw : r_1 = (bz (lf (nI (i0)) lv)) := hw
  subst hw
  have hP : va_P D vwCl (wm r cI cJ hz tl lv mn vs cb hs su sc ro be tp bs sz lw mi) H := hP
  have hD : va_D A (wm r cI cJ hz tl lv mn vs cb hs su sc ro be tp bs sz lw mi) := hD
  refine lv_if_ne (tgt := 10) hx hb dX2_way_5 (by decide) (fun c_5 => ?_) (fun c_5 => absurd (lf_n (by omega) h6) (by rw [bz_0 c_5]; exact Bool.false_ne_true))
  have c_5 : (lf (nI (i0)) lv) = true := bz_1 c_5
  refine lv_aload_n hx hb dX2_way_10 rfl (lv_at hl 0 rfl) ?_
  refine lv_iload_n hx hb dX2_way_11 rfl (lv_at hl 1 rfl) ?_
  refine lv_iconst (v := ((-1 : Int32))) hx hb dX2_way_12 (by decide) ?_
  refine kc_i (As := [.int (nI i0), .int ((-1 : Int32))]) (rest := []) ⟨hx, hb, hml, hown, hts⟩ (m_climb l D A r cI cJ hz tl lv mn vs cb hs su sc ro be tp bs sz lw mi i0 (((-1 : Int32))) LB h1 h2 h3 h4 h5 h6) (cwV 2 hts (gMV (List.mem_of_getElem? (i := 93) rfl) (List.mem_of_getElem? (i := 94) rfl) (List.mem_of_getElem? (i := 121) rfl) (List.mem_of_getElem? (i := 0) rfl) (List.mem_of_getElem? (i := 95) rfl)) rfl rfl rfl (by decide +kernel) ⟨Nat.le_of_ble_eq_true rfl, Nat.le_of_ble_eq_true rfl⟩) (va_recv hK hP (ci := 2) (q0 := 0) rfl rfl) hK hP hD hS hZ rfl hl.1 rfl (Nat.le_of_ble_eq_true rfl) ⟨Nat.zero_le _, Nat.zero_le _⟩ dX2_way_13 (fun r_3 u_2 H locs hw_u_2 hP hD hS => ?_)
  have hP : va_P D vwCl (wm r cI cJ u_2.1 tl lv u_2.2.1 u_2.2.2.1 u_2.2.2.2.1 u_2.2.2.2.2.1 u_2.2.2.2.2.2.1 u_2.2.2.2.2.2.2.1 ro be tp bs sz u_2.2.2.2.2.2.2.2 mi) H := hP
  have hD : va_D A (wm r cI cJ u_2.1 tl lv u_2.2.1 u_2.2.2.1 u_2.2.2.2.1 u_2.2.2.2.2.1 u_2.2.2.2.2.2.1 u_2.2.2.2.2.2.2.1 ro be tp bs sz u_2.2.2.2.2.2.2.2 mi) := hD
  have hcb := clm_way hw_u_2
  refine lv_pop hx hb dX2_way_16 rfl ?_
  refine lv_aload_n hx hb dX2_way_17 rfl (lv_at hl 0 rfl) ?_
  refine va_get (D := D) (ci := 2) (v := .int (nI (u_2.2.2.2.1))) (C := RX2) (T := TX2) (N := 16) hx hb hts hin_2 hown hK hP 0 rfl rfl 14 (by decide) lk_112 (fun _ h9 => h9) rfl dX2_way_18 ?_
  exact kr_i ((u_2.1, u_2.2.1, u_2.2.2.1, u_2.2.2.2.1, u_2.2.2.2.2.1, u_2.2.2.2.2.2.1, u_2.2.2.2.2.2.2.1, u_2.2.2.2.2.2.2.2)) hx hb hr hlocks hK hP hD hS (by rw [hcb]) dX2_way_21

set_option maxHeartbeats 4000000 in
set_option maxRecDepth 100000 in
theorem m_way_n (l : Launch) (D : va_G) (A : Nat → Prop) (r : Nat → Nat) (cI cJ : ClassId) (hz tl lv mn vs cb : Nat) (hs su sc ro be tp bs : Nat → Int32) (sz : Nat → Nat) (lw mi : Nat → Int64) (x : Int32) (h1 : lf x lv = false) : Ki (S := Unit) l yX2_way wsX2_way { frames := 5, cells := 0, slots := 0, locals := 121 } D vwCl [(cI, .int), (cJ, .long)] A [] [.ref (r 0), .int x] (wm r cI cJ hz tl lv mn vs cb hs su sc ro be tp bs sz lw mi) (fun r _ => r = ((-1 : Int32))) (fun _ => (wm r cI cJ hz tl lv mn vs cb hs su sc ro be tp bs sz lw mi)) := by
  refine Met.ofW (cc := cX2_way) (maxL := 2) (ret := (some .int)) (by decide) rfl ?_
  intro p e s m args below meth c s₁ B hml hv
  obtain ⟨rfl, hP, hK, hD, hZ⟩ := hv
  have hx := B.exec
  have hb := B.bytes
  have hr := B.returns
  have hts := atoms_spec (ws := wsX2_way) B.pre
  have hown : s.vm.findClass RX2 = some m.cls := findClass_of_methodNamed B.named
  have hlocks := B.notSynchronized
  have hS : va_S A s.heap s.heap [] := va_S.rf
  have hl := lv_entry ([.ref (r 0), .int x]) (n := 2) (Nat.le_of_ble_eq_true rfl)
  rw [lg_entry_eq]
  generalize (lg_sl ([.ref (r 0), .int x]) ++ List.replicate (2 - (lg_sl ([.ref (r 0), .int x])).length) Slot.unset).toArray = ls at hl ⊢
  have hl : lv_has ls 2 [(0, .ref (r 0)), (1, .int x)] := hl
  refine lv_aload_n hx hb dX2_way_0 rfl (lv_at hl 0 rfl) ?_
  refine lv_iload_n hx hb dX2_way_1 rfl (lv_at hl 1 rfl) ?_
  refine kc_i (As := [.int x]) (rest := []) ⟨hx, hb, hml, hown, hts⟩ (m_isLeaf l D A r cI cJ hz tl lv mn vs cb hs su sc ro be tp bs sz lw mi ((x))) (cwV 1 hts (gMV (List.mem_of_getElem? (i := 69) rfl) (List.mem_of_getElem? (i := 70) rfl) (List.mem_of_getElem? (i := 117) rfl) (List.mem_of_getElem? (i := 0) rfl) (List.mem_of_getElem? (i := 71) rfl)) rfl rfl rfl (by decide +kernel) ⟨Nat.le_of_ble_eq_true rfl, Nat.le_of_ble_eq_true rfl⟩) (va_recv hK hP (ci := 2) (q0 := 0) rfl rfl) hK hP hD hS hZ rfl hl.1 rfl (Nat.le_of_ble_eq_true rfl) ⟨Nat.zero_le _, Nat.zero_le _⟩ dX2_way_2 (fun r_1 _ H locs hw hP hD hS => ?_)
  have hw : r_1 = (bz (lf (x) lv)) := hw
  subst hw
  have hP : va_P D vwCl (wm r cI cJ hz tl lv mn vs cb hs su sc ro be tp bs sz lw mi) H := hP
  have hD : va_D A (wm r cI cJ hz tl lv mn vs cb hs su sc ro be tp bs sz lw mi) := hD
  refine lv_if_ne (tgt := 10) hx hb dX2_way_5 (by decide) (fun c_5 => absurd (bz_1 c_5) (by rw [h1]; exact Bool.false_ne_true)) (fun c_5 => ?_)
  have c_5 : (lf (x) lv) = false := bz_0 c_5
  refine lv_iconst (v := ((-1 : Int32))) hx hb dX2_way_8 (by decide) ?_
  exact kr_i (()) hx hb hr hlocks hK hP hD hS (rfl) dX2_way_9

set_option maxHeartbeats 4000000 in
set_option maxRecDepth 100000 in
theorem m_isLeft (l : Launch) (D : va_G) (A : Nat → Prop) (r : Nat → Nat) (cI cJ : ClassId) (hz tl lv mn vs cb : Nat) (hs su sc ro be tp bs : Nat → Int32) (sz : Nat → Nat) (lw mi : Nat → Int64) (x : Int32) (y : Int32) (LB : Nat → Nat → Int32) (h1 : lv ≤ 100) (h2 : ∀ k, k < lv → sz k ≤ 150) (h3 : ∀ k, k < lv → ∀ i, i < sz k → bs (150 * k + i) = LB k i &&& 255) (h4 : ∀ j, j < 64 → ro j = rwv j) (h5 : ∀ j, j < 8 → be j = fsv j) : Ki (S := (Nat × Nat × Nat × Nat × (Nat → Int32) × (Nat → Int32) × (Nat → Int32) × (Nat → Int64))) l yX2_isLeft wsX2_isLeft { frames := 5, cells := 0, slots := 0, locals := 121 } D vwCl [(cI, .int), (cJ, .long)] A [] [.ref (r 0), .int x, .int y] (wm r cI cJ hz tl lv mn vs cb hs su sc ro be tp bs sz lw mi) (fun r _ => ism lv x y r) (fun u => (wm r cI cJ u.1 tl lv u.2.1 u.2.2.1 u.2.2.2.1 u.2.2.2.2.1 u.2.2.2.2.2.1 u.2.2.2.2.2.2.1 ro be tp bs sz u.2.2.2.2.2.2.2 mi)) := by
  refine Met.ofW (cc := cX2_isLeft) (maxL := 4) (ret := (some .int)) (by decide) rfl ?_
  intro p e s m args below meth c s₁ B hml hv
  obtain ⟨rfl, hP, hK, hD, hZ⟩ := hv
  have hx := B.exec
  have hb := B.bytes
  have hr := B.returns
  have hts := atoms_spec (ws := wsX2_isLeft) B.pre
  have hown : s.vm.findClass RX2 = some m.cls := findClass_of_methodNamed B.named
  have hlocks := B.notSynchronized
  have hS : va_S A s.heap s.heap [] := va_S.rf
  have hl := lv_entry ([.ref (r 0), .int x, .int y]) (n := 4) (Nat.le_of_ble_eq_true rfl)
  rw [lg_entry_eq]
  generalize (lg_sl ([.ref (r 0), .int x, .int y]) ++ List.replicate (4 - (lg_sl ([.ref (r 0), .int x, .int y])).length) Slot.unset).toArray = ls at hl ⊢
  have hl : lv_has ls 4 [(0, .ref (r 0)), (1, .int x), (2, .int y)] := hl
  refine lv_aload_n hx hb dX2_isLeft_0 rfl (lv_at hl 0 rfl) ?_
  refine lv_iload_n hx hb dX2_isLeft_1 rfl (lv_at hl 1 rfl) ?_
  refine kc_i (As := [.int x]) (rest := []) ⟨hx, hb, hml, hown, hts⟩ (m_isLeaf l D A r cI cJ hz tl lv mn vs cb hs su sc ro be tp bs sz lw mi ((x))) (cwV 1 hts (gMV (List.mem_of_getElem? (i := 69) rfl) (List.mem_of_getElem? (i := 70) rfl) (List.mem_of_getElem? (i := 117) rfl) (List.mem_of_getElem? (i := 0) rfl) (List.mem_of_getElem? (i := 71) rfl)) rfl rfl rfl (by decide +kernel) ⟨Nat.le_of_ble_eq_true rfl, Nat.le_of_ble_eq_true rfl⟩) (va_recv hK hP (ci := 2) (q0 := 0) rfl rfl) hK hP hD hS hZ rfl hl.1 rfl (Nat.le_of_ble_eq_true rfl) ⟨Nat.zero_le _, Nat.zero_le _⟩ dX2_isLeft_2 (fun r_1 _ H locs hw hP hD hS => ?_)
  have hw : r_1 = (bz (lf (x) lv)) := hw
  subst hw
  have hP : va_P D vwCl (wm r cI cJ hz tl lv mn vs cb hs su sc ro be tp bs sz lw mi) H := hP
  have hD : va_D A (wm r cI cJ hz tl lv mn vs cb hs su sc ro be tp bs sz lw mi) := hD
  refine lv_if_eq (tgt := 12) hx hb dX2_isLeft_5 (by decide) (fun c_5 => ?_) (fun c_5 => ?_)
  · have c_5 : (lf (x) lv) = false := bz_0 c_5
    refine lv_iconst (v := ((-1 : Int32))) hx hb dX2_isLeft_12 (by decide) ?_
    exact kr_i ((hz, mn, vs, cb, hs, su, sc, lw)) hx hb hr hlocks hK hP hD hS (by first | exact Or.inr ⟨rfl, non_b (nlt0 c_9)⟩ | exact Or.inr ⟨rfl, non_a (by omega) c_5⟩) dX2_isLeft_13
  · have c_5 : (lf (x) lv) = true := bz_1 c_5
    refine lv_iload_n hx hb dX2_isLeft_8 rfl (lv_at hl 2 rfl) ?_
    refine lv_if_ge (tgt := 14) hx hb dX2_isLeft_9 (by decide) (fun c_9 => ?_) (fun c_9 => ?_)
    · obtain ⟨i0, h6, rfl⟩ := lf_t (by omega) c_5
      obtain ⟨J, hJ, rfl⟩ := kn_of0 c_9
      refine lv_aload_n hx hb dX2_isLeft_14 rfl (lv_at hl 0 rfl) ?_
      refine lv_iload_n hx hb dX2_isLeft_15 rfl (lv_at hl 1 rfl) ?_
      refine lv_iload_n hx hb dX2_isLeft_16 rfl (lv_at hl 2 rfl) ?_
      refine kc_i (As := [.int (nI i0), .int (nI J)]) (rest := []) ⟨hx, hb, hml, hown, hts⟩ (m_climb l D A r cI cJ hz tl lv mn vs cb hs su sc ro be tp bs sz lw mi i0 ((nI J)) LB h1 h2 h3 h4 h5 h6) (cwV 2 hts (gMV (List.mem_of_getElem? (i := 93) rfl) (List.mem_of_getElem? (i := 94) rfl) (List.mem_of_getElem? (i := 121) rfl) (List.mem_of_getElem? (i := 0) rfl) (List.mem_of_getElem? (i := 95) rfl)) rfl rfl rfl (by decide +kernel) ⟨Nat.le_of_ble_eq_true rfl, Nat.le_of_ble_eq_true rfl⟩) (va_recv hK hP (ci := 2) (q0 := 0) rfl rfl) hK hP hD hS hZ rfl hl.1 rfl (Nat.le_of_ble_eq_true rfl) ⟨Nat.zero_le _, Nat.zero_le _⟩ dX2_isLeft_17 (fun r_3 u_2 H locs hw_u_2 hP hD hS => ?_)
      have hP : va_P D vwCl (wm r cI cJ u_2.1 tl lv u_2.2.1 u_2.2.2.1 u_2.2.2.2.1 u_2.2.2.2.2.1 u_2.2.2.2.2.2.1 u_2.2.2.2.2.2.2.1 ro be tp bs sz u_2.2.2.2.2.2.2.2 mi) H := hP
      have hD : va_D A (wm r cI cJ u_2.1 tl lv u_2.2.1 u_2.2.2.1 u_2.2.2.2.1 u_2.2.2.2.2.1 u_2.2.2.2.2.2.1 u_2.2.2.2.2.2.2.1 ro be tp bs sz u_2.2.2.2.2.2.2.2 mi) := hD
      refine lv_istore_n (lv' := [(3, .int r_3), (0, .ref (r 0)), (1, .int (nI i0)), (2, .int (nI J))]) hx hb dX2_isLeft_20 rfl hl (by decide) rfl (fun ls hl => ?_)
      refine lv_iload_n hx hb dX2_isLeft_21 rfl (lv_at hl 0 rfl) ?_
      refine lv_if_ge (tgt := 29) hx hb dX2_isLeft_22 (by decide) (fun c_22 => ?_) (fun c_22 => ?_)
      · obtain ⟨t, ht, hb8, hs8, rfl, hLw⟩ := clm_ge hw_u_2 c_22
        have hdv : i0 / 2 ^ t ≤ i0 := Nat.div_le_self _ _
        have hxo := xo_le (i0 / 2 ^ t)
        refine lv_iload_n hx hb dX2_isLeft_29 rfl (lv_at hl 0 rfl) ?_
        refine lv_iconst (v := (nI (2))) hx hb dX2_isLeft_30 (by decide) ?_
        refine lv_irem hx hb dX2_isLeft_31 (by decide) ?_
        refine kp_i (y := (nI (xo (i0 / 2 ^ t) % 2))) (pk_rem (by omega) (by decide) (by decide)) ?_
        refine lv_if_ne (tgt := 39) hx hb dX2_isLeft_32 (by decide) (fun c_32 => ?_) (fun c_32 => ?_)
        · have c_32 : (xo (i0 / 2 ^ t) % 2) ≠ 0 := kn_ne0 c_32 (by omega)
          refine lv_iconst (v := ((0 : Int32))) hx hb dX2_isLeft_39 (by decide) ?_
          exact kr_i ((u_2.1, u_2.2.1, u_2.2.2.1, u_2.2.2.2.1, u_2.2.2.2.2.1, u_2.2.2.2.2.2.1, u_2.2.2.2.2.2.2.1, u_2.2.2.2.2.2.2.2)) hx hb hr hlocks hK hP hD hS (by first | exact Or.inl ⟨i0, J, t, rfl, rfl, h6, hJ, ht, hb8, bes_e hJ ht hs8, il_1 c_32⟩ | exact Or.inl ⟨i0, J, t, rfl, rfl, h6, hJ, ht, hb8, bes_e hJ ht hs8, il_0 c_32⟩ | exact Or.inr ⟨rfl, non_n h1 h6 hJ hno⟩) dX2_isLeft_40
        · have c_32 : (xo (i0 / 2 ^ t) % 2) = 0 := kn_eq0 c_32 (by omega)
          refine lv_iconst (v := ((1 : Int32))) hx hb dX2_isLeft_35 (by decide) ?_
          refine lv_goto (tgt := 40) hx hb dX2_isLeft_36 (by decide) ?_
          exact kr_i ((u_2.1, u_2.2.1, u_2.2.2.1, u_2.2.2.2.1, u_2.2.2.2.2.1, u_2.2.2.2.2.2.1, u_2.2.2.2.2.2.2.1, u_2.2.2.2.2.2.2.2)) hx hb hr hlocks hK hP hD hS (by first | exact Or.inl ⟨i0, J, t, rfl, rfl, h6, hJ, ht, hb8, bes_e hJ ht hs8, il_1 c_32⟩ | exact Or.inl ⟨i0, J, t, rfl, rfl, h6, hJ, ht, hb8, bes_e hJ ht hs8, il_0 c_32⟩ | exact Or.inr ⟨rfl, non_n h1 h6 hJ hno⟩) dX2_isLeft_40
      · have hno := clm_lt h1 h6 hw_u_2 c_22
        refine lv_iconst (v := ((-1 : Int32))) hx hb dX2_isLeft_25 (by decide) ?_
        refine lv_goto (tgt := 40) hx hb dX2_isLeft_26 (by decide) ?_
        exact kr_i ((u_2.1, u_2.2.1, u_2.2.2.1, u_2.2.2.2.1, u_2.2.2.2.2.1, u_2.2.2.2.2.2.1, u_2.2.2.2.2.2.2.1, u_2.2.2.2.2.2.2.2)) hx hb hr hlocks hK hP hD hS (by first | exact Or.inl ⟨i0, J, t, rfl, rfl, h6, hJ, ht, hb8, bes_e hJ ht hs8, il_1 c_32⟩ | exact Or.inl ⟨i0, J, t, rfl, rfl, h6, hJ, ht, hb8, bes_e hJ ht hs8, il_0 c_32⟩ | exact Or.inr ⟨rfl, non_n h1 h6 hJ hno⟩) dX2_isLeft_40
    · refine lv_iconst (v := ((-1 : Int32))) hx hb dX2_isLeft_12 (by decide) ?_
      exact kr_i ((hz, mn, vs, cb, hs, su, sc, lw)) hx hb hr hlocks hK hP hD hS (by first | exact Or.inr ⟨rfl, non_b (nlt0 c_9)⟩ | exact Or.inr ⟨rfl, non_a (by omega) c_5⟩) dX2_isLeft_13

set_option maxHeartbeats 4000000 in
set_option maxRecDepth 100000 in
theorem m_beside (l : Launch) (D : va_G) (A : Nat → Prop) (r : Nat → Nat) (cI cJ : ClassId) (hz tl lv mn vs cb : Nat) (hs su sc ro be tp bs : Nat → Int32) (sz : Nat → Nat) (lw mi : Nat → Int64) (x : Int32) (y : Int32) (z : Int32) (LB : Nat → Nat → Int32) (h1 : lv ≤ 100) (h2 : ∀ k, k < lv → sz k ≤ 150) (h3 : ∀ k, k < lv → ∀ i, i < sz k → bs (150 * k + i) = LB k i &&& 255) (h4 : ∀ j, j < 64 → ro j = rwv j) (h5 : ∀ j, j < 8 → be j = fsv j) : Kl (S := (Nat × Nat × Nat × Nat × (Nat → Int32) × (Nat → Int32) × (Nat → Int32) × (Nat → Int64))) l yX2_beside wsX2_beside { frames := 5, cells := 0, slots := 0, locals := 121 } D vwCl [(cI, .int), (cJ, .long)] A [] [.ref (r 0), .int x, .int y, .int z] (wm r cI cJ hz tl lv mn vs cb hs su sc ro be tp bs sz lw mi) (fun r _ => bsm lv (lid LB sz) x y z r) (fun u => (wm r cI cJ u.1 tl lv u.2.1 u.2.2.1 u.2.2.2.1 u.2.2.2.2.1 u.2.2.2.2.2.1 u.2.2.2.2.2.2.1 ro be tp bs sz u.2.2.2.2.2.2.2 mi)) := by
  refine Met.ofW (cc := cX2_beside) (maxL := 5) (ret := (some .long)) (by decide) rfl ?_
  intro p e s m args below meth c s₁ B hml hv
  obtain ⟨rfl, hP, hK, hD, hZ⟩ := hv
  have hx := B.exec
  have hb := B.bytes
  have hr := B.returns
  have hts := atoms_spec (ws := wsX2_beside) B.pre
  have hown : s.vm.findClass RX2 = some m.cls := findClass_of_methodNamed B.named
  have hlocks := B.notSynchronized
  have hS : va_S A s.heap s.heap [] := va_S.rf
  have hin_2 : ∀ w ∈ u_ws RX2 TX2 16, w ∈ wsX2_beside := fun w h => List.mem_cons_of_mem _ (List.mem_append_right _ h)
  have lk_60 := hts (.fieldLink RX2 60 "RootDeskModel" "level" "[J") (inM (List.mem_of_getElem? (i := 30) rfl))
  have hl := lv_entry ([.ref (r 0), .int x, .int y, .int z]) (n := 5) (Nat.le_of_ble_eq_true rfl)
  rw [lg_entry_eq]
  generalize (lg_sl ([.ref (r 0), .int x, .int y, .int z]) ++ List.replicate (5 - (lg_sl ([.ref (r 0), .int x, .int y, .int z])).length) Slot.unset).toArray = ls at hl ⊢
  have hl : lv_has ls 5 [(0, .ref (r 0)), (1, .int x), (2, .int y), (3, .int z)] := hl
  refine lv_aload_n hx hb dX2_beside_0 rfl (lv_at hl 0 rfl) ?_
  refine lv_iload_n hx hb dX2_beside_1 rfl (lv_at hl 1 rfl) ?_
  refine kc_i (As := [.int x]) (rest := []) ⟨hx, hb, hml, hown, hts⟩ (m_isLeaf l D A r cI cJ hz tl lv mn vs cb hs su sc ro be tp bs sz lw mi ((x))) (cwV 1 hts (gMV (List.mem_of_getElem? (i := 69) rfl) (List.mem_of_getElem? (i := 70) rfl) (List.mem_of_getElem? (i := 117) rfl) (List.mem_of_getElem? (i := 0) rfl) (List.mem_of_getElem? (i := 71) rfl)) rfl rfl rfl (by decide +kernel) ⟨Nat.le_of_ble_eq_true rfl, Nat.le_of_ble_eq_true rfl⟩) (va_recv hK hP (ci := 2) (q0 := 0) rfl rfl) hK hP hD hS hZ rfl hl.1 rfl (Nat.le_of_ble_eq_true rfl) ⟨Nat.zero_le _, Nat.zero_le _⟩ dX2_beside_2 (fun r_1 _ H locs hw hP hD hS => ?_)
  have hw : r_1 = (bz (lf (x) lv)) := hw
  subst hw
  have hP : va_P D vwCl (wm r cI cJ hz tl lv mn vs cb hs su sc ro be tp bs sz lw mi) H := hP
  have hD : va_D A (wm r cI cJ hz tl lv mn vs cb hs su sc ro be tp bs sz lw mi) := hD
  refine lv_if_eq (tgt := 21) hx hb dX2_beside_5 (by decide) (fun c_5 => ?_) (fun c_5 => ?_)
  · have c_5 : (lf (x) lv) = false := bz_0 c_5
    refine lv_lconst (v := 0) hx hb dX2_beside_21 (by decide) ?_
    exact kr_l ((hz, mn, vs, cb, hs, su, sc, lw)) hx hb hr hlocks hK hP hD hS (by first | exact Or.inr ⟨rfl, Or.inl (Or.inr c_18)⟩ | exact Or.inr ⟨rfl, Or.inl (Or.inl c_13)⟩ | exact Or.inr ⟨rfl, Or.inr (non_b c_9)⟩ | exact Or.inr ⟨rfl, Or.inr (non_a (by omega) c_5)⟩) dX2_beside_22
  · have c_5 : (lf (x) lv) = true := bz_1 c_5
    refine lv_iload_n hx hb dX2_beside_8 rfl (lv_at hl 2 rfl) ?_
    refine lv_if_lt (tgt := 21) hx hb dX2_beside_9 (by decide) (fun c_9 => ?_) (fun c_9 => ?_)
    · refine lv_lconst (v := 0) hx hb dX2_beside_21 (by decide) ?_
      exact kr_l ((hz, mn, vs, cb, hs, su, sc, lw)) hx hb hr hlocks hK hP hD hS (by first | exact Or.inr ⟨rfl, Or.inl (Or.inr c_18)⟩ | exact Or.inr ⟨rfl, Or.inl (Or.inl c_13)⟩ | exact Or.inr ⟨rfl, Or.inr (non_b c_9)⟩ | exact Or.inr ⟨rfl, Or.inr (non_a (by omega) c_5)⟩) dX2_beside_22
    · refine lv_iload_n hx hb dX2_beside_12 rfl (lv_at hl 3 rfl) ?_
      refine lv_if_lt (tgt := 21) hx hb dX2_beside_13 (by decide) (fun c_13 => ?_) (fun c_13 => ?_)
      · refine lv_lconst (v := 0) hx hb dX2_beside_21 (by decide) ?_
        exact kr_l ((hz, mn, vs, cb, hs, su, sc, lw)) hx hb hr hlocks hK hP hD hS (by first | exact Or.inr ⟨rfl, Or.inl (Or.inr c_18)⟩ | exact Or.inr ⟨rfl, Or.inl (Or.inl c_13)⟩ | exact Or.inr ⟨rfl, Or.inr (non_b c_9)⟩ | exact Or.inr ⟨rfl, Or.inr (non_a (by omega) c_5)⟩) dX2_beside_22
      · refine lv_iload_n hx hb dX2_beside_16 rfl (lv_at hl 3 rfl) ?_
        refine lv_iconst (v := ((3 : Int32))) hx hb dX2_beside_17 (by decide) ?_
        refine lv_icmp_le (tgt := 23) hx hb dX2_beside_18 (by decide) (fun c_18 => ?_) (fun c_18 => ?_)
        · obtain ⟨i0, h6, rfl⟩ := lf_t (by omega) c_5
          obtain ⟨J, hJ, rfl⟩ := nI_of c_9
          obtain ⟨k, hk, rfl⟩ := nI_of2 (n := 3) (M := 3) (by decide) c_13 c_18
          refine lv_aload_n hx hb dX2_beside_23 rfl (lv_at hl 0 rfl) ?_
          refine lv_iload_n hx hb dX2_beside_24 rfl (lv_at hl 1 rfl) ?_
          refine lv_iload_n hx hb dX2_beside_25 rfl (lv_at hl 2 rfl) ?_
          refine kc_i (As := [.int (nI i0), .int (nI J)]) (rest := []) ⟨hx, hb, hml, hown, hts⟩ (m_climb l D A r cI cJ hz tl lv mn vs cb hs su sc ro be tp bs sz lw mi i0 ((nI J)) LB h1 h2 h3 h4 h5 h6) (cwV 2 hts (gMV (List.mem_of_getElem? (i := 93) rfl) (List.mem_of_getElem? (i := 94) rfl) (List.mem_of_getElem? (i := 121) rfl) (List.mem_of_getElem? (i := 0) rfl) (List.mem_of_getElem? (i := 95) rfl)) rfl rfl rfl (by decide +kernel) ⟨Nat.le_of_ble_eq_true rfl, Nat.le_of_ble_eq_true rfl⟩) (va_recv hK hP (ci := 2) (q0 := 0) rfl rfl) hK hP hD hS hZ rfl hl.1 rfl (Nat.le_of_ble_eq_true rfl) ⟨Nat.zero_le _, Nat.zero_le _⟩ dX2_beside_26 (fun r_3 u_2 H locs hw_u_2 hP hD hS => ?_)
          have hP : va_P D vwCl (wm r cI cJ u_2.1 tl lv u_2.2.1 u_2.2.2.1 u_2.2.2.2.1 u_2.2.2.2.2.1 u_2.2.2.2.2.2.1 u_2.2.2.2.2.2.2.1 ro be tp bs sz u_2.2.2.2.2.2.2.2 mi) H := hP
          have hD : va_D A (wm r cI cJ u_2.1 tl lv u_2.2.1 u_2.2.2.1 u_2.2.2.2.1 u_2.2.2.2.2.1 u_2.2.2.2.2.2.1 u_2.2.2.2.2.2.2.1 ro be tp bs sz u_2.2.2.2.2.2.2.2 mi) := hD
          refine lv_istore (lv' := [(4, .int r_3), (0, .ref (r 0)), (1, .int (nI i0)), (2, .int (nI J)), (3, .int (nI k))]) hx hb dX2_beside_29 hl (by decide) rfl (fun ls hl => ?_)
          refine lv_iload hx hb dX2_beside_31 (lv_at hl 0 rfl) ?_
          refine lv_if_ge (tgt := 40) hx hb dX2_beside_33 (by decide) (fun c_33 => ?_) (fun c_33 => ?_)
          · obtain ⟨t, ht, hb8, hs8, rfl, hLw⟩ := clm_ge hw_u_2 c_33
            have hwt := wdl_le lv t
            have hxw : xo (i0 / 2 ^ t) < wdl lv t := of_decide_eq_true hb8
            refine lv_aload_n hx hb dX2_beside_40 rfl (lv_at hl 1 rfl) ?_
            refine va_get (D := D) (ci := 2) (v := .ref (r 9)) (C := RX2) (T := TX2) (N := 16) hx hb hts hin_2 hown hK hP 0 rfl rfl 11 (by decide) lk_60 (fun _ h9 => h9) rfl dX2_beside_41 ?_
            refine lv_iconst (v := (nI (4))) hx hb dX2_beside_44 (by decide) ?_
            refine lv_iload hx hb dX2_beside_45 (lv_at hl 0 rfl) ?_
            refine lv_imul hx hb dX2_beside_47 ?_
            refine kp_i (pk_mul _ _) ?_
            refine lv_iload_n hx hb dX2_beside_48 rfl (lv_at hl 4 rfl) ?_
            refine lv_iadd hx hb dX2_beside_49 ?_
            refine kp_i (nI_add _ _) ?_
            refine kb_lald hx hb hK hP 9 1 rfl rfl ((4 * (xo (i0 / 2 ^ t))) + k) (rfl) (by omega) (by decide) dX2_beside_50 ?_
            exact kr_l ((u_2.1, u_2.2.1, u_2.2.2.1, u_2.2.2.2.1, u_2.2.2.2.2.1, u_2.2.2.2.2.2.1, u_2.2.2.2.2.2.2.1, u_2.2.2.2.2.2.2.2)) hx hb hr hlocks hK hP hD hS (by first | exact Or.inl ⟨i0, J, t, rfl, rfl, h6, hJ, ht, hb8, bes_e hJ ht hs8, (hLw _ hxw _ (by omega)).trans (lw8_e8 hk)⟩ | exact Or.inr ⟨rfl, Or.inr (non_n h1 h6 hJ hno)⟩) dX2_beside_51
          · have hno := clm_lt h1 h6 hw_u_2 c_33
            refine lv_lconst (v := 0) hx hb dX2_beside_36 (by decide) ?_
            refine lv_goto (tgt := 51) hx hb dX2_beside_37 (by decide) ?_
            exact kr_l ((u_2.1, u_2.2.1, u_2.2.2.1, u_2.2.2.2.1, u_2.2.2.2.2.1, u_2.2.2.2.2.2.1, u_2.2.2.2.2.2.2.1, u_2.2.2.2.2.2.2.2)) hx hb hr hlocks hK hP hD hS (by first | exact Or.inl ⟨i0, J, t, rfl, rfl, h6, hJ, ht, hb8, bes_e hJ ht hs8, (hLw _ hxw _ (by omega)).trans (lw8_e8 hk)⟩ | exact Or.inr ⟨rfl, Or.inr (non_n h1 h6 hJ hno)⟩) dX2_beside_51
        · refine lv_lconst (v := 0) hx hb dX2_beside_21 (by decide) ?_
          exact kr_l ((hz, mn, vs, cb, hs, su, sc, lw)) hx hb hr hlocks hK hP hD hS (by first | exact Or.inr ⟨rfl, Or.inl (Or.inr c_18)⟩ | exact Or.inr ⟨rfl, Or.inl (Or.inl c_13)⟩ | exact Or.inr ⟨rfl, Or.inr (non_b c_9)⟩ | exact Or.inr ⟨rfl, Or.inr (non_a (by omega) c_5)⟩) dX2_beside_22
