set_option maxHeartbeats 4000000 in
set_option maxRecDepth 100000 in
theorem m_proves_n (l : Launch) (D : va_G) (A : Nat → Prop) (r : Nat → Nat) (cI cJ : ClassId) (hz tl lv mn vs cb : Nat) (hs su sc ro be tp bs : Nat → Int32) (sz : Nat → Nat) (lw mi : Nat → Int64) (x : Int32) (h1 : lf x lv = false) : Ki (S := Unit) l yX2_proves wsX2_proves { frames := 6, cells := 0, slots := 0, locals := 142 } D vwCl [(cI, .int), (cJ, .long)] A [] [.ref (r 0), .int x] (wm r cI cJ hz tl lv mn vs cb hs su sc ro be tp bs sz lw mi) (fun r _ => r = ((-1 : Int32))) (fun _ => (wm r cI cJ hz tl lv mn vs cb hs su sc ro be tp bs sz lw mi)) := by
  refine Met.ofW (cc := cX2_proves) (maxL := 8) (ret := (some .int)) (by decide) rfl ?_
  intro p e s m args below meth c s₁ B hml hv
  obtain ⟨rfl, hP, hK, hD, hZ⟩ := hv
  have hx := B.exec
  have hb := B.bytes
  have hr := B.returns
  have hts := atoms_spec (ws := wsX2_proves) B.pre
  have hown : s.vm.findClass RX2 = some m.cls := findClass_of_methodNamed B.named
  have hlocks := B.notSynchronized
  have hS : va_S A s.heap s.heap [] := va_S.rf
  have hl := lv_entry ([.ref (r 0), .int x]) (n := 8) (Nat.le_of_ble_eq_true rfl)
  rw [lg_entry_eq]
  generalize (lg_sl ([.ref (r 0), .int x]) ++ List.replicate (8 - (lg_sl ([.ref (r 0), .int x])).length) Slot.unset).toArray = ls at hl ⊢
  have hl : lv_has ls 8 [(0, .ref (r 0)), (1, .int x)] := hl
  refine lv_aload_n hx hb dX2_proves_0 rfl (lv_at hl 0 rfl) ?_
  refine lv_iload_n hx hb dX2_proves_1 rfl (lv_at hl 1 rfl) ?_
  refine kc_i (As := [.int x]) (rest := []) ⟨hx, hb, hml, hown, hts⟩ (m_isLeaf l D A r cI cJ hz tl lv mn vs cb hs su sc ro be tp bs sz lw mi ((x))) (cwV 1 hts (gMV (List.mem_of_getElem? (i := 69) rfl) (List.mem_of_getElem? (i := 70) rfl) (List.mem_of_getElem? (i := 117) rfl) (List.mem_of_getElem? (i := 0) rfl) (List.mem_of_getElem? (i := 71) rfl)) rfl rfl rfl (by decide +kernel) ⟨Nat.le_of_ble_eq_true rfl, Nat.le_of_ble_eq_true rfl⟩) (va_recv hK hP (ci := 2) (q0 := 0) rfl rfl) hK hP hD hS hZ rfl hl.1 rfl (Nat.le_of_ble_eq_true rfl) ⟨Nat.zero_le _, Nat.zero_le _⟩ dX2_proves_2 (fun r_1 _ H locs hw hP hD hS => ?_)
  have hw : r_1 = (bz (lf (x) lv)) := hw
  subst hw
  have hP : va_P D vwCl (wm r cI cJ hz tl lv mn vs cb hs su sc ro be tp bs sz lw mi) H := hP
  have hD : va_D A (wm r cI cJ hz tl lv mn vs cb hs su sc ro be tp bs sz lw mi) := hD
  refine lv_if_ne (tgt := 10) hx hb dX2_proves_5 (by decide) (fun c_5 => absurd (bz_1 c_5) (by rw [h1]; exact Bool.false_ne_true)) (fun c_5 => ?_)
  have c_5 : (lf (x) lv) = false := bz_0 c_5
  refine lv_iconst (v := ((-1 : Int32))) hx hb dX2_proves_8 (by decide) ?_
  exact kr_i (()) hx hb hr hlocks hK hP hD hS (rfl) dX2_proves_9

set_option maxHeartbeats 4000000 in
set_option maxRecDepth 100000 in
theorem m_proves_y (l : Launch) (D : va_G) (A : Nat → Prop) (r : Nat → Nat) (cI cJ : ClassId) (hz tl lv mn vs cb : Nat) (hs su sc ro be tp bs : Nat → Int32) (sz : Nat → Nat) (lw mi : Nat → Int64) (i0 : Nat) (LB : Nat → Nat → Int32) (h1 : lv ≤ 100) (h2 : ∀ k, k < lv → sz k ≤ 150) (h3 : ∀ k, k < lv → ∀ i, i < sz k → bs (150 * k + i) = LB k i &&& 255) (h4 : ∀ j, j < 64 → ro j = rwv j) (h5 : ∀ j, j < 8 → be j = fsv j) (h6 : i0 < lv) (T : Nat → Int32) (h7 : tl ≤ 150) (h8 : ∀ j, j < tl → tp j = T j &&& 255) : Ki (S := (Nat × Nat × Nat × Nat × (Nat → Int32) × (Nat → Int32) × (Nat → Int32) × (Nat → Int64) × (Nat → Int64))) l yX2_proves wsX2_proves { frames := 6, cells := 0, slots := 0, locals := 142 } D vwCl [(cI, .int), (cJ, .long)] A [] [.ref (r 0), .int (nI i0)] (wm r cI cJ hz tl lv mn vs cb hs su sc ro be tp bs sz lw mi) (fun r _ => r = bz (sm (pvn lv i0 (lid LB sz) (lfh T tl) (rl lv)) (nv lv (lid LB sz) (rl lv) 0) 8)) (fun u => (wm r cI cJ u.1 tl lv u.2.1 u.2.2.1 u.2.2.2.1 u.2.2.2.2.1 u.2.2.2.2.2.1 u.2.2.2.2.2.2.1 ro be tp bs sz u.2.2.2.2.2.2.2.1 u.2.2.2.2.2.2.2.2)) := by
  refine Met.ofW (cc := cX2_proves) (maxL := 8) (ret := (some .int)) (by decide) rfl ?_
  intro p e s m args below meth c s₁ B hml hv
  obtain ⟨rfl, hP, hK, hD, hZ⟩ := hv
  have hx := B.exec
  have hb := B.bytes
  have hr := B.returns
  have hts := atoms_spec (ws := wsX2_proves) B.pre
  have hown : s.vm.findClass RX2 = some m.cls := findClass_of_methodNamed B.named
  have hlocks := B.notSynchronized
  have hS : va_S A s.heap s.heap [] := va_S.rf
  have hin_2 : ∀ w ∈ u_ws RX2 TX2 16, w ∈ wsX2_proves := fun w h => List.mem_cons_of_mem _ (List.mem_append_right _ h)
  have lk_25 := hts (.fieldLink RX2 25 "RootDeskModel" "hashSize" "I") (inM (List.mem_of_getElem? (i := 20) rfl))
  have lk_60 := hts (.fieldLink RX2 60 "RootDeskModel" "level" "[J") (inM (List.mem_of_getElem? (i := 30) rfl))
  have lk_64 := hts (.fieldLink RX2 64 "RootDeskModel" "mine" "[J") (inM (List.mem_of_getElem? (i := 34) rfl))
  have hl := lv_entry ([.ref (r 0), .int (nI i0)]) (n := 8) (Nat.le_of_ble_eq_true rfl)
  rw [lg_entry_eq]
  generalize (lg_sl ([.ref (r 0), .int (nI i0)]) ++ List.replicate (8 - (lg_sl ([.ref (r 0), .int (nI i0)])).length) Slot.unset).toArray = ls at hl ⊢
  have hl : lv_has ls 8 [(0, .ref (r 0)), (1, .int (nI i0))] := hl
  refine lv_aload_n hx hb dX2_proves_0 rfl (lv_at hl 0 rfl) ?_
  refine lv_iload_n hx hb dX2_proves_1 rfl (lv_at hl 1 rfl) ?_
  refine kc_i (As := [.int (nI i0)]) (rest := []) ⟨hx, hb, hml, hown, hts⟩ (m_isLeaf l D A r cI cJ hz tl lv mn vs cb hs su sc ro be tp bs sz lw mi ((nI (i0)))) (cwV 1 hts (gMV (List.mem_of_getElem? (i := 69) rfl) (List.mem_of_getElem? (i := 70) rfl) (List.mem_of_getElem? (i := 117) rfl) (List.mem_of_getElem? (i := 0) rfl) (List.mem_of_getElem? (i := 71) rfl)) rfl rfl rfl (by decide +kernel) ⟨Nat.le_of_ble_eq_true rfl, Nat.le_of_ble_eq_true rfl⟩) (va_recv hK hP (ci := 2) (q0 := 0) rfl rfl) hK hP hD hS hZ rfl hl.1 rfl (Nat.le_of_ble_eq_true rfl) ⟨Nat.zero_le _, Nat.zero_le _⟩ dX2_proves_2 (fun r_1 _ H locs hw hP hD hS => ?_)
  have hw : r_1 = (bz (lf (nI (i0)) lv)) := hw
  subst hw
  have hP : va_P D vwCl (wm r cI cJ hz tl lv mn vs cb hs su sc ro be tp bs sz lw mi) H := hP
  have hD : va_D A (wm r cI cJ hz tl lv mn vs cb hs su sc ro be tp bs sz lw mi) := hD
  refine lv_if_ne (tgt := 10) hx hb dX2_proves_5 (by decide) (fun c_5 => ?_) (fun c_5 => absurd (lf_n (by omega) h6) (by rw [bz_0 c_5]; exact Bool.false_ne_true))
  have c_5 : (lf (nI (i0)) lv) = true := bz_1 c_5
  refine lv_aload_n hx hb dX2_proves_10 rfl (lv_at hl 0 rfl) ?_
  refine lv_iconst (v := (nI (0))) hx hb dX2_proves_11 (by decide) ?_
  refine va_put (D := D) (ci := 2) (v := .int (nI 0)) (ty := .int) (C := RX2) (T := TX2) (N := 16) hx hb hts hin_2 tyX2 tyX2_ok nmX2 hown hK hP hD hS 0 rfl rfl 1 (by decide) lk_25 (fun _ h9 => h9) rfl (by decide +kernel) rfl rfl (Nat.le_of_ble_eq_true rfl) dX2_proves_12 (fun H locs hP hD hS => ?_)
  have hP : va_P D vwCl (wm r cI cJ 0 tl lv mn vs cb hs su sc ro be tp bs sz lw mi) H := hP
  have hD : va_D A (wm r cI cJ 0 tl lv mn vs cb hs su sc ro be tp bs sz lw mi) := hD
  refine lv_aload_n hx hb dX2_proves_15 rfl (lv_at hl 0 rfl) ?_
  refine lv_iconst (v := ((0 : Int32))) hx hb dX2_proves_16 (by decide) ?_
  refine kc_v (As := [.int ((0 : Int32))]) (rest := []) ⟨hx, hb, hml, hown, hts⟩ (m_hashByte l D A r cI cJ 0 tl lv mn vs cb hs su sc ro be tp bs sz lw mi (((0 : Int32))) (by omega)) (cwV 1 hts (gMV (List.mem_of_getElem? (i := 45) rfl) (List.mem_of_getElem? (i := 46) rfl) (List.mem_of_getElem? (i := 112) rfl) (List.mem_of_getElem? (i := 0) rfl) (List.mem_of_getElem? (i := 47) rfl)) rfl rfl rfl (by decide +kernel) ⟨Nat.le_of_ble_eq_true rfl, Nat.le_of_ble_eq_true rfl⟩) (va_recv hK hP (ci := 2) (q0 := 0) rfl rfl) hK hP hD hS hZ rfl hl.1 rfl (Nat.le_of_ble_eq_true rfl) ⟨Nat.zero_le _, Nat.zero_le _⟩ dX2_proves_17 (fun _ H locs _ hP hD hS => ?_)
  have hP : va_P D vwCl (wm r cI cJ (0 + 1) tl lv mn vs cb (upd hs 0 (((0 : Int32)) &&& 255)) su sc ro be tp bs sz lw mi) H := hP
  have hD : va_D A (wm r cI cJ (0 + 1) tl lv mn vs cb (upd hs 0 (((0 : Int32)) &&& 255)) su sc ro be tp bs sz lw mi) := hD
  refine lv_aload_n hx hb dX2_proves_20 rfl (lv_at hl 0 rfl) ?_
  refine kc_v (As := []) (rest := []) ⟨hx, hb, hml, hown, hts⟩ (m_hashTape l D A r cI cJ (0 + 1) tl lv mn vs cb (upd hs 0 (((0 : Int32)) &&& 255)) su sc ro be tp bs sz lw mi (fun _ => (0 : Int32).toInt8.toInt32) (fun j => (T j).toInt8.toInt32) h7 (by omega) one_rel h4 h5 (fun j hj => (h8 j hj).trans (b255 _).symm)) (cwV 0 hts (gMV (List.mem_of_getElem? (i := 42) rfl) (List.mem_of_getElem? (i := 43) rfl) (List.mem_of_getElem? (i := 111) rfl) (List.mem_of_getElem? (i := 0) rfl) (List.mem_of_getElem? (i := 44) rfl)) rfl rfl rfl (by decide +kernel) ⟨Nat.le_of_ble_eq_true rfl, Nat.le_of_ble_eq_true rfl⟩) (va_recv hK hP (ci := 2) (q0 := 0) rfl rfl) hK hP hD hS hZ rfl hl.1 rfl (Nat.le_of_ble_eq_true rfl) ⟨Nat.zero_le _, Nat.zero_le _⟩ dX2_proves_21 (fun u_3 H locs hw_u_3 hP hD hS => ?_)
  have hP : va_P D vwCl (wm r cI cJ u_3.1 tl lv mn vs cb u_3.2.1 u_3.2.2.1 u_3.2.2.2 ro be tp bs sz lw mi) H := hP
  have hD : va_D A (wm r cI cJ u_3.1 tl lv mn vs cb u_3.2.1 u_3.2.2.1 u_3.2.2.2 ro be tp bs sz lw mi) := hD
  have hF := mine_m hw_u_3
  rw [← catL_0 mi 0 (lw8 u_3.2.2.1)] at hP hD
  refine lv_iconst (v := (nI (0))) hx hb dX2_proves_24 (by decide) ?_
  refine lv_istore_n (lv' := [(2, .int (nI 0)), (0, .ref (r 0)), (1, .int (nI i0))]) hx hb dX2_proves_25 rfl hl (by decide) rfl (fun ls hl => ?_)
  refine kp_lp (hd := 26) (nn := 4) (fun (a : Nat) (H : Heap) (locs : List Loc) (ls : Array Slot) => va_P D vwCl (wm r cI cJ u_3.1 tl lv mn vs cb u_3.2.1 u_3.2.2.1 u_3.2.2.2 ro be tp bs sz lw (catL mi 0 (lw8 u_3.2.2.1) a)) H ∧ va_D A (wm r cI cJ u_3.1 tl lv mn vs cb u_3.2.1 u_3.2.2.1 u_3.2.2.2 ro be tp bs sz lw (catL mi 0 (lw8 u_3.2.2.1) a)) ∧ va_S A s.heap H locs ∧ lv_has ls 8 [(0, .ref (r 0)), (1, .int (nI i0)), (2, .int (nI a))]) ?_ 0 (by omega) _ _ _ ⟨hP, hD, hS, (lv_sub hl [1, 2, 0] rfl)⟩
  intro a haN H locs ls hI ih_a
  obtain ⟨hP, hD, hS, hl⟩ := hI
  refine lv_iload_n hx hb dX2_proves_26 rfl (lv_at hl 2 rfl) ?_
  refine lv_iconst (v := (nI (4))) hx hb dX2_proves_27 (by decide) ?_
  refine lv_icmp_ge (tgt := 48) hx hb dX2_proves_28 (by decide) (fun c_28 => ?_) (fun c_28 => ?_)
  · have c_28 : 4 ≤ a := kn_le c_28 (by omega) (by omega)
    have e9 : 4 = a := by omega
    subst e9
    refine lv_aload_n hx hb dX2_proves_48 rfl (lv_at hl 0 rfl) ?_
    refine lv_iload_n hx hb dX2_proves_49 rfl (lv_at hl 1 rfl) ?_
    refine kc_i (As := [.int (nI i0)]) (rest := []) ⟨hx, hb, hml, hown, hts⟩ (m_way l D A r cI cJ u_3.1 tl lv mn vs cb u_3.2.1 u_3.2.2.1 u_3.2.2.2 ro be tp bs sz lw (catL mi 0 (lw8 u_3.2.2.1) 4) i0 LB h1 h2 h3 h4 h5 h6) (cwV 1 hts (gMV (List.mem_of_getElem? (i := 105) rfl) (List.mem_of_getElem? (i := 90) rfl) (List.mem_of_getElem? (i := 91) rfl) (List.mem_of_getElem? (i := 0) rfl) (List.mem_of_getElem? (i := 92) rfl)) rfl rfl rfl (by decide +kernel) ⟨Nat.le_of_ble_eq_true rfl, Nat.le_of_ble_eq_true rfl⟩) (va_recv hK hP (ci := 2) (q0 := 0) rfl rfl) hK hP hD hS hZ rfl hl.1 rfl (Nat.le_of_ble_eq_true rfl) ⟨Nat.zero_le _, Nat.zero_le _⟩ dX2_proves_50 (fun r_5 u_4 H locs hw_u_4 hP hD hS => ?_)
    have hP : va_P D vwCl (wm r cI cJ u_4.1 tl lv u_4.2.1 u_4.2.2.1 u_4.2.2.2.1 u_4.2.2.2.2.1 u_4.2.2.2.2.2.1 u_4.2.2.2.2.2.2.1 ro be tp bs sz u_4.2.2.2.2.2.2.2 (catL mi 0 (lw8 u_3.2.2.1) 4)) H := hP
    have hD : va_D A (wm r cI cJ u_4.1 tl lv u_4.2.1 u_4.2.2.1 u_4.2.2.2.1 u_4.2.2.2.2.1 u_4.2.2.2.2.2.1 u_4.2.2.2.2.2.2.1 ro be tp bs sz u_4.2.2.2.2.2.2.2 (catL mi 0 (lw8 u_3.2.2.1) 4)) := hD
    have hr_u_4 : r_5 = (nI (stc lv i0 (rl lv))) := hw_u_4
    subst hr_u_4
    refine lv_istore_n (lv' := [(2, .int (nI (stc lv i0 (rl lv)))), (0, .ref (r 0)), (1, .int (nI i0))]) hx hb dX2_proves_53 rfl hl (by decide) rfl (fun ls hl => ?_)
    refine lv_iconst (v := (nI (0))) hx hb dX2_proves_54 (by decide) ?_
    refine lv_istore_n (lv' := [(3, .int (nI 0)), (2, .int (nI (stc lv i0 (rl lv)))), (0, .ref (r 0)), (1, .int (nI i0))]) hx hb dX2_proves_55 rfl hl (by decide) rfl (fun ls hl => ?_)
    refine kp_lp (hd := 56) (nn := stc lv i0 (rl lv)) (fun (j : Nat) (H : Heap) (locs : List Loc) (ls : Array Slot) => ∃ (u0 : (Nat × Nat × Nat × Nat × (Nat → Int32) × (Nat → Int32) × (Nat → Int32) × (Nat → Int64) × (Nat → Int64))), (∀ t, t ≤ rl lv → stc lv i0 t = j → ∀ a, a < 4 → u0.2.2.2.2.2.2.2.2 a = lw8 (pvn lv i0 (lid LB sz) (lfh T tl) t) a) ∧ va_P D vwCl (wm r cI cJ u0.1 tl lv u0.2.1 u0.2.2.1 u0.2.2.2.1 u0.2.2.2.2.1 u0.2.2.2.2.2.1 u0.2.2.2.2.2.2.1 ro be tp bs sz u0.2.2.2.2.2.2.2.1 u0.2.2.2.2.2.2.2.2) H ∧ va_D A (wm r cI cJ u0.1 tl lv u0.2.1 u0.2.2.1 u0.2.2.2.1 u0.2.2.2.2.1 u0.2.2.2.2.2.1 u0.2.2.2.2.2.2.1 ro be tp bs sz u0.2.2.2.2.2.2.2.1 u0.2.2.2.2.2.2.2.2) ∧ va_S A s.heap H locs ∧ lv_has ls 8 [(0, .ref (r 0)), (1, .int (nI i0)), (2, .int (nI (stc lv i0 (rl lv)))), (3, .int (nI j))]) ?_ 0 (by omega) _ _ _ ⟨(u_4.1, u_4.2.1, u_4.2.2.1, u_4.2.2.2.1, u_4.2.2.2.2.1, u_4.2.2.2.2.2.1, u_4.2.2.2.2.2.2.1, u_4.2.2.2.2.2.2.2, catL mi 0 (lw8 u_3.2.2.1) 4), fun t _ ht a ha => pv_init hF ht ha, hP, hD, hS, (lv_sub hl [2, 3, 1, 0] rfl)⟩
    intro j hjN H locs ls hI ih_j
    obtain ⟨u0, hI_0, hP, hD, hS, hl⟩ := hI
    have hst8 := stc_le lv i0 (rl lv)
    have hr8 := rl_lt lv
    refine lv_iload_n hx hb dX2_proves_56 rfl (lv_at hl 3 rfl) ?_
    refine lv_iload_n hx hb dX2_proves_57 rfl (lv_at hl 2 rfl) ?_
    refine lv_icmp_ge (tgt := 222) hx hb dX2_proves_58 (by decide) (fun c_58 => ?_) (fun c_58 => ?_)
    · have c_58 : (stc lv i0 (rl lv)) ≤ j := kn_le c_58 (by omega) (by omega)
      have e9 : stc lv i0 (rl lv) = j := by omega
      subst e9
      have hfin := hI_0 (rl lv) (Nat.le_refl _) rfl
      refine lv_iconst (v := (nI (1))) hx hb dX2_proves_222 (by decide) ?_
      refine kp_i (y := (bz (sml u0.2.2.2.2.2.2.2.2 (lw8 (nv lv (lid LB sz) (rl lv) 0)) 0))) (rfl) ?_
      refine lv_istore_n (lv' := [(3, .int (bz (sml u0.2.2.2.2.2.2.2.2 (lw8 (nv lv (lid LB sz) (rl lv) 0)) 0))), (0, .ref (r 0)), (1, .int (nI i0)), (2, .int (nI (stc lv i0 (rl lv))))]) hx hb dX2_proves_223 rfl hl (by decide) rfl (fun ls hl => ?_)
      refine lv_iconst (v := (nI (0))) hx hb dX2_proves_224 (by decide) ?_
      refine lv_istore (lv' := [(4, .int (nI 0)), (3, .int (bz (sml u0.2.2.2.2.2.2.2.2 (lw8 (nv lv (lid LB sz) (rl lv) 0)) 0))), (0, .ref (r 0)), (1, .int (nI i0)), (2, .int (nI (stc lv i0 (rl lv))))]) hx hb dX2_proves_225 hl (by decide) rfl (fun ls hl => ?_)
      refine kp_lp (hd := 227) (nn := 4) (fun (k : Nat) (H : Heap) (locs : List Loc) (ls : Array Slot) => ∃ (v0 : (Nat × Nat × Nat × (Nat → Int32) × (Nat → Int32) × (Nat → Int32) × (Nat → Int64))), va_P D vwCl (wm r cI cJ v0.1 tl lv v0.2.1 v0.2.2.1 u0.2.2.2.1 v0.2.2.2.1 v0.2.2.2.2.1 v0.2.2.2.2.2.1 ro be tp bs sz v0.2.2.2.2.2.2 u0.2.2.2.2.2.2.2.2) H ∧ va_D A (wm r cI cJ v0.1 tl lv v0.2.1 v0.2.2.1 u0.2.2.2.1 v0.2.2.2.1 v0.2.2.2.2.1 v0.2.2.2.2.2.1 ro be tp bs sz v0.2.2.2.2.2.2 u0.2.2.2.2.2.2.2.2) ∧ va_S A s.heap H locs ∧ lv_has ls 8 [(0, .ref (r 0)), (3, .int (bz (sml u0.2.2.2.2.2.2.2.2 (lw8 (nv lv (lid LB sz) (rl lv) 0)) k))), (4, .int (nI k))]) ?_ 0 (by omega) _ _ _ ⟨(u0.1, u0.2.1, u0.2.2.1, u0.2.2.2.2.1, u0.2.2.2.2.2.1, u0.2.2.2.2.2.2.1, u0.2.2.2.2.2.2.2.1), hP, hD, hS, (lv_sub hl [2, 1, 0] rfl)⟩
      intro k hkN H locs ls hI ih_k
      obtain ⟨v0, hP, hD, hS, hl⟩ := hI
      refine lv_iload hx hb dX2_proves_227 (lv_at hl 2 rfl) ?_
      refine lv_iconst (v := (nI (4))) hx hb dX2_proves_229 (by decide) ?_
      refine lv_icmp_ge (tgt := 266) hx hb dX2_proves_230 (by decide) (fun c_230 => ?_) (fun c_230 => ?_)
      · have c_230 : 4 ≤ k := kn_le c_230 (by omega) (by omega)
        have e9 : 4 = k := by omega
        subst e9
        refine lv_iload_n hx hb dX2_proves_266 rfl (lv_at hl 1 rfl) ?_
        refine lv_if_eq (tgt := 274) hx hb dX2_proves_267 (by decide) (fun c_267 => ?_) (fun c_267 => ?_)
        · have c_267 : (sml u0.2.2.2.2.2.2.2.2 (lw8 (nv lv (lid LB sz) (rl lv) 0)) 4) = false := bz_0 c_267
          refine lv_iconst (v := ((0 : Int32))) hx hb dX2_proves_274 (by decide) ?_
          exact kr_i ((v0.1, v0.2.1, v0.2.2.1, u0.2.2.2.1, v0.2.2.2.1, v0.2.2.2.2.1, v0.2.2.2.2.2.1, v0.2.2.2.2.2.2, u0.2.2.2.2.2.2.2.2)) hx hb hr hlocks hK hP hD hS (by rw [← sml_sm hfin (fun a _ => rfl), c_267]; rfl) dX2_proves_275
        · have c_267 : (sml u0.2.2.2.2.2.2.2.2 (lw8 (nv lv (lid LB sz) (rl lv) 0)) 4) = true := bz_1 c_267
          refine lv_iconst (v := ((1 : Int32))) hx hb dX2_proves_270 (by decide) ?_
          refine lv_goto (tgt := 275) hx hb dX2_proves_271 (by decide) ?_
          exact kr_i ((v0.1, v0.2.1, v0.2.2.1, u0.2.2.2.1, v0.2.2.2.1, v0.2.2.2.2.1, v0.2.2.2.2.2.1, v0.2.2.2.2.2.2, u0.2.2.2.2.2.2.2.2)) hx hb hr hlocks hK hP hD hS (by rw [← sml_sm hfin (fun a _ => rfl), c_267]; rfl) dX2_proves_275
      · have c_230 : k < 4 := kn_nle c_230 (by omega) (by omega)
        have hltk : k < 4 := c_230
        refine lv_iload_n hx hb dX2_proves_233 rfl (lv_at hl 1 rfl) ?_
        refine lv_if_eq (tgt := 258) hx hb dX2_proves_234 (by decide) (fun c_234 => ?_) (fun c_234 => ?_)
        · have c_234 : (sml u0.2.2.2.2.2.2.2.2 (lw8 (nv lv (lid LB sz) (rl lv) 0)) k) = false := bz_0 c_234
          refine lv_iconst (v := (nI (0))) hx hb dX2_proves_258 (by decide) ?_
          refine kp_i (y := (bz (sml u0.2.2.2.2.2.2.2.2 (lw8 (nv lv (lid LB sz) (rl lv) 0)) (k + 1)))) (by first | exact sml_b (fun e => lc_n c_251 (e.trans (lw8_e8 (by omega)))) | exact sml_a c_234) ?_
          refine lv_istore_n (lv' := [(3, .int (bz (sml u0.2.2.2.2.2.2.2.2 (lw8 (nv lv (lid LB sz) (rl lv) 0)) (k + 1)))), (0, .ref (r 0)), (4, .int (nI k))]) hx hb dX2_proves_259 rfl hl (by decide) rfl (fun ls hl => ?_)
          refine lv_iinc (v := (nI (k + 1))) (lv' := [(4, .int (nI (k + 1))), (3, .int (bz (sml u0.2.2.2.2.2.2.2.2 (lw8 (nv lv (lid LB sz) (rl lv) 0)) (k + 1)))), (0, .ref (r 0))]) hx hb dX2_proves_260 hl (k := 2) rfl (kn_inc _ _ 1 rfl) (by decide) rfl (fun ls hl => ?_)
          refine lv_goto (tgt := 227) hx hb dX2_proves_263 (by decide) ?_
          exact ih_k hltk _ _ _ ⟨(v0.1, v0.2.1, v0.2.2.1, v0.2.2.2.1, v0.2.2.2.2.1, v0.2.2.2.2.2.1, v0.2.2.2.2.2.2), hP, hD, hS, (lv_sub hl [2, 1, 0] rfl)⟩
        · have c_234 : (sml u0.2.2.2.2.2.2.2.2 (lw8 (nv lv (lid LB sz) (rl lv) 0)) k) = true := bz_1 c_234
          refine lv_aload_n hx hb dX2_proves_237 rfl (lv_at hl 0 rfl) ?_
          refine va_get (D := D) (ci := 2) (v := .ref (r 10)) (C := RX2) (T := TX2) (N := 16) hx hb hts hin_2 hown hK hP 0 rfl rfl 15 (by decide) lk_64 (fun _ h9 => h9) rfl dX2_proves_238 ?_
          refine lv_iload hx hb dX2_proves_241 (lv_at hl 2 rfl) ?_
          refine kb_lald hx hb hK hP 10 1 rfl rfl (k) (rfl) (by omega) (by decide) dX2_proves_243 ?_
          refine lv_aload_n hx hb dX2_proves_244 rfl (lv_at hl 0 rfl) ?_
          refine lv_iload hx hb dX2_proves_245 (lv_at hl 2 rfl) ?_
          refine kc_l (As := [.int (nI k)]) (rest := [.long (u0.2.2.2.2.2.2.2.2 (k))]) ⟨hx, hb, hml, hown, hts⟩ (m_root2 l D A r cI cJ v0.1 tl lv v0.2.1 v0.2.2.1 u0.2.2.2.1 v0.2.2.2.1 v0.2.2.2.2.1 v0.2.2.2.2.2.1 ro be tp bs sz v0.2.2.2.2.2.2 u0.2.2.2.2.2.2.2.2 k LB h1 h2 h3 h4 h5 (by omega) (by omega)) (cwV 1 hts (gMV (List.mem_of_getElem? (i := 106) rfl) (List.mem_of_getElem? (i := 75) rfl) (List.mem_of_getElem? (i := 76) rfl) (List.mem_of_getElem? (i := 0) rfl) (List.mem_of_getElem? (i := 77) rfl)) rfl rfl rfl (by decide +kernel) ⟨Nat.le_of_ble_eq_true rfl, Nat.le_of_ble_eq_true rfl⟩) (va_recv hK hP (ci := 2) (q0 := 0) rfl rfl) hK hP hD hS hZ rfl hl.1 rfl (Nat.le_of_ble_eq_true rfl) ⟨Nat.zero_le _, Nat.zero_le _⟩ dX2_proves_247 (fun r_7 u_6 H locs hw_u_6 hP hD hS => ?_)
          have hP : va_P D vwCl (wm r cI cJ u_6.1 tl lv u_6.2.1 u_6.2.2.1 u0.2.2.2.1 u_6.2.2.2.1 u_6.2.2.2.2.1 u_6.2.2.2.2.2.1 ro be tp bs sz u_6.2.2.2.2.2.2 u0.2.2.2.2.2.2.2.2) H := hP
          have hD : va_D A (wm r cI cJ u_6.1 tl lv u_6.2.1 u_6.2.2.1 u0.2.2.2.1 u_6.2.2.2.1 u_6.2.2.2.2.1 u_6.2.2.2.2.2.1 ro be tp bs sz u_6.2.2.2.2.2.2 u0.2.2.2.2.2.2.2.2) := hD
          have hr_u_6 : r_7 = (e8 (nv lv (lid LB sz) (rl lv) 0) (nI (k))) := hw_u_6
          subst hr_u_6
          refine W.lcmp hx hb dX2_proves_250 ?_
          refine lv_if_ne (tgt := 258) hx hb dX2_proves_251 (by decide) (fun c_251 => ?_) (fun c_251 => ?_)
          · refine lv_iconst (v := (nI (0))) hx hb dX2_proves_258 (by decide) ?_
            refine kp_i (y := (bz (sml u0.2.2.2.2.2.2.2.2 (lw8 (nv lv (lid LB sz) (rl lv) 0)) (k + 1)))) (by first | exact sml_b (fun e => lc_n c_251 (e.trans (lw8_e8 (by omega)))) | exact sml_a c_234) ?_
            refine lv_istore_n (lv' := [(3, .int (bz (sml u0.2.2.2.2.2.2.2.2 (lw8 (nv lv (lid LB sz) (rl lv) 0)) (k + 1)))), (0, .ref (r 0)), (4, .int (nI k))]) hx hb dX2_proves_259 rfl hl (by decide) rfl (fun ls hl => ?_)
            refine lv_iinc (v := (nI (k + 1))) (lv' := [(4, .int (nI (k + 1))), (3, .int (bz (sml u0.2.2.2.2.2.2.2.2 (lw8 (nv lv (lid LB sz) (rl lv) 0)) (k + 1)))), (0, .ref (r 0))]) hx hb dX2_proves_260 hl (k := 2) rfl (kn_inc _ _ 1 rfl) (by decide) rfl (fun ls hl => ?_)
            refine lv_goto (tgt := 227) hx hb dX2_proves_263 (by decide) ?_
            exact ih_k hltk _ _ _ ⟨(u_6.1, u_6.2.1, u_6.2.2.1, u_6.2.2.2.1, u_6.2.2.2.2.1, u_6.2.2.2.2.2.1, u_6.2.2.2.2.2.2), hP, hD, hS, (lv_sub hl [2, 1, 0] rfl)⟩
          · refine lv_iconst (v := (nI (1))) hx hb dX2_proves_254 (by decide) ?_
            refine kp_i (y := (bz (sml u0.2.2.2.2.2.2.2.2 (lw8 (nv lv (lid LB sz) (rl lv) 0)) (k + 1)))) (sml_1 c_234 ((lc_0 c_251).trans (lw8_e8 (by omega)).symm)) ?_
            refine lv_goto (tgt := 259) hx hb dX2_proves_255 (by decide) ?_
            refine lv_istore_n (lv' := [(3, .int (bz (sml u0.2.2.2.2.2.2.2.2 (lw8 (nv lv (lid LB sz) (rl lv) 0)) (k + 1)))), (0, .ref (r 0)), (4, .int (nI k))]) hx hb dX2_proves_259 rfl hl (by decide) rfl (fun ls hl => ?_)
            refine lv_iinc (v := (nI (k + 1))) (lv' := [(4, .int (nI (k + 1))), (3, .int (bz (sml u0.2.2.2.2.2.2.2.2 (lw8 (nv lv (lid LB sz) (rl lv) 0)) (k + 1)))), (0, .ref (r 0))]) hx hb dX2_proves_260 hl (k := 2) rfl (kn_inc _ _ 1 rfl) (by decide) rfl (fun ls hl => ?_)
            refine lv_goto (tgt := 227) hx hb dX2_proves_263 (by decide) ?_
            exact ih_k hltk _ _ _ ⟨(u_6.1, u_6.2.1, u_6.2.2.1, u_6.2.2.2.1, u_6.2.2.2.2.1, u_6.2.2.2.2.2.1, u_6.2.2.2.2.2.2), hP, hD, hS, (lv_sub hl [2, 1, 0] rfl)⟩
    · have c_58 : j < (stc lv i0 (rl lv)) := kn_nle c_58 (by omega) (by omega)
      have hltj : j < stc lv i0 (rl lv) := c_58
      refine lv_aload_n hx hb dX2_proves_61 rfl (lv_at hl 0 rfl) ?_
      refine lv_iload_n hx hb dX2_proves_62 rfl (lv_at hl 1 rfl) ?_
      refine lv_iload_n hx hb dX2_proves_63 rfl (lv_at hl 3 rfl) ?_
      refine kc_i (As := [.int (nI i0), .int (nI j)]) (rest := []) ⟨hx, hb, hml, hown, hts⟩ (m_climb l D A r cI cJ u0.1 tl lv u0.2.1 u0.2.2.1 u0.2.2.2.1 u0.2.2.2.2.1 u0.2.2.2.2.2.1 u0.2.2.2.2.2.2.1 ro be tp bs sz u0.2.2.2.2.2.2.2.1 u0.2.2.2.2.2.2.2.2 i0 ((nI (j))) LB h1 h2 h3 h4 h5 h6) (cwV 2 hts (gMV (List.mem_of_getElem? (i := 93) rfl) (List.mem_of_getElem? (i := 94) rfl) (List.mem_of_getElem? (i := 121) rfl) (List.mem_of_getElem? (i := 0) rfl) (List.mem_of_getElem? (i := 95) rfl)) rfl rfl rfl (by decide +kernel) ⟨Nat.le_of_ble_eq_true rfl, Nat.le_of_ble_eq_true rfl⟩) (va_recv hK hP (ci := 2) (q0 := 0) rfl rfl) hK hP hD hS hZ rfl hl.1 rfl (Nat.le_of_ble_eq_true rfl) ⟨Nat.zero_le _, Nat.zero_le _⟩ dX2_proves_64 (fun r_9 u_8 H locs hw_u_8 hP hD hS => ?_)
      have hP : va_P D vwCl (wm r cI cJ u_8.1 tl lv u_8.2.1 u_8.2.2.1 u_8.2.2.2.1 u_8.2.2.2.2.1 u_8.2.2.2.2.2.1 u_8.2.2.2.2.2.2.1 ro be tp bs sz u_8.2.2.2.2.2.2.2 u0.2.2.2.2.2.2.2.2) H := hP
      have hD : va_D A (wm r cI cJ u_8.1 tl lv u_8.2.1 u_8.2.2.1 u_8.2.2.2.1 u_8.2.2.2.2.1 u_8.2.2.2.2.2.1 u_8.2.2.2.2.2.2.1 ro be tp bs sz u_8.2.2.2.2.2.2.2 u0.2.2.2.2.2.2.2.2) := hD
      obtain ⟨t, ht, hb8, hs8, rfl, hLw⟩ := clm_fd h1 h6 hltj hw_u_8
      have hxw : xo (i0 / 2 ^ t) < wdl lv t := of_decide_eq_true hb8
      have hwt := wdl_le lv t
      refine lv_istore (lv' := [(4, .int (nI (xo (i0 / 2 ^ t)))), (0, .ref (r 0)), (1, .int (nI i0)), (2, .int (nI (stc lv i0 (rl lv)))), (3, .int (nI j))]) hx hb dX2_proves_67 hl (by decide) rfl (fun ls hl => ?_)
      refine lv_iload hx hb dX2_proves_69 (lv_at hl 0 rfl) ?_
      refine lv_iconst (v := (nI (2))) hx hb dX2_proves_71 (by decide) ?_
      refine lv_irem hx hb dX2_proves_72 (by decide) ?_
      refine kp_i (y := (nI (xo (i0 / 2 ^ t) % 2))) (pk_rem (by omega) (by decide) (by decide)) ?_
      refine lv_if_ne (tgt := 80) hx hb dX2_proves_73 (by decide) (fun c_73 => ?_) (fun c_73 => ?_)
      · have c_73 : (xo (i0 / 2 ^ t) % 2) ≠ 0 := kn_ne0 c_73 (by omega)
        refine lv_iconst (v := ((0 : Int32))) hx hb dX2_proves_80 (by decide) ?_
        refine lv_istore (lv' := [(5, .int ((0 : Int32))), (4, .int (nI (xo (i0 / 2 ^ t)))), (0, .ref (r 0)), (1, .int (nI i0)), (2, .int (nI (stc lv i0 (rl lv)))), (3, .int (nI j))]) hx hb dX2_proves_81 hl (by decide) rfl (fun ls hl => ?_)
        refine lv_aload_n hx hb dX2_proves_83 rfl (lv_at hl 2 rfl) ?_
        refine lv_iconst (v := (nI (0))) hx hb dX2_proves_84 (by decide) ?_
        refine va_put (D := D) (ci := 2) (v := .int (nI 0)) (ty := .int) (C := RX2) (T := TX2) (N := 16) hx hb hts hin_2 tyX2 tyX2_ok nmX2 hown hK hP hD hS 0 rfl rfl 1 (by decide) lk_25 (fun _ h9 => h9) rfl (by decide +kernel) rfl rfl (Nat.le_of_ble_eq_true rfl) dX2_proves_85 (fun H locs hP hD hS => ?_)
        have hP : va_P D vwCl (wm r cI cJ 0 tl lv u_8.2.1 u_8.2.2.1 u_8.2.2.2.1 u_8.2.2.2.2.1 u_8.2.2.2.2.2.1 u_8.2.2.2.2.2.2.1 ro be tp bs sz u_8.2.2.2.2.2.2.2 u0.2.2.2.2.2.2.2.2) H := hP
        have hD : va_D A (wm r cI cJ 0 tl lv u_8.2.1 u_8.2.2.1 u_8.2.2.2.1 u_8.2.2.2.2.1 u_8.2.2.2.2.2.1 u_8.2.2.2.2.2.2.1 ro be tp bs sz u_8.2.2.2.2.2.2.2 u0.2.2.2.2.2.2.2.2) := hD
        refine lv_aload_n hx hb dX2_proves_88 rfl (lv_at hl 2 rfl) ?_
        refine lv_iconst (v := ((1 : Int32))) hx hb dX2_proves_89 (by decide) ?_
        refine kc_v (As := [.int ((1 : Int32))]) (rest := []) ⟨hx, hb, hml, hown, hts⟩ (m_hashByte l D A r cI cJ 0 tl lv u_8.2.1 u_8.2.2.1 u_8.2.2.2.1 u_8.2.2.2.2.1 u_8.2.2.2.2.2.1 u_8.2.2.2.2.2.2.1 ro be tp bs sz u_8.2.2.2.2.2.2.2 u0.2.2.2.2.2.2.2.2 (((1 : Int32))) (by omega)) (cwV 1 hts (gMV (List.mem_of_getElem? (i := 45) rfl) (List.mem_of_getElem? (i := 46) rfl) (List.mem_of_getElem? (i := 112) rfl) (List.mem_of_getElem? (i := 0) rfl) (List.mem_of_getElem? (i := 47) rfl)) rfl rfl rfl (by decide +kernel) ⟨Nat.le_of_ble_eq_true rfl, Nat.le_of_ble_eq_true rfl⟩) (va_recv hK hP (ci := 2) (q0 := 0) rfl rfl) hK hP hD hS hZ rfl hl.1 rfl (Nat.le_of_ble_eq_true rfl) ⟨Nat.zero_le _, Nat.zero_le _⟩ dX2_proves_90 (fun _ H locs _ hP hD hS => ?_)
        have hP : va_P D vwCl (wm r cI cJ (0 + 1) tl lv u_8.2.1 u_8.2.2.1 u_8.2.2.2.1 (upd u_8.2.2.2.2.1 0 (((1 : Int32)) &&& 255)) u_8.2.2.2.2.2.1 u_8.2.2.2.2.2.2.1 ro be tp bs sz u_8.2.2.2.2.2.2.2 u0.2.2.2.2.2.2.2.2) H := hP
        have hD : va_D A (wm r cI cJ (0 + 1) tl lv u_8.2.1 u_8.2.2.1 u_8.2.2.2.1 (upd u_8.2.2.2.2.1 0 (((1 : Int32)) &&& 255)) u_8.2.2.2.2.2.1 u_8.2.2.2.2.2.2.1 ro be tp bs sz u_8.2.2.2.2.2.2.2 u0.2.2.2.2.2.2.2.2) := hD
        rw [← cat_0 (upd u_8.2.2.2.2.1 0 (((1 : Int32)) &&& 255)) (0 + 1) (pg false (fun z => u_8.2.2.2.2.2.2.2 (4 * xo (i0 / 2 ^ t) + z)) u0.2.2.2.2.2.2.2.2)] at hP hD
        refine lv_iconst (v := (nI (0))) hx hb dX2_proves_93 (by decide) ?_
        refine lv_istore (lv' := [(6, .int (nI 0)), (5, .int ((0 : Int32))), (4, .int (nI (xo (i0 / 2 ^ t)))), (0, .ref (r 0)), (1, .int (nI i0)), (2, .int (nI (stc lv i0 (rl lv)))), (3, .int (nI j))]) hx hb dX2_proves_94 hl (by decide) rfl (fun ls hl => ?_)
        refine kp_lp (hd := 96) (nn := 64) (fun (b : Nat) (H : Heap) (locs : List Loc) (ls : Array Slot) => va_P D vwCl (wm r cI cJ (0 + 1 + b) tl lv u_8.2.1 u_8.2.2.1 u_8.2.2.2.1 (cat (upd u_8.2.2.2.2.1 0 (((1 : Int32)) &&& 255)) (0 + 1) (pg false (fun z => u_8.2.2.2.2.2.2.2 (4 * xo (i0 / 2 ^ t) + z)) u0.2.2.2.2.2.2.2.2) b) u_8.2.2.2.2.2.1 u_8.2.2.2.2.2.2.1 ro be tp bs sz u_8.2.2.2.2.2.2.2 u0.2.2.2.2.2.2.2.2) H ∧ va_D A (wm r cI cJ (0 + 1 + b) tl lv u_8.2.1 u_8.2.2.1 u_8.2.2.2.1 (cat (upd u_8.2.2.2.2.1 0 (((1 : Int32)) &&& 255)) (0 + 1) (pg false (fun z => u_8.2.2.2.2.2.2.2 (4 * xo (i0 / 2 ^ t) + z)) u0.2.2.2.2.2.2.2.2) b) u_8.2.2.2.2.2.1 u_8.2.2.2.2.2.2.1 ro be tp bs sz u_8.2.2.2.2.2.2.2 u0.2.2.2.2.2.2.2.2) ∧ va_S A s.heap H locs ∧ lv_has ls 8 [(0, .ref (r 0)), (1, .int (nI i0)), (2, .int (nI (stc lv i0 (rl lv)))), (3, .int (nI j)), (4, .int (nI (xo (i0 / 2 ^ t)))), (5, .int ((0 : Int32))), (6, .int (nI b))]) ?_ 0 (by omega) _ _ _ ⟨hP, hD, hS, (lv_sub hl [3, 4, 5, 6, 2, 1, 0] rfl)⟩
        intro b hbN H locs ls hI ih_b
        obtain ⟨hP, hD, hS, hl⟩ := hI
        refine lv_iload hx hb dX2_proves_96 (lv_at hl 6 rfl) ?_
        refine lv_bipush (v := (nI (64))) hx hb dX2_proves_98 (by decide) ?_
        refine lv_icmp_ge (tgt := 184) hx hb dX2_proves_100 (by decide) (fun c_100 => ?_) (fun c_100 => ?_)
        · have c_100 : 64 ≤ b := kn_le c_100 (by omega) (by omega)
          have e9 : 64 = b := by omega
          subst e9
          refine lv_aload_n hx hb dX2_proves_184 rfl (lv_at hl 0 rfl) ?_
          refine kc_v (As := []) (rest := []) ⟨hx, hb, hml, hown, hts⟩ (m_digest l D A r cI cJ (0 + 1 + 64) tl lv u_8.2.1 u_8.2.2.1 u_8.2.2.2.1 (cat (upd u_8.2.2.2.2.1 0 (((1 : Int32)) &&& 255)) (0 + 1) (pg false (fun z => u_8.2.2.2.2.2.2.2 (4 * xo (i0 / 2 ^ t) + z)) u0.2.2.2.2.2.2.2.2) 64) u_8.2.2.2.2.2.1 u_8.2.2.2.2.2.2.1 ro be tp bs sz u_8.2.2.2.2.2.2.2 u0.2.2.2.2.2.2.2.2 (ndm (pvn lv i0 (lid LB sz) (lfh T tl) t) (nv lv (lid LB sz) t (xo (i0 / 2 ^ t)))) (by decide) (pg_rel (hLw _ hxw) (hI_0 t (by omega) hs8) (fun h => absurd h (by decide)) (fun _ => ⟨rfl, rfl⟩)) h4 h5) (cwV 0 hts (gMV (List.mem_of_getElem? (i := 48) rfl) (List.mem_of_getElem? (i := 49) rfl) (List.mem_of_getElem? (i := 113) rfl) (List.mem_of_getElem? (i := 0) rfl) (List.mem_of_getElem? (i := 50) rfl)) rfl rfl rfl (by decide +kernel) ⟨Nat.le_of_ble_eq_true rfl, Nat.le_of_ble_eq_true rfl⟩) (va_recv hK hP (ci := 2) (q0 := 0) rfl rfl) hK hP hD hS hZ rfl hl.1 rfl (Nat.le_of_ble_eq_true rfl) ⟨Nat.zero_le _, Nat.zero_le _⟩ dX2_proves_185 (fun u_11 H locs hw_u_11 hP hD hS => ?_)
          have hP : va_P D vwCl (wm r cI cJ u_11.1 tl lv u_8.2.1 u_8.2.2.1 u_8.2.2.2.1 u_11.2.1 u_11.2.2.1 u_11.2.2.2 ro be tp bs sz u_8.2.2.2.2.2.2.2 u0.2.2.2.2.2.2.2.2) H := hP
          have hD : va_D A (wm r cI cJ u_11.1 tl lv u_8.2.1 u_8.2.2.1 u_8.2.2.2.1 u_11.2.1 u_11.2.2.1 u_11.2.2.2 ro be tp bs sz u_8.2.2.2.2.2.2.2 u0.2.2.2.2.2.2.2.2) := hD
          rw [← catL_0 u0.2.2.2.2.2.2.2.2 0 (lw8 u_11.2.2.1)] at hP hD
          refine lv_iconst (v := (nI (0))) hx hb dX2_proves_188 (by decide) ?_
          refine lv_istore (lv' := [(6, .int (nI 0)), (0, .ref (r 0)), (1, .int (nI i0)), (2, .int (nI (stc lv i0 (rl lv)))), (3, .int (nI j)), (4, .int (nI (xo (i0 / 2 ^ t)))), (5, .int ((0 : Int32)))]) hx hb dX2_proves_189 hl (by decide) rfl (fun ls hl => ?_)
          refine kp_lp (hd := 191) (nn := 4) (fun (a : Nat) (H : Heap) (locs : List Loc) (ls : Array Slot) => va_P D vwCl (wm r cI cJ u_11.1 tl lv u_8.2.1 u_8.2.2.1 u_8.2.2.2.1 u_11.2.1 u_11.2.2.1 u_11.2.2.2 ro be tp bs sz u_8.2.2.2.2.2.2.2 (catL u0.2.2.2.2.2.2.2.2 0 (lw8 u_11.2.2.1) a)) H ∧ va_D A (wm r cI cJ u_11.1 tl lv u_8.2.1 u_8.2.2.1 u_8.2.2.2.1 u_11.2.1 u_11.2.2.1 u_11.2.2.2 ro be tp bs sz u_8.2.2.2.2.2.2.2 (catL u0.2.2.2.2.2.2.2.2 0 (lw8 u_11.2.2.1) a)) ∧ va_S A s.heap H locs ∧ lv_has ls 8 [(0, .ref (r 0)), (1, .int (nI i0)), (2, .int (nI (stc lv i0 (rl lv)))), (3, .int (nI j)), (6, .int (nI a))]) ?_ 0 (by omega) _ _ _ ⟨hP, hD, hS, (lv_sub hl [1, 2, 3, 4, 0] rfl)⟩
          intro a haN H locs ls hI ih_a
          obtain ⟨hP, hD, hS, hl⟩ := hI
          refine lv_iload hx hb dX2_proves_191 (lv_at hl 4 rfl) ?_
          refine lv_iconst (v := (nI (4))) hx hb dX2_proves_193 (by decide) ?_
          refine lv_icmp_ge (tgt := 216) hx hb dX2_proves_194 (by decide) (fun c_194 => ?_) (fun c_194 => ?_)
          · have c_194 : 4 ≤ a := kn_le c_194 (by omega) (by omega)
            have e9 : 4 = a := by omega
            subst e9
            refine lv_iinc (v := (nI (j + 1))) (lv' := [(3, .int (nI (j + 1))), (0, .ref (r 0)), (1, .int (nI i0)), (2, .int (nI (stc lv i0 (rl lv)))), (6, .int (nI 4))]) hx hb dX2_proves_216 hl (k := 3) rfl (kn_inc _ _ 1 rfl) (by decide) rfl (fun ls hl => ?_)
            refine lv_goto (tgt := 56) hx hb dX2_proves_219 (by decide) ?_
            exact ih_j hltj _ _ _ ⟨(u_11.1, u_8.2.1, u_8.2.2.1, u_8.2.2.2.1, u_11.2.1, u_11.2.2.1, u_11.2.2.2, u_8.2.2.2.2.2.2.2, catL u0.2.2.2.2.2.2.2.2 0 (lw8 u_11.2.2.1) 4), fun t' h9 ht' a ha => (catL_in0 ha).trans (pv_next hb8 hs8 hw_u_11 (fun c => absurd c (xo_p0 c_73)) (fun _ => ⟨rfl, rfl⟩) t' h9 ht' a ha), hP, hD, hS, (lv_sub hl [1, 2, 3, 0] rfl)⟩
          · have c_194 : a < 4 := kn_nle c_194 (by omega) (by omega)
            have hlta : a < 4 := c_194
            refine lv_aload_n hx hb dX2_proves_197 rfl (lv_at hl 0 rfl) ?_
            refine va_get (D := D) (ci := 2) (v := .ref (r 10)) (C := RX2) (T := TX2) (N := 16) hx hb hts hin_2 hown hK hP 0 rfl rfl 15 (by decide) lk_64 (fun _ h9 => h9) rfl dX2_proves_198 ?_
            refine lv_iload hx hb dX2_proves_201 (lv_at hl 4 rfl) ?_
            refine lv_aload_n hx hb dX2_proves_203 rfl (lv_at hl 0 rfl) ?_
            refine lv_iload hx hb dX2_proves_204 (lv_at hl 4 rfl) ?_
            refine kc_l (As := [.int (nI a)]) (rest := [.int (nI a), .ref (r 10)]) ⟨hx, hb, hml, hown, hts⟩ (m_sum l D A r cI cJ u_11.1 tl lv u_8.2.1 u_8.2.2.1 u_8.2.2.2.1 u_11.2.1 u_11.2.2.1 u_11.2.2.2 ro be tp bs sz u_8.2.2.2.2.2.2.2 (catL u0.2.2.2.2.2.2.2.2 0 (lw8 u_11.2.2.1) a) a (by omega)) (cwV 1 hts (gMV (List.mem_of_getElem? (i := 57) rfl) (List.mem_of_getElem? (i := 58) rfl) (List.mem_of_getElem? (i := 115) rfl) (List.mem_of_getElem? (i := 0) rfl) (List.mem_of_getElem? (i := 59) rfl)) rfl rfl rfl (by decide +kernel) ⟨Nat.le_of_ble_eq_true rfl, Nat.le_of_ble_eq_true rfl⟩) (va_recv hK hP (ci := 2) (q0 := 0) rfl rfl) hK hP hD hS hZ rfl hl.1 rfl (Nat.le_of_ble_eq_true rfl) ⟨Nat.zero_le _, Nat.zero_le _⟩ dX2_proves_206 (fun r_12 _ H locs hw hP hD hS => ?_)
            have hw : r_12 = (lw8 u_11.2.2.1 a) := hw
            subst hw
            have hP : va_P D vwCl (wm r cI cJ u_11.1 tl lv u_8.2.1 u_8.2.2.1 u_8.2.2.2.1 u_11.2.1 u_11.2.2.1 u_11.2.2.2 ro be tp bs sz u_8.2.2.2.2.2.2.2 (catL u0.2.2.2.2.2.2.2.2 0 (lw8 u_11.2.2.1) a)) H := hP
            have hD : va_D A (wm r cI cJ u_11.1 tl lv u_8.2.1 u_8.2.2.1 u_8.2.2.2.1 u_11.2.1 u_11.2.2.1 u_11.2.2.2 ro be tp bs sz u_8.2.2.2.2.2.2.2 (catL u0.2.2.2.2.2.2.2.2 0 (lw8 u_11.2.2.1) a)) := hD
            refine kb_last hx hb hK hP hD hS 10 1 rfl rfl (a) (rfl) (by omega) (by decide) dX2_proves_209 (fun H locs hP hD hS => ?_)
            have hP : va_P D vwCl (wm r cI cJ u_11.1 tl lv u_8.2.1 u_8.2.2.1 u_8.2.2.2.1 u_11.2.1 u_11.2.2.1 u_11.2.2.2 ro be tp bs sz u_8.2.2.2.2.2.2.2 (vp_updL (catL u0.2.2.2.2.2.2.2.2 0 (lw8 u_11.2.2.1) a) (a) ((lw8 u_11.2.2.1 a)))) H := hP
            have hD : va_D A (wm r cI cJ u_11.1 tl lv u_8.2.1 u_8.2.2.1 u_8.2.2.2.1 u_11.2.1 u_11.2.2.1 u_11.2.2.2 ro be tp bs sz u_8.2.2.2.2.2.2.2 (vp_updL (catL u0.2.2.2.2.2.2.2.2 0 (lw8 u_11.2.2.1) a) (a) ((lw8 u_11.2.2.1 a)))) := hD
            rw [catL_s0 _ _ _ rfl] at hP hD
            have hP : va_P D vwCl (wm r cI cJ u_11.1 tl lv u_8.2.1 u_8.2.2.1 u_8.2.2.2.1 u_11.2.1 u_11.2.2.1 u_11.2.2.2 ro be tp bs sz u_8.2.2.2.2.2.2.2 (catL u0.2.2.2.2.2.2.2.2 0 (lw8 u_11.2.2.1) (a + 1))) H := hP
            have hD : va_D A (wm r cI cJ u_11.1 tl lv u_8.2.1 u_8.2.2.1 u_8.2.2.2.1 u_11.2.1 u_11.2.2.1 u_11.2.2.2 ro be tp bs sz u_8.2.2.2.2.2.2.2 (catL u0.2.2.2.2.2.2.2.2 0 (lw8 u_11.2.2.1) (a + 1))) := hD
            refine lv_iinc (v := (nI (a + 1))) (lv' := [(6, .int (nI (a + 1))), (0, .ref (r 0)), (1, .int (nI i0)), (2, .int (nI (stc lv i0 (rl lv)))), (3, .int (nI j))]) hx hb dX2_proves_210 hl (k := 4) rfl (kn_inc _ _ 1 rfl) (by decide) rfl (fun ls hl => ?_)
            refine lv_goto (tgt := 191) hx hb dX2_proves_213 (by decide) ?_
            exact ih_a hlta _ _ _ ⟨hP, hD, hS, (lv_sub hl [1, 2, 3, 4, 0] rfl)⟩
        · have c_100 : b < 64 := kn_nle c_100 (by omega) (by omega)
          have hltb : b < 64 := c_100
          refine lv_iload hx hb dX2_proves_103 (lv_at hl 6 rfl) ?_
          refine lv_bipush (v := (nI (32))) hx hb dX2_proves_105 (by decide) ?_
          refine lv_icmp_ge (tgt := 114) hx hb dX2_proves_107 (by decide) (fun c_107 => ?_) (fun c_107 => ?_)
          · have c_107 : 32 ≤ b := kn_le c_107 (by omega) (by omega)
            refine lv_iconst (v := ((0 : Int32))) hx hb dX2_proves_114 (by decide) ?_
            refine lv_iload hx hb dX2_proves_115 (lv_at hl 5 rfl) ?_
            refine lv_icmp_ne (tgt := 124) hx hb dX2_proves_117 (by decide) (fun c_117 => absurd c_117 (by decide)) (fun c_117 => ?_)
            refine lv_iconst (v := ((1 : Int32))) hx hb dX2_proves_120 (by decide) ?_
            refine lv_goto (tgt := 125) hx hb dX2_proves_121 (by decide) ?_
            refine lv_istore (lv' := [(7, .int ((1 : Int32))), (0, .ref (r 0)), (1, .int (nI i0)), (2, .int (nI (stc lv i0 (rl lv)))), (3, .int (nI j)), (4, .int (nI (xo (i0 / 2 ^ t)))), (5, .int ((0 : Int32))), (6, .int (nI b))]) hx hb dX2_proves_125 hl (by decide) rfl (fun ls hl => ?_)
            refine lv_aload_n hx hb dX2_proves_127 rfl (lv_at hl 1 rfl) ?_
            refine lv_iload hx hb dX2_proves_128 (lv_at hl 0 rfl) ?_
            refine lv_if_eq (tgt := 154) hx hb dX2_proves_130 (by decide) (fun c_130 => absurd c_130 (by decide)) (fun c_130 => ?_)
            refine lv_aload_n hx hb dX2_proves_133 rfl (lv_at hl 1 rfl) ?_
            refine va_get (D := D) (ci := 2) (v := .ref (r 9)) (C := RX2) (T := TX2) (N := 16) hx hb hts hin_2 hown hK hP 0 rfl rfl 11 (by decide) lk_60 (fun _ h9 => h9) rfl dX2_proves_134 ?_
            refine lv_iconst (v := (nI (4))) hx hb dX2_proves_137 (by decide) ?_
            refine lv_iload hx hb dX2_proves_138 (lv_at hl 5 rfl) ?_
            refine lv_imul hx hb dX2_proves_140 ?_
            refine kp_i (pk_mul _ _) ?_
            refine lv_iload hx hb dX2_proves_141 (lv_at hl 7 rfl) ?_
            refine lv_bipush (v := (nI (32))) hx hb dX2_proves_143 (by decide) ?_
            refine lv_irem hx hb dX2_proves_145 (by decide) ?_
            refine kp_i (y := (nI (b % 32))) (pk_rem (by omega) (by decide) (by decide)) ?_
            refine lv_bipush (v := (nI (8))) hx hb dX2_proves_146 (by decide) ?_
            refine lv_idiv hx hb dX2_proves_148 (by decide) ?_
            refine kp_i (y := (nI (b % 32 / 8))) (pk_div (by omega) (by decide) (by decide)) ?_
            refine lv_iadd hx hb dX2_proves_149 ?_
            refine kp_i (nI_add _ _) ?_
            refine kb_lald hx hb hK hP 9 1 rfl rfl ((4 * (xo (i0 / 2 ^ t))) + (b % 32 / 8)) (rfl) (by omega) (by decide) dX2_proves_150 ?_
            refine lv_goto (tgt := 167) hx hb dX2_proves_151 (by decide) ?_
            refine lv_iload hx hb dX2_proves_167 (lv_at hl 7 rfl) ?_
            refine lv_bipush (v := (nI (8))) hx hb dX2_proves_169 (by decide) ?_
            refine lv_irem hx hb dX2_proves_171 (by decide) ?_
            refine kp_i (y := (nI (b % 8))) (pk_rem (by omega) (by decide) (by decide)) ?_
            refine kcs_i (As := [.long (u_8.2.2.2.2.2.2.2 ((4 * (xo (i0 / 2 ^ t))) + (b % 32 / 8))), .int (nI (b % 8))]) (rest := [.ref (r 0)]) ⟨hx, hb, hml, hown, hts⟩ (m_byteIn l D A r cI cJ (wm r cI cJ (0 + 1 + b) tl lv u_8.2.1 u_8.2.2.1 u_8.2.2.2.1 (cat (upd u_8.2.2.2.2.1 0 (((1 : Int32)) &&& 255)) (0 + 1) (pg false (fun z => u_8.2.2.2.2.2.2.2 (4 * xo (i0 / 2 ^ t) + z)) u0.2.2.2.2.2.2.2.2) b) u_8.2.2.2.2.2.1 u_8.2.2.2.2.2.2.1 ro be tp bs sz u_8.2.2.2.2.2.2.2 u0.2.2.2.2.2.2.2.2) ((u_8.2.2.2.2.2.2.2 ((4 * (xo (i0 / 2 ^ t))) + (b % 32 / 8)))) (b % 8) (by omega)) (cwS 2 hts (gMS (List.mem_of_getElem? (i := 87) rfl) (List.mem_of_getElem? (i := 88) rfl) (List.mem_of_getElem? (i := 0) rfl) (List.mem_of_getElem? (i := 89) rfl)) rfl rfl rfl (by decide +kernel) ⟨Nat.le_of_ble_eq_true rfl, Nat.le_of_ble_eq_true rfl⟩) hK hP hD hS hZ rfl hl.1 rfl (Nat.le_of_ble_eq_true rfl) ⟨Nat.zero_le _, Nat.zero_le _⟩ dX2_proves_172 (fun r_13 _ H locs hw hP hD hS => ?_)
            have hw : r_13 = (byi (u_8.2.2.2.2.2.2.2 ((4 * (xo (i0 / 2 ^ t))) + (b % 32 / 8))) (b % 8)) := hw
            subst hw
            have hP : va_P D vwCl (wm r cI cJ (0 + 1 + b) tl lv u_8.2.1 u_8.2.2.1 u_8.2.2.2.1 (cat (upd u_8.2.2.2.2.1 0 (((1 : Int32)) &&& 255)) (0 + 1) (pg false (fun z => u_8.2.2.2.2.2.2.2 (4 * xo (i0 / 2 ^ t) + z)) u0.2.2.2.2.2.2.2.2) b) u_8.2.2.2.2.2.1 u_8.2.2.2.2.2.2.1 ro be tp bs sz u_8.2.2.2.2.2.2.2 u0.2.2.2.2.2.2.2.2) H := hP
            have hD : va_D A (wm r cI cJ (0 + 1 + b) tl lv u_8.2.1 u_8.2.2.1 u_8.2.2.2.1 (cat (upd u_8.2.2.2.2.1 0 (((1 : Int32)) &&& 255)) (0 + 1) (pg false (fun z => u_8.2.2.2.2.2.2.2 (4 * xo (i0 / 2 ^ t) + z)) u0.2.2.2.2.2.2.2.2) b) u_8.2.2.2.2.2.1 u_8.2.2.2.2.2.2.1 ro be tp bs sz u_8.2.2.2.2.2.2.2 u0.2.2.2.2.2.2.2.2) := hD
            refine kc_v (As := [.int (byi (u_8.2.2.2.2.2.2.2 ((4 * (xo (i0 / 2 ^ t))) + (b % 32 / 8))) (b % 8))]) (rest := []) ⟨hx, hb, hml, hown, hts⟩ (m_hashByte l D A r cI cJ (0 + 1 + b) tl lv u_8.2.1 u_8.2.2.1 u_8.2.2.2.1 (cat (upd u_8.2.2.2.2.1 0 (((1 : Int32)) &&& 255)) (0 + 1) (pg false (fun z => u_8.2.2.2.2.2.2.2 (4 * xo (i0 / 2 ^ t) + z)) u0.2.2.2.2.2.2.2.2) b) u_8.2.2.2.2.2.1 u_8.2.2.2.2.2.2.1 ro be tp bs sz u_8.2.2.2.2.2.2.2 u0.2.2.2.2.2.2.2.2 ((byi (u_8.2.2.2.2.2.2.2 ((4 * (xo (i0 / 2 ^ t))) + (b % 32 / 8))) (b % 8))) (by omega)) (cwV 1 hts (gMV (List.mem_of_getElem? (i := 45) rfl) (List.mem_of_getElem? (i := 46) rfl) (List.mem_of_getElem? (i := 112) rfl) (List.mem_of_getElem? (i := 0) rfl) (List.mem_of_getElem? (i := 47) rfl)) rfl rfl rfl (by decide +kernel) ⟨Nat.le_of_ble_eq_true rfl, Nat.le_of_ble_eq_true rfl⟩) (va_recv hK hP (ci := 2) (q0 := 0) rfl rfl) hK hP hD hS hZ rfl hl.1 rfl (Nat.le_of_ble_eq_true rfl) ⟨Nat.zero_le _, Nat.zero_le _⟩ dX2_proves_175 (fun _ H locs _ hP hD hS => ?_)
            have hP : va_P D vwCl (wm r cI cJ ((0 + 1 + b) + 1) tl lv u_8.2.1 u_8.2.2.1 u_8.2.2.2.1 (upd (cat (upd u_8.2.2.2.2.1 0 (((1 : Int32)) &&& 255)) (0 + 1) (pg false (fun z => u_8.2.2.2.2.2.2.2 (4 * xo (i0 / 2 ^ t) + z)) u0.2.2.2.2.2.2.2.2) b) (0 + 1 + b) ((byi (u_8.2.2.2.2.2.2.2 ((4 * (xo (i0 / 2 ^ t))) + (b % 32 / 8))) (b % 8)) &&& 255)) u_8.2.2.2.2.2.1 u_8.2.2.2.2.2.2.1 ro be tp bs sz u_8.2.2.2.2.2.2.2 u0.2.2.2.2.2.2.2.2) H := hP
            have hD : va_D A (wm r cI cJ ((0 + 1 + b) + 1) tl lv u_8.2.1 u_8.2.2.1 u_8.2.2.2.1 (upd (cat (upd u_8.2.2.2.2.1 0 (((1 : Int32)) &&& 255)) (0 + 1) (pg false (fun z => u_8.2.2.2.2.2.2.2 (4 * xo (i0 / 2 ^ t) + z)) u0.2.2.2.2.2.2.2.2) b) (0 + 1 + b) ((byi (u_8.2.2.2.2.2.2.2 ((4 * (xo (i0 / 2 ^ t))) + (b % 32 / 8))) (b % 8)) &&& 255)) u_8.2.2.2.2.2.1 u_8.2.2.2.2.2.2.1 ro be tp bs sz u_8.2.2.2.2.2.2.2 u0.2.2.2.2.2.2.2.2) := hD
            first | rw [cat_s _ _ _ _ (pg_x (left := true) (decide_eq_true c_107))] at hP hD | rw [cat_s _ _ _ _ (pg_x (left := false) (decide_eq_false (Nat.not_lt.mpr c_107)))] at hP hD | rw [cat_s _ _ _ _ (pg_y (left := false) (by rw [decide_eq_true c_107]; decide))] at hP hD | rw [cat_s _ _ _ _ (pg_y (left := true) (by rw [decide_eq_false (Nat.not_lt.mpr c_107)]; decide))] at hP hD
            have hP : va_P D vwCl (wm r cI cJ ((0 + 1 + b) + 1) tl lv u_8.2.1 u_8.2.2.1 u_8.2.2.2.1 (cat (upd u_8.2.2.2.2.1 0 (((1 : Int32)) &&& 255)) (0 + 1) (pg false (fun z => u_8.2.2.2.2.2.2.2 (4 * xo (i0 / 2 ^ t) + z)) u0.2.2.2.2.2.2.2.2) (b + 1)) u_8.2.2.2.2.2.1 u_8.2.2.2.2.2.2.1 ro be tp bs sz u_8.2.2.2.2.2.2.2 u0.2.2.2.2.2.2.2.2) H := hP
            have hD : va_D A (wm r cI cJ ((0 + 1 + b) + 1) tl lv u_8.2.1 u_8.2.2.1 u_8.2.2.2.1 (cat (upd u_8.2.2.2.2.1 0 (((1 : Int32)) &&& 255)) (0 + 1) (pg false (fun z => u_8.2.2.2.2.2.2.2 (4 * xo (i0 / 2 ^ t) + z)) u0.2.2.2.2.2.2.2.2) (b + 1)) u_8.2.2.2.2.2.1 u_8.2.2.2.2.2.2.1 ro be tp bs sz u_8.2.2.2.2.2.2.2 u0.2.2.2.2.2.2.2.2) := hD
            refine lv_iinc (v := (nI (b + 1))) (lv' := [(6, .int (nI (b + 1))), (7, .int ((1 : Int32))), (0, .ref (r 0)), (1, .int (nI i0)), (2, .int (nI (stc lv i0 (rl lv)))), (3, .int (nI j)), (4, .int (nI (xo (i0 / 2 ^ t)))), (5, .int ((0 : Int32)))]) hx hb dX2_proves_178 hl (k := 7) rfl (kn_inc _ _ 1 rfl) (by decide) rfl (fun ls hl => ?_)
            refine lv_goto (tgt := 96) hx hb dX2_proves_181 (by decide) ?_
            exact ih_b hltb _ _ _ ⟨hP, hD, hS, (lv_sub hl [2, 3, 4, 5, 6, 7, 0] rfl)⟩
          · have c_107 : b < 32 := kn_nle c_107 (by omega) (by omega)
            refine lv_iconst (v := ((1 : Int32))) hx hb dX2_proves_110 (by decide) ?_
            refine lv_goto (tgt := 115) hx hb dX2_proves_111 (by decide) ?_
            refine lv_iload hx hb dX2_proves_115 (lv_at hl 5 rfl) ?_
            refine lv_icmp_ne (tgt := 124) hx hb dX2_proves_117 (by decide) (fun c_117 => ?_) (fun c_117 => absurd c_117 (by decide))
            refine lv_iconst (v := ((0 : Int32))) hx hb dX2_proves_124 (by decide) ?_
            refine lv_istore (lv' := [(7, .int ((0 : Int32))), (0, .ref (r 0)), (1, .int (nI i0)), (2, .int (nI (stc lv i0 (rl lv)))), (3, .int (nI j)), (4, .int (nI (xo (i0 / 2 ^ t)))), (5, .int ((0 : Int32))), (6, .int (nI b))]) hx hb dX2_proves_125 hl (by decide) rfl (fun ls hl => ?_)
            refine lv_aload_n hx hb dX2_proves_127 rfl (lv_at hl 1 rfl) ?_
            refine lv_iload hx hb dX2_proves_128 (lv_at hl 0 rfl) ?_
            refine lv_if_eq (tgt := 154) hx hb dX2_proves_130 (by decide) (fun c_130 => ?_) (fun c_130 => absurd c_130 (by decide))
            refine lv_aload_n hx hb dX2_proves_154 rfl (lv_at hl 1 rfl) ?_
            refine va_get (D := D) (ci := 2) (v := .ref (r 10)) (C := RX2) (T := TX2) (N := 16) hx hb hts hin_2 hown hK hP 0 rfl rfl 15 (by decide) lk_64 (fun _ h9 => h9) rfl dX2_proves_155 ?_
            refine lv_iload hx hb dX2_proves_158 (lv_at hl 7 rfl) ?_
            refine lv_bipush (v := (nI (32))) hx hb dX2_proves_160 (by decide) ?_
            refine lv_irem hx hb dX2_proves_162 (by decide) ?_
            refine kp_i (y := (nI (b % 32))) (pk_rem (by omega) (by decide) (by decide)) ?_
            refine lv_bipush (v := (nI (8))) hx hb dX2_proves_163 (by decide) ?_
            refine lv_idiv hx hb dX2_proves_165 (by decide) ?_
            refine kp_i (y := (nI (b % 32 / 8))) (pk_div (by omega) (by decide) (by decide)) ?_
            refine kb_lald hx hb hK hP 10 1 rfl rfl (b % 32 / 8) (rfl) (by omega) (by decide) dX2_proves_166 ?_
            refine lv_iload hx hb dX2_proves_167 (lv_at hl 7 rfl) ?_
            refine lv_bipush (v := (nI (8))) hx hb dX2_proves_169 (by decide) ?_
            refine lv_irem hx hb dX2_proves_171 (by decide) ?_
            refine kp_i (y := (nI (b % 8))) (pk_rem (by omega) (by decide) (by decide)) ?_
            refine kcs_i (As := [.long (u0.2.2.2.2.2.2.2.2 (b % 32 / 8)), .int (nI (b % 8))]) (rest := [.ref (r 0)]) ⟨hx, hb, hml, hown, hts⟩ (m_byteIn l D A r cI cJ (wm r cI cJ (0 + 1 + b) tl lv u_8.2.1 u_8.2.2.1 u_8.2.2.2.1 (cat (upd u_8.2.2.2.2.1 0 (((1 : Int32)) &&& 255)) (0 + 1) (pg false (fun z => u_8.2.2.2.2.2.2.2 (4 * xo (i0 / 2 ^ t) + z)) u0.2.2.2.2.2.2.2.2) b) u_8.2.2.2.2.2.1 u_8.2.2.2.2.2.2.1 ro be tp bs sz u_8.2.2.2.2.2.2.2 u0.2.2.2.2.2.2.2.2) ((u0.2.2.2.2.2.2.2.2 (b % 32 / 8))) (b % 8) (by omega)) (cwS 2 hts (gMS (List.mem_of_getElem? (i := 87) rfl) (List.mem_of_getElem? (i := 88) rfl) (List.mem_of_getElem? (i := 0) rfl) (List.mem_of_getElem? (i := 89) rfl)) rfl rfl rfl (by decide +kernel) ⟨Nat.le_of_ble_eq_true rfl, Nat.le_of_ble_eq_true rfl⟩) hK hP hD hS hZ rfl hl.1 rfl (Nat.le_of_ble_eq_true rfl) ⟨Nat.zero_le _, Nat.zero_le _⟩ dX2_proves_172 (fun r_15 _ H locs hw hP hD hS => ?_)
            have hw : r_15 = (byi (u0.2.2.2.2.2.2.2.2 (b % 32 / 8)) (b % 8)) := hw
            subst hw
            have hP : va_P D vwCl (wm r cI cJ (0 + 1 + b) tl lv u_8.2.1 u_8.2.2.1 u_8.2.2.2.1 (cat (upd u_8.2.2.2.2.1 0 (((1 : Int32)) &&& 255)) (0 + 1) (pg false (fun z => u_8.2.2.2.2.2.2.2 (4 * xo (i0 / 2 ^ t) + z)) u0.2.2.2.2.2.2.2.2) b) u_8.2.2.2.2.2.1 u_8.2.2.2.2.2.2.1 ro be tp bs sz u_8.2.2.2.2.2.2.2 u0.2.2.2.2.2.2.2.2) H := hP
            have hD : va_D A (wm r cI cJ (0 + 1 + b) tl lv u_8.2.1 u_8.2.2.1 u_8.2.2.2.1 (cat (upd u_8.2.2.2.2.1 0 (((1 : Int32)) &&& 255)) (0 + 1) (pg false (fun z => u_8.2.2.2.2.2.2.2 (4 * xo (i0 / 2 ^ t) + z)) u0.2.2.2.2.2.2.2.2) b) u_8.2.2.2.2.2.1 u_8.2.2.2.2.2.2.1 ro be tp bs sz u_8.2.2.2.2.2.2.2 u0.2.2.2.2.2.2.2.2) := hD
            refine kc_v (As := [.int (byi (u0.2.2.2.2.2.2.2.2 (b % 32 / 8)) (b % 8))]) (rest := []) ⟨hx, hb, hml, hown, hts⟩ (m_hashByte l D A r cI cJ (0 + 1 + b) tl lv u_8.2.1 u_8.2.2.1 u_8.2.2.2.1 (cat (upd u_8.2.2.2.2.1 0 (((1 : Int32)) &&& 255)) (0 + 1) (pg false (fun z => u_8.2.2.2.2.2.2.2 (4 * xo (i0 / 2 ^ t) + z)) u0.2.2.2.2.2.2.2.2) b) u_8.2.2.2.2.2.1 u_8.2.2.2.2.2.2.1 ro be tp bs sz u_8.2.2.2.2.2.2.2 u0.2.2.2.2.2.2.2.2 ((byi (u0.2.2.2.2.2.2.2.2 (b % 32 / 8)) (b % 8))) (by omega)) (cwV 1 hts (gMV (List.mem_of_getElem? (i := 45) rfl) (List.mem_of_getElem? (i := 46) rfl) (List.mem_of_getElem? (i := 112) rfl) (List.mem_of_getElem? (i := 0) rfl) (List.mem_of_getElem? (i := 47) rfl)) rfl rfl rfl (by decide +kernel) ⟨Nat.le_of_ble_eq_true rfl, Nat.le_of_ble_eq_true rfl⟩) (va_recv hK hP (ci := 2) (q0 := 0) rfl rfl) hK hP hD hS hZ rfl hl.1 rfl (Nat.le_of_ble_eq_true rfl) ⟨Nat.zero_le _, Nat.zero_le _⟩ dX2_proves_175 (fun _ H locs _ hP hD hS => ?_)
            have hP : va_P D vwCl (wm r cI cJ ((0 + 1 + b) + 1) tl lv u_8.2.1 u_8.2.2.1 u_8.2.2.2.1 (upd (cat (upd u_8.2.2.2.2.1 0 (((1 : Int32)) &&& 255)) (0 + 1) (pg false (fun z => u_8.2.2.2.2.2.2.2 (4 * xo (i0 / 2 ^ t) + z)) u0.2.2.2.2.2.2.2.2) b) (0 + 1 + b) ((byi (u0.2.2.2.2.2.2.2.2 (b % 32 / 8)) (b % 8)) &&& 255)) u_8.2.2.2.2.2.1 u_8.2.2.2.2.2.2.1 ro be tp bs sz u_8.2.2.2.2.2.2.2 u0.2.2.2.2.2.2.2.2) H := hP
            have hD : va_D A (wm r cI cJ ((0 + 1 + b) + 1) tl lv u_8.2.1 u_8.2.2.1 u_8.2.2.2.1 (upd (cat (upd u_8.2.2.2.2.1 0 (((1 : Int32)) &&& 255)) (0 + 1) (pg false (fun z => u_8.2.2.2.2.2.2.2 (4 * xo (i0 / 2 ^ t) + z)) u0.2.2.2.2.2.2.2.2) b) (0 + 1 + b) ((byi (u0.2.2.2.2.2.2.2.2 (b % 32 / 8)) (b % 8)) &&& 255)) u_8.2.2.2.2.2.1 u_8.2.2.2.2.2.2.1 ro be tp bs sz u_8.2.2.2.2.2.2.2 u0.2.2.2.2.2.2.2.2) := hD
            first | rw [cat_s _ _ _ _ (pg_x (left := true) (decide_eq_true c_107))] at hP hD | rw [cat_s _ _ _ _ (pg_x (left := false) (decide_eq_false (Nat.not_lt.mpr c_107)))] at hP hD | rw [cat_s _ _ _ _ (pg_y (left := false) (by rw [decide_eq_true c_107]; decide))] at hP hD | rw [cat_s _ _ _ _ (pg_y (left := true) (by rw [decide_eq_false (Nat.not_lt.mpr c_107)]; decide))] at hP hD
            have hP : va_P D vwCl (wm r cI cJ ((0 + 1 + b) + 1) tl lv u_8.2.1 u_8.2.2.1 u_8.2.2.2.1 (cat (upd u_8.2.2.2.2.1 0 (((1 : Int32)) &&& 255)) (0 + 1) (pg false (fun z => u_8.2.2.2.2.2.2.2 (4 * xo (i0 / 2 ^ t) + z)) u0.2.2.2.2.2.2.2.2) (b + 1)) u_8.2.2.2.2.2.1 u_8.2.2.2.2.2.2.1 ro be tp bs sz u_8.2.2.2.2.2.2.2 u0.2.2.2.2.2.2.2.2) H := hP
            have hD : va_D A (wm r cI cJ ((0 + 1 + b) + 1) tl lv u_8.2.1 u_8.2.2.1 u_8.2.2.2.1 (cat (upd u_8.2.2.2.2.1 0 (((1 : Int32)) &&& 255)) (0 + 1) (pg false (fun z => u_8.2.2.2.2.2.2.2 (4 * xo (i0 / 2 ^ t) + z)) u0.2.2.2.2.2.2.2.2) (b + 1)) u_8.2.2.2.2.2.1 u_8.2.2.2.2.2.2.1 ro be tp bs sz u_8.2.2.2.2.2.2.2 u0.2.2.2.2.2.2.2.2) := hD
            refine lv_iinc (v := (nI (b + 1))) (lv' := [(6, .int (nI (b + 1))), (7, .int ((0 : Int32))), (0, .ref (r 0)), (1, .int (nI i0)), (2, .int (nI (stc lv i0 (rl lv)))), (3, .int (nI j)), (4, .int (nI (xo (i0 / 2 ^ t)))), (5, .int ((0 : Int32)))]) hx hb dX2_proves_178 hl (k := 7) rfl (kn_inc _ _ 1 rfl) (by decide) rfl (fun ls hl => ?_)
            refine lv_goto (tgt := 96) hx hb dX2_proves_181 (by decide) ?_
            exact ih_b hltb _ _ _ ⟨hP, hD, hS, (lv_sub hl [2, 3, 4, 5, 6, 7, 0] rfl)⟩
      · have c_73 : (xo (i0 / 2 ^ t) % 2) = 0 := kn_eq0 c_73 (by omega)
        refine lv_iconst (v := ((1 : Int32))) hx hb dX2_proves_76 (by decide) ?_
        refine lv_goto (tgt := 81) hx hb dX2_proves_77 (by decide) ?_
        refine lv_istore (lv' := [(5, .int ((1 : Int32))), (4, .int (nI (xo (i0 / 2 ^ t)))), (0, .ref (r 0)), (1, .int (nI i0)), (2, .int (nI (stc lv i0 (rl lv)))), (3, .int (nI j))]) hx hb dX2_proves_81 hl (by decide) rfl (fun ls hl => ?_)
        refine lv_aload_n hx hb dX2_proves_83 rfl (lv_at hl 2 rfl) ?_
        refine lv_iconst (v := (nI (0))) hx hb dX2_proves_84 (by decide) ?_
        refine va_put (D := D) (ci := 2) (v := .int (nI 0)) (ty := .int) (C := RX2) (T := TX2) (N := 16) hx hb hts hin_2 tyX2 tyX2_ok nmX2 hown hK hP hD hS 0 rfl rfl 1 (by decide) lk_25 (fun _ h9 => h9) rfl (by decide +kernel) rfl rfl (Nat.le_of_ble_eq_true rfl) dX2_proves_85 (fun H locs hP hD hS => ?_)
        have hP : va_P D vwCl (wm r cI cJ 0 tl lv u_8.2.1 u_8.2.2.1 u_8.2.2.2.1 u_8.2.2.2.2.1 u_8.2.2.2.2.2.1 u_8.2.2.2.2.2.2.1 ro be tp bs sz u_8.2.2.2.2.2.2.2 u0.2.2.2.2.2.2.2.2) H := hP
        have hD : va_D A (wm r cI cJ 0 tl lv u_8.2.1 u_8.2.2.1 u_8.2.2.2.1 u_8.2.2.2.2.1 u_8.2.2.2.2.2.1 u_8.2.2.2.2.2.2.1 ro be tp bs sz u_8.2.2.2.2.2.2.2 u0.2.2.2.2.2.2.2.2) := hD
        refine lv_aload_n hx hb dX2_proves_88 rfl (lv_at hl 2 rfl) ?_
        refine lv_iconst (v := ((1 : Int32))) hx hb dX2_proves_89 (by decide) ?_
        refine kc_v (As := [.int ((1 : Int32))]) (rest := []) ⟨hx, hb, hml, hown, hts⟩ (m_hashByte l D A r cI cJ 0 tl lv u_8.2.1 u_8.2.2.1 u_8.2.2.2.1 u_8.2.2.2.2.1 u_8.2.2.2.2.2.1 u_8.2.2.2.2.2.2.1 ro be tp bs sz u_8.2.2.2.2.2.2.2 u0.2.2.2.2.2.2.2.2 (((1 : Int32))) (by omega)) (cwV 1 hts (gMV (List.mem_of_getElem? (i := 45) rfl) (List.mem_of_getElem? (i := 46) rfl) (List.mem_of_getElem? (i := 112) rfl) (List.mem_of_getElem? (i := 0) rfl) (List.mem_of_getElem? (i := 47) rfl)) rfl rfl rfl (by decide +kernel) ⟨Nat.le_of_ble_eq_true rfl, Nat.le_of_ble_eq_true rfl⟩) (va_recv hK hP (ci := 2) (q0 := 0) rfl rfl) hK hP hD hS hZ rfl hl.1 rfl (Nat.le_of_ble_eq_true rfl) ⟨Nat.zero_le _, Nat.zero_le _⟩ dX2_proves_90 (fun _ H locs _ hP hD hS => ?_)
        have hP : va_P D vwCl (wm r cI cJ (0 + 1) tl lv u_8.2.1 u_8.2.2.1 u_8.2.2.2.1 (upd u_8.2.2.2.2.1 0 (((1 : Int32)) &&& 255)) u_8.2.2.2.2.2.1 u_8.2.2.2.2.2.2.1 ro be tp bs sz u_8.2.2.2.2.2.2.2 u0.2.2.2.2.2.2.2.2) H := hP
        have hD : va_D A (wm r cI cJ (0 + 1) tl lv u_8.2.1 u_8.2.2.1 u_8.2.2.2.1 (upd u_8.2.2.2.2.1 0 (((1 : Int32)) &&& 255)) u_8.2.2.2.2.2.1 u_8.2.2.2.2.2.2.1 ro be tp bs sz u_8.2.2.2.2.2.2.2 u0.2.2.2.2.2.2.2.2) := hD
        rw [← cat_0 (upd u_8.2.2.2.2.1 0 (((1 : Int32)) &&& 255)) (0 + 1) (pg true (fun z => u_8.2.2.2.2.2.2.2 (4 * xo (i0 / 2 ^ t) + z)) u0.2.2.2.2.2.2.2.2)] at hP hD
        refine lv_iconst (v := (nI (0))) hx hb dX2_proves_93 (by decide) ?_
        refine lv_istore (lv' := [(6, .int (nI 0)), (5, .int ((1 : Int32))), (4, .int (nI (xo (i0 / 2 ^ t)))), (0, .ref (r 0)), (1, .int (nI i0)), (2, .int (nI (stc lv i0 (rl lv)))), (3, .int (nI j))]) hx hb dX2_proves_94 hl (by decide) rfl (fun ls hl => ?_)
        refine kp_lp (hd := 96) (nn := 64) (fun (b : Nat) (H : Heap) (locs : List Loc) (ls : Array Slot) => va_P D vwCl (wm r cI cJ (0 + 1 + b) tl lv u_8.2.1 u_8.2.2.1 u_8.2.2.2.1 (cat (upd u_8.2.2.2.2.1 0 (((1 : Int32)) &&& 255)) (0 + 1) (pg true (fun z => u_8.2.2.2.2.2.2.2 (4 * xo (i0 / 2 ^ t) + z)) u0.2.2.2.2.2.2.2.2) b) u_8.2.2.2.2.2.1 u_8.2.2.2.2.2.2.1 ro be tp bs sz u_8.2.2.2.2.2.2.2 u0.2.2.2.2.2.2.2.2) H ∧ va_D A (wm r cI cJ (0 + 1 + b) tl lv u_8.2.1 u_8.2.2.1 u_8.2.2.2.1 (cat (upd u_8.2.2.2.2.1 0 (((1 : Int32)) &&& 255)) (0 + 1) (pg true (fun z => u_8.2.2.2.2.2.2.2 (4 * xo (i0 / 2 ^ t) + z)) u0.2.2.2.2.2.2.2.2) b) u_8.2.2.2.2.2.1 u_8.2.2.2.2.2.2.1 ro be tp bs sz u_8.2.2.2.2.2.2.2 u0.2.2.2.2.2.2.2.2) ∧ va_S A s.heap H locs ∧ lv_has ls 8 [(0, .ref (r 0)), (1, .int (nI i0)), (2, .int (nI (stc lv i0 (rl lv)))), (3, .int (nI j)), (4, .int (nI (xo (i0 / 2 ^ t)))), (5, .int ((1 : Int32))), (6, .int (nI b))]) ?_ 0 (by omega) _ _ _ ⟨hP, hD, hS, (lv_sub hl [3, 4, 5, 6, 2, 1, 0] rfl)⟩
        intro b hbN H locs ls hI ih_b
        obtain ⟨hP, hD, hS, hl⟩ := hI
        refine lv_iload hx hb dX2_proves_96 (lv_at hl 6 rfl) ?_
        refine lv_bipush (v := (nI (64))) hx hb dX2_proves_98 (by decide) ?_
        refine lv_icmp_ge (tgt := 184) hx hb dX2_proves_100 (by decide) (fun c_100 => ?_) (fun c_100 => ?_)
        · have c_100 : 64 ≤ b := kn_le c_100 (by omega) (by omega)
          have e9 : 64 = b := by omega
          subst e9
          refine lv_aload_n hx hb dX2_proves_184 rfl (lv_at hl 0 rfl) ?_
          refine kc_v (As := []) (rest := []) ⟨hx, hb, hml, hown, hts⟩ (m_digest l D A r cI cJ (0 + 1 + 64) tl lv u_8.2.1 u_8.2.2.1 u_8.2.2.2.1 (cat (upd u_8.2.2.2.2.1 0 (((1 : Int32)) &&& 255)) (0 + 1) (pg true (fun z => u_8.2.2.2.2.2.2.2 (4 * xo (i0 / 2 ^ t) + z)) u0.2.2.2.2.2.2.2.2) 64) u_8.2.2.2.2.2.1 u_8.2.2.2.2.2.2.1 ro be tp bs sz u_8.2.2.2.2.2.2.2 u0.2.2.2.2.2.2.2.2 (ndm (nv lv (lid LB sz) t (xo (i0 / 2 ^ t))) (pvn lv i0 (lid LB sz) (lfh T tl) t)) (by decide) (pg_rel (hLw _ hxw) (hI_0 t (by omega) hs8) (fun _ => ⟨rfl, rfl⟩) (fun h => absurd h (by decide))) h4 h5) (cwV 0 hts (gMV (List.mem_of_getElem? (i := 48) rfl) (List.mem_of_getElem? (i := 49) rfl) (List.mem_of_getElem? (i := 113) rfl) (List.mem_of_getElem? (i := 0) rfl) (List.mem_of_getElem? (i := 50) rfl)) rfl rfl rfl (by decide +kernel) ⟨Nat.le_of_ble_eq_true rfl, Nat.le_of_ble_eq_true rfl⟩) (va_recv hK hP (ci := 2) (q0 := 0) rfl rfl) hK hP hD hS hZ rfl hl.1 rfl (Nat.le_of_ble_eq_true rfl) ⟨Nat.zero_le _, Nat.zero_le _⟩ dX2_proves_185 (fun u_18 H locs hw_u_18 hP hD hS => ?_)
          have hP : va_P D vwCl (wm r cI cJ u_18.1 tl lv u_8.2.1 u_8.2.2.1 u_8.2.2.2.1 u_18.2.1 u_18.2.2.1 u_18.2.2.2 ro be tp bs sz u_8.2.2.2.2.2.2.2 u0.2.2.2.2.2.2.2.2) H := hP
          have hD : va_D A (wm r cI cJ u_18.1 tl lv u_8.2.1 u_8.2.2.1 u_8.2.2.2.1 u_18.2.1 u_18.2.2.1 u_18.2.2.2 ro be tp bs sz u_8.2.2.2.2.2.2.2 u0.2.2.2.2.2.2.2.2) := hD
          rw [← catL_0 u0.2.2.2.2.2.2.2.2 0 (lw8 u_18.2.2.1)] at hP hD
          refine lv_iconst (v := (nI (0))) hx hb dX2_proves_188 (by decide) ?_
          refine lv_istore (lv' := [(6, .int (nI 0)), (0, .ref (r 0)), (1, .int (nI i0)), (2, .int (nI (stc lv i0 (rl lv)))), (3, .int (nI j)), (4, .int (nI (xo (i0 / 2 ^ t)))), (5, .int ((1 : Int32)))]) hx hb dX2_proves_189 hl (by decide) rfl (fun ls hl => ?_)
          refine kp_lp (hd := 191) (nn := 4) (fun (a : Nat) (H : Heap) (locs : List Loc) (ls : Array Slot) => va_P D vwCl (wm r cI cJ u_18.1 tl lv u_8.2.1 u_8.2.2.1 u_8.2.2.2.1 u_18.2.1 u_18.2.2.1 u_18.2.2.2 ro be tp bs sz u_8.2.2.2.2.2.2.2 (catL u0.2.2.2.2.2.2.2.2 0 (lw8 u_18.2.2.1) a)) H ∧ va_D A (wm r cI cJ u_18.1 tl lv u_8.2.1 u_8.2.2.1 u_8.2.2.2.1 u_18.2.1 u_18.2.2.1 u_18.2.2.2 ro be tp bs sz u_8.2.2.2.2.2.2.2 (catL u0.2.2.2.2.2.2.2.2 0 (lw8 u_18.2.2.1) a)) ∧ va_S A s.heap H locs ∧ lv_has ls 8 [(0, .ref (r 0)), (1, .int (nI i0)), (2, .int (nI (stc lv i0 (rl lv)))), (3, .int (nI j)), (6, .int (nI a))]) ?_ 0 (by omega) _ _ _ ⟨hP, hD, hS, (lv_sub hl [1, 2, 3, 4, 0] rfl)⟩
          intro a haN H locs ls hI ih_a
          obtain ⟨hP, hD, hS, hl⟩ := hI
          refine lv_iload hx hb dX2_proves_191 (lv_at hl 4 rfl) ?_
          refine lv_iconst (v := (nI (4))) hx hb dX2_proves_193 (by decide) ?_
          refine lv_icmp_ge (tgt := 216) hx hb dX2_proves_194 (by decide) (fun c_194 => ?_) (fun c_194 => ?_)
          · have c_194 : 4 ≤ a := kn_le c_194 (by omega) (by omega)
            have e9 : 4 = a := by omega
            subst e9
            refine lv_iinc (v := (nI (j + 1))) (lv' := [(3, .int (nI (j + 1))), (0, .ref (r 0)), (1, .int (nI i0)), (2, .int (nI (stc lv i0 (rl lv)))), (6, .int (nI 4))]) hx hb dX2_proves_216 hl (k := 3) rfl (kn_inc _ _ 1 rfl) (by decide) rfl (fun ls hl => ?_)
            refine lv_goto (tgt := 56) hx hb dX2_proves_219 (by decide) ?_
            exact ih_j hltj _ _ _ ⟨(u_18.1, u_8.2.1, u_8.2.2.1, u_8.2.2.2.1, u_18.2.1, u_18.2.2.1, u_18.2.2.2, u_8.2.2.2.2.2.2.2, catL u0.2.2.2.2.2.2.2.2 0 (lw8 u_18.2.2.1) 4), fun t' h9 ht' a ha => (catL_in0 ha).trans (pv_next hb8 hs8 hw_u_18 (fun _ => ⟨rfl, rfl⟩) (fun c => absurd (xo_p1 c_73) c) t' h9 ht' a ha), hP, hD, hS, (lv_sub hl [1, 2, 3, 0] rfl)⟩
          · have c_194 : a < 4 := kn_nle c_194 (by omega) (by omega)
            have hlta : a < 4 := c_194
            refine lv_aload_n hx hb dX2_proves_197 rfl (lv_at hl 0 rfl) ?_
            refine va_get (D := D) (ci := 2) (v := .ref (r 10)) (C := RX2) (T := TX2) (N := 16) hx hb hts hin_2 hown hK hP 0 rfl rfl 15 (by decide) lk_64 (fun _ h9 => h9) rfl dX2_proves_198 ?_
            refine lv_iload hx hb dX2_proves_201 (lv_at hl 4 rfl) ?_
            refine lv_aload_n hx hb dX2_proves_203 rfl (lv_at hl 0 rfl) ?_
            refine lv_iload hx hb dX2_proves_204 (lv_at hl 4 rfl) ?_
            refine kc_l (As := [.int (nI a)]) (rest := [.int (nI a), .ref (r 10)]) ⟨hx, hb, hml, hown, hts⟩ (m_sum l D A r cI cJ u_18.1 tl lv u_8.2.1 u_8.2.2.1 u_8.2.2.2.1 u_18.2.1 u_18.2.2.1 u_18.2.2.2 ro be tp bs sz u_8.2.2.2.2.2.2.2 (catL u0.2.2.2.2.2.2.2.2 0 (lw8 u_18.2.2.1) a) a (by omega)) (cwV 1 hts (gMV (List.mem_of_getElem? (i := 57) rfl) (List.mem_of_getElem? (i := 58) rfl) (List.mem_of_getElem? (i := 115) rfl) (List.mem_of_getElem? (i := 0) rfl) (List.mem_of_getElem? (i := 59) rfl)) rfl rfl rfl (by decide +kernel) ⟨Nat.le_of_ble_eq_true rfl, Nat.le_of_ble_eq_true rfl⟩) (va_recv hK hP (ci := 2) (q0 := 0) rfl rfl) hK hP hD hS hZ rfl hl.1 rfl (Nat.le_of_ble_eq_true rfl) ⟨Nat.zero_le _, Nat.zero_le _⟩ dX2_proves_206 (fun r_19 _ H locs hw hP hD hS => ?_)
            have hw : r_19 = (lw8 u_18.2.2.1 a) := hw
            subst hw
            have hP : va_P D vwCl (wm r cI cJ u_18.1 tl lv u_8.2.1 u_8.2.2.1 u_8.2.2.2.1 u_18.2.1 u_18.2.2.1 u_18.2.2.2 ro be tp bs sz u_8.2.2.2.2.2.2.2 (catL u0.2.2.2.2.2.2.2.2 0 (lw8 u_18.2.2.1) a)) H := hP
            have hD : va_D A (wm r cI cJ u_18.1 tl lv u_8.2.1 u_8.2.2.1 u_8.2.2.2.1 u_18.2.1 u_18.2.2.1 u_18.2.2.2 ro be tp bs sz u_8.2.2.2.2.2.2.2 (catL u0.2.2.2.2.2.2.2.2 0 (lw8 u_18.2.2.1) a)) := hD
            refine kb_last hx hb hK hP hD hS 10 1 rfl rfl (a) (rfl) (by omega) (by decide) dX2_proves_209 (fun H locs hP hD hS => ?_)
            have hP : va_P D vwCl (wm r cI cJ u_18.1 tl lv u_8.2.1 u_8.2.2.1 u_8.2.2.2.1 u_18.2.1 u_18.2.2.1 u_18.2.2.2 ro be tp bs sz u_8.2.2.2.2.2.2.2 (vp_updL (catL u0.2.2.2.2.2.2.2.2 0 (lw8 u_18.2.2.1) a) (a) ((lw8 u_18.2.2.1 a)))) H := hP
            have hD : va_D A (wm r cI cJ u_18.1 tl lv u_8.2.1 u_8.2.2.1 u_8.2.2.2.1 u_18.2.1 u_18.2.2.1 u_18.2.2.2 ro be tp bs sz u_8.2.2.2.2.2.2.2 (vp_updL (catL u0.2.2.2.2.2.2.2.2 0 (lw8 u_18.2.2.1) a) (a) ((lw8 u_18.2.2.1 a)))) := hD
            rw [catL_s0 _ _ _ rfl] at hP hD
            have hP : va_P D vwCl (wm r cI cJ u_18.1 tl lv u_8.2.1 u_8.2.2.1 u_8.2.2.2.1 u_18.2.1 u_18.2.2.1 u_18.2.2.2 ro be tp bs sz u_8.2.2.2.2.2.2.2 (catL u0.2.2.2.2.2.2.2.2 0 (lw8 u_18.2.2.1) (a + 1))) H := hP
            have hD : va_D A (wm r cI cJ u_18.1 tl lv u_8.2.1 u_8.2.2.1 u_8.2.2.2.1 u_18.2.1 u_18.2.2.1 u_18.2.2.2 ro be tp bs sz u_8.2.2.2.2.2.2.2 (catL u0.2.2.2.2.2.2.2.2 0 (lw8 u_18.2.2.1) (a + 1))) := hD
            refine lv_iinc (v := (nI (a + 1))) (lv' := [(6, .int (nI (a + 1))), (0, .ref (r 0)), (1, .int (nI i0)), (2, .int (nI (stc lv i0 (rl lv)))), (3, .int (nI j))]) hx hb dX2_proves_210 hl (k := 4) rfl (kn_inc _ _ 1 rfl) (by decide) rfl (fun ls hl => ?_)
            refine lv_goto (tgt := 191) hx hb dX2_proves_213 (by decide) ?_
            exact ih_a hlta _ _ _ ⟨hP, hD, hS, (lv_sub hl [1, 2, 3, 4, 0] rfl)⟩
        · have c_100 : b < 64 := kn_nle c_100 (by omega) (by omega)
          have hltb : b < 64 := c_100
          refine lv_iload hx hb dX2_proves_103 (lv_at hl 6 rfl) ?_
          refine lv_bipush (v := (nI (32))) hx hb dX2_proves_105 (by decide) ?_
          refine lv_icmp_ge (tgt := 114) hx hb dX2_proves_107 (by decide) (fun c_107 => ?_) (fun c_107 => ?_)
          · have c_107 : 32 ≤ b := kn_le c_107 (by omega) (by omega)
            refine lv_iconst (v := ((0 : Int32))) hx hb dX2_proves_114 (by decide) ?_
            refine lv_iload hx hb dX2_proves_115 (lv_at hl 5 rfl) ?_
            refine lv_icmp_ne (tgt := 124) hx hb dX2_proves_117 (by decide) (fun c_117 => ?_) (fun c_117 => absurd c_117 (by decide))
            refine lv_iconst (v := ((0 : Int32))) hx hb dX2_proves_124 (by decide) ?_
            refine lv_istore (lv' := [(7, .int ((0 : Int32))), (0, .ref (r 0)), (1, .int (nI i0)), (2, .int (nI (stc lv i0 (rl lv)))), (3, .int (nI j)), (4, .int (nI (xo (i0 / 2 ^ t)))), (5, .int ((1 : Int32))), (6, .int (nI b))]) hx hb dX2_proves_125 hl (by decide) rfl (fun ls hl => ?_)
            refine lv_aload_n hx hb dX2_proves_127 rfl (lv_at hl 1 rfl) ?_
            refine lv_iload hx hb dX2_proves_128 (lv_at hl 0 rfl) ?_
            refine lv_if_eq (tgt := 154) hx hb dX2_proves_130 (by decide) (fun c_130 => ?_) (fun c_130 => absurd c_130 (by decide))
            refine lv_aload_n hx hb dX2_proves_154 rfl (lv_at hl 1 rfl) ?_
            refine va_get (D := D) (ci := 2) (v := .ref (r 10)) (C := RX2) (T := TX2) (N := 16) hx hb hts hin_2 hown hK hP 0 rfl rfl 15 (by decide) lk_64 (fun _ h9 => h9) rfl dX2_proves_155 ?_
            refine lv_iload hx hb dX2_proves_158 (lv_at hl 7 rfl) ?_
            refine lv_bipush (v := (nI (32))) hx hb dX2_proves_160 (by decide) ?_
            refine lv_irem hx hb dX2_proves_162 (by decide) ?_
            refine kp_i (y := (nI (b % 32))) (pk_rem (by omega) (by decide) (by decide)) ?_
            refine lv_bipush (v := (nI (8))) hx hb dX2_proves_163 (by decide) ?_
            refine lv_idiv hx hb dX2_proves_165 (by decide) ?_
            refine kp_i (y := (nI (b % 32 / 8))) (pk_div (by omega) (by decide) (by decide)) ?_
            refine kb_lald hx hb hK hP 10 1 rfl rfl (b % 32 / 8) (rfl) (by omega) (by decide) dX2_proves_166 ?_
            refine lv_iload hx hb dX2_proves_167 (lv_at hl 7 rfl) ?_
            refine lv_bipush (v := (nI (8))) hx hb dX2_proves_169 (by decide) ?_
            refine lv_irem hx hb dX2_proves_171 (by decide) ?_
            refine kp_i (y := (nI (b % 8))) (pk_rem (by omega) (by decide) (by decide)) ?_
            refine kcs_i (As := [.long (u0.2.2.2.2.2.2.2.2 (b % 32 / 8)), .int (nI (b % 8))]) (rest := [.ref (r 0)]) ⟨hx, hb, hml, hown, hts⟩ (m_byteIn l D A r cI cJ (wm r cI cJ (0 + 1 + b) tl lv u_8.2.1 u_8.2.2.1 u_8.2.2.2.1 (cat (upd u_8.2.2.2.2.1 0 (((1 : Int32)) &&& 255)) (0 + 1) (pg true (fun z => u_8.2.2.2.2.2.2.2 (4 * xo (i0 / 2 ^ t) + z)) u0.2.2.2.2.2.2.2.2) b) u_8.2.2.2.2.2.1 u_8.2.2.2.2.2.2.1 ro be tp bs sz u_8.2.2.2.2.2.2.2 u0.2.2.2.2.2.2.2.2) ((u0.2.2.2.2.2.2.2.2 (b % 32 / 8))) (b % 8) (by omega)) (cwS 2 hts (gMS (List.mem_of_getElem? (i := 87) rfl) (List.mem_of_getElem? (i := 88) rfl) (List.mem_of_getElem? (i := 0) rfl) (List.mem_of_getElem? (i := 89) rfl)) rfl rfl rfl (by decide +kernel) ⟨Nat.le_of_ble_eq_true rfl, Nat.le_of_ble_eq_true rfl⟩) hK hP hD hS hZ rfl hl.1 rfl (Nat.le_of_ble_eq_true rfl) ⟨Nat.zero_le _, Nat.zero_le _⟩ dX2_proves_172 (fun r_20 _ H locs hw hP hD hS => ?_)
            have hw : r_20 = (byi (u0.2.2.2.2.2.2.2.2 (b % 32 / 8)) (b % 8)) := hw
            subst hw
            have hP : va_P D vwCl (wm r cI cJ (0 + 1 + b) tl lv u_8.2.1 u_8.2.2.1 u_8.2.2.2.1 (cat (upd u_8.2.2.2.2.1 0 (((1 : Int32)) &&& 255)) (0 + 1) (pg true (fun z => u_8.2.2.2.2.2.2.2 (4 * xo (i0 / 2 ^ t) + z)) u0.2.2.2.2.2.2.2.2) b) u_8.2.2.2.2.2.1 u_8.2.2.2.2.2.2.1 ro be tp bs sz u_8.2.2.2.2.2.2.2 u0.2.2.2.2.2.2.2.2) H := hP
            have hD : va_D A (wm r cI cJ (0 + 1 + b) tl lv u_8.2.1 u_8.2.2.1 u_8.2.2.2.1 (cat (upd u_8.2.2.2.2.1 0 (((1 : Int32)) &&& 255)) (0 + 1) (pg true (fun z => u_8.2.2.2.2.2.2.2 (4 * xo (i0 / 2 ^ t) + z)) u0.2.2.2.2.2.2.2.2) b) u_8.2.2.2.2.2.1 u_8.2.2.2.2.2.2.1 ro be tp bs sz u_8.2.2.2.2.2.2.2 u0.2.2.2.2.2.2.2.2) := hD
            refine kc_v (As := [.int (byi (u0.2.2.2.2.2.2.2.2 (b % 32 / 8)) (b % 8))]) (rest := []) ⟨hx, hb, hml, hown, hts⟩ (m_hashByte l D A r cI cJ (0 + 1 + b) tl lv u_8.2.1 u_8.2.2.1 u_8.2.2.2.1 (cat (upd u_8.2.2.2.2.1 0 (((1 : Int32)) &&& 255)) (0 + 1) (pg true (fun z => u_8.2.2.2.2.2.2.2 (4 * xo (i0 / 2 ^ t) + z)) u0.2.2.2.2.2.2.2.2) b) u_8.2.2.2.2.2.1 u_8.2.2.2.2.2.2.1 ro be tp bs sz u_8.2.2.2.2.2.2.2 u0.2.2.2.2.2.2.2.2 ((byi (u0.2.2.2.2.2.2.2.2 (b % 32 / 8)) (b % 8))) (by omega)) (cwV 1 hts (gMV (List.mem_of_getElem? (i := 45) rfl) (List.mem_of_getElem? (i := 46) rfl) (List.mem_of_getElem? (i := 112) rfl) (List.mem_of_getElem? (i := 0) rfl) (List.mem_of_getElem? (i := 47) rfl)) rfl rfl rfl (by decide +kernel) ⟨Nat.le_of_ble_eq_true rfl, Nat.le_of_ble_eq_true rfl⟩) (va_recv hK hP (ci := 2) (q0 := 0) rfl rfl) hK hP hD hS hZ rfl hl.1 rfl (Nat.le_of_ble_eq_true rfl) ⟨Nat.zero_le _, Nat.zero_le _⟩ dX2_proves_175 (fun _ H locs _ hP hD hS => ?_)
            have hP : va_P D vwCl (wm r cI cJ ((0 + 1 + b) + 1) tl lv u_8.2.1 u_8.2.2.1 u_8.2.2.2.1 (upd (cat (upd u_8.2.2.2.2.1 0 (((1 : Int32)) &&& 255)) (0 + 1) (pg true (fun z => u_8.2.2.2.2.2.2.2 (4 * xo (i0 / 2 ^ t) + z)) u0.2.2.2.2.2.2.2.2) b) (0 + 1 + b) ((byi (u0.2.2.2.2.2.2.2.2 (b % 32 / 8)) (b % 8)) &&& 255)) u_8.2.2.2.2.2.1 u_8.2.2.2.2.2.2.1 ro be tp bs sz u_8.2.2.2.2.2.2.2 u0.2.2.2.2.2.2.2.2) H := hP
            have hD : va_D A (wm r cI cJ ((0 + 1 + b) + 1) tl lv u_8.2.1 u_8.2.2.1 u_8.2.2.2.1 (upd (cat (upd u_8.2.2.2.2.1 0 (((1 : Int32)) &&& 255)) (0 + 1) (pg true (fun z => u_8.2.2.2.2.2.2.2 (4 * xo (i0 / 2 ^ t) + z)) u0.2.2.2.2.2.2.2.2) b) (0 + 1 + b) ((byi (u0.2.2.2.2.2.2.2.2 (b % 32 / 8)) (b % 8)) &&& 255)) u_8.2.2.2.2.2.1 u_8.2.2.2.2.2.2.1 ro be tp bs sz u_8.2.2.2.2.2.2.2 u0.2.2.2.2.2.2.2.2) := hD
            first | rw [cat_s _ _ _ _ (pg_x (left := true) (decide_eq_true c_107))] at hP hD | rw [cat_s _ _ _ _ (pg_x (left := false) (decide_eq_false (Nat.not_lt.mpr c_107)))] at hP hD | rw [cat_s _ _ _ _ (pg_y (left := false) (by rw [decide_eq_true c_107]; decide))] at hP hD | rw [cat_s _ _ _ _ (pg_y (left := true) (by rw [decide_eq_false (Nat.not_lt.mpr c_107)]; decide))] at hP hD
            have hP : va_P D vwCl (wm r cI cJ ((0 + 1 + b) + 1) tl lv u_8.2.1 u_8.2.2.1 u_8.2.2.2.1 (cat (upd u_8.2.2.2.2.1 0 (((1 : Int32)) &&& 255)) (0 + 1) (pg true (fun z => u_8.2.2.2.2.2.2.2 (4 * xo (i0 / 2 ^ t) + z)) u0.2.2.2.2.2.2.2.2) (b + 1)) u_8.2.2.2.2.2.1 u_8.2.2.2.2.2.2.1 ro be tp bs sz u_8.2.2.2.2.2.2.2 u0.2.2.2.2.2.2.2.2) H := hP
            have hD : va_D A (wm r cI cJ ((0 + 1 + b) + 1) tl lv u_8.2.1 u_8.2.2.1 u_8.2.2.2.1 (cat (upd u_8.2.2.2.2.1 0 (((1 : Int32)) &&& 255)) (0 + 1) (pg true (fun z => u_8.2.2.2.2.2.2.2 (4 * xo (i0 / 2 ^ t) + z)) u0.2.2.2.2.2.2.2.2) (b + 1)) u_8.2.2.2.2.2.1 u_8.2.2.2.2.2.2.1 ro be tp bs sz u_8.2.2.2.2.2.2.2 u0.2.2.2.2.2.2.2.2) := hD
            refine lv_iinc (v := (nI (b + 1))) (lv' := [(6, .int (nI (b + 1))), (7, .int ((0 : Int32))), (0, .ref (r 0)), (1, .int (nI i0)), (2, .int (nI (stc lv i0 (rl lv)))), (3, .int (nI j)), (4, .int (nI (xo (i0 / 2 ^ t)))), (5, .int ((1 : Int32)))]) hx hb dX2_proves_178 hl (k := 7) rfl (kn_inc _ _ 1 rfl) (by decide) rfl (fun ls hl => ?_)
            refine lv_goto (tgt := 96) hx hb dX2_proves_181 (by decide) ?_
            exact ih_b hltb _ _ _ ⟨hP, hD, hS, (lv_sub hl [2, 3, 4, 5, 6, 7, 0] rfl)⟩
          · have c_107 : b < 32 := kn_nle c_107 (by omega) (by omega)
            refine lv_iconst (v := ((1 : Int32))) hx hb dX2_proves_110 (by decide) ?_
            refine lv_goto (tgt := 115) hx hb dX2_proves_111 (by decide) ?_
            refine lv_iload hx hb dX2_proves_115 (lv_at hl 5 rfl) ?_
            refine lv_icmp_ne (tgt := 124) hx hb dX2_proves_117 (by decide) (fun c_117 => absurd c_117 (by decide)) (fun c_117 => ?_)
            refine lv_iconst (v := ((1 : Int32))) hx hb dX2_proves_120 (by decide) ?_
            refine lv_goto (tgt := 125) hx hb dX2_proves_121 (by decide) ?_
            refine lv_istore (lv' := [(7, .int ((1 : Int32))), (0, .ref (r 0)), (1, .int (nI i0)), (2, .int (nI (stc lv i0 (rl lv)))), (3, .int (nI j)), (4, .int (nI (xo (i0 / 2 ^ t)))), (5, .int ((1 : Int32))), (6, .int (nI b))]) hx hb dX2_proves_125 hl (by decide) rfl (fun ls hl => ?_)
            refine lv_aload_n hx hb dX2_proves_127 rfl (lv_at hl 1 rfl) ?_
            refine lv_iload hx hb dX2_proves_128 (lv_at hl 0 rfl) ?_
            refine lv_if_eq (tgt := 154) hx hb dX2_proves_130 (by decide) (fun c_130 => absurd c_130 (by decide)) (fun c_130 => ?_)
            refine lv_aload_n hx hb dX2_proves_133 rfl (lv_at hl 1 rfl) ?_
            refine va_get (D := D) (ci := 2) (v := .ref (r 9)) (C := RX2) (T := TX2) (N := 16) hx hb hts hin_2 hown hK hP 0 rfl rfl 11 (by decide) lk_60 (fun _ h9 => h9) rfl dX2_proves_134 ?_
            refine lv_iconst (v := (nI (4))) hx hb dX2_proves_137 (by decide) ?_
            refine lv_iload hx hb dX2_proves_138 (lv_at hl 5 rfl) ?_
            refine lv_imul hx hb dX2_proves_140 ?_
            refine kp_i (pk_mul _ _) ?_
            refine lv_iload hx hb dX2_proves_141 (lv_at hl 7 rfl) ?_
            refine lv_bipush (v := (nI (32))) hx hb dX2_proves_143 (by decide) ?_
            refine lv_irem hx hb dX2_proves_145 (by decide) ?_
            refine kp_i (y := (nI (b % 32))) (pk_rem (by omega) (by decide) (by decide)) ?_
            refine lv_bipush (v := (nI (8))) hx hb dX2_proves_146 (by decide) ?_
            refine lv_idiv hx hb dX2_proves_148 (by decide) ?_
            refine kp_i (y := (nI (b % 32 / 8))) (pk_div (by omega) (by decide) (by decide)) ?_
            refine lv_iadd hx hb dX2_proves_149 ?_
            refine kp_i (nI_add _ _) ?_
            refine kb_lald hx hb hK hP 9 1 rfl rfl ((4 * (xo (i0 / 2 ^ t))) + (b % 32 / 8)) (rfl) (by omega) (by decide) dX2_proves_150 ?_
            refine lv_goto (tgt := 167) hx hb dX2_proves_151 (by decide) ?_
            refine lv_iload hx hb dX2_proves_167 (lv_at hl 7 rfl) ?_
            refine lv_bipush (v := (nI (8))) hx hb dX2_proves_169 (by decide) ?_
            refine lv_irem hx hb dX2_proves_171 (by decide) ?_
            refine kp_i (y := (nI (b % 8))) (pk_rem (by omega) (by decide) (by decide)) ?_
            refine kcs_i (As := [.long (u_8.2.2.2.2.2.2.2 ((4 * (xo (i0 / 2 ^ t))) + (b % 32 / 8))), .int (nI (b % 8))]) (rest := [.ref (r 0)]) ⟨hx, hb, hml, hown, hts⟩ (m_byteIn l D A r cI cJ (wm r cI cJ (0 + 1 + b) tl lv u_8.2.1 u_8.2.2.1 u_8.2.2.2.1 (cat (upd u_8.2.2.2.2.1 0 (((1 : Int32)) &&& 255)) (0 + 1) (pg true (fun z => u_8.2.2.2.2.2.2.2 (4 * xo (i0 / 2 ^ t) + z)) u0.2.2.2.2.2.2.2.2) b) u_8.2.2.2.2.2.1 u_8.2.2.2.2.2.2.1 ro be tp bs sz u_8.2.2.2.2.2.2.2 u0.2.2.2.2.2.2.2.2) ((u_8.2.2.2.2.2.2.2 ((4 * (xo (i0 / 2 ^ t))) + (b % 32 / 8)))) (b % 8) (by omega)) (cwS 2 hts (gMS (List.mem_of_getElem? (i := 87) rfl) (List.mem_of_getElem? (i := 88) rfl) (List.mem_of_getElem? (i := 0) rfl) (List.mem_of_getElem? (i := 89) rfl)) rfl rfl rfl (by decide +kernel) ⟨Nat.le_of_ble_eq_true rfl, Nat.le_of_ble_eq_true rfl⟩) hK hP hD hS hZ rfl hl.1 rfl (Nat.le_of_ble_eq_true rfl) ⟨Nat.zero_le _, Nat.zero_le _⟩ dX2_proves_172 (fun r_22 _ H locs hw hP hD hS => ?_)
            have hw : r_22 = (byi (u_8.2.2.2.2.2.2.2 ((4 * (xo (i0 / 2 ^ t))) + (b % 32 / 8))) (b % 8)) := hw
            subst hw
            have hP : va_P D vwCl (wm r cI cJ (0 + 1 + b) tl lv u_8.2.1 u_8.2.2.1 u_8.2.2.2.1 (cat (upd u_8.2.2.2.2.1 0 (((1 : Int32)) &&& 255)) (0 + 1) (pg true (fun z => u_8.2.2.2.2.2.2.2 (4 * xo (i0 / 2 ^ t) + z)) u0.2.2.2.2.2.2.2.2) b) u_8.2.2.2.2.2.1 u_8.2.2.2.2.2.2.1 ro be tp bs sz u_8.2.2.2.2.2.2.2 u0.2.2.2.2.2.2.2.2) H := hP
            have hD : va_D A (wm r cI cJ (0 + 1 + b) tl lv u_8.2.1 u_8.2.2.1 u_8.2.2.2.1 (cat (upd u_8.2.2.2.2.1 0 (((1 : Int32)) &&& 255)) (0 + 1) (pg true (fun z => u_8.2.2.2.2.2.2.2 (4 * xo (i0 / 2 ^ t) + z)) u0.2.2.2.2.2.2.2.2) b) u_8.2.2.2.2.2.1 u_8.2.2.2.2.2.2.1 ro be tp bs sz u_8.2.2.2.2.2.2.2 u0.2.2.2.2.2.2.2.2) := hD
            refine kc_v (As := [.int (byi (u_8.2.2.2.2.2.2.2 ((4 * (xo (i0 / 2 ^ t))) + (b % 32 / 8))) (b % 8))]) (rest := []) ⟨hx, hb, hml, hown, hts⟩ (m_hashByte l D A r cI cJ (0 + 1 + b) tl lv u_8.2.1 u_8.2.2.1 u_8.2.2.2.1 (cat (upd u_8.2.2.2.2.1 0 (((1 : Int32)) &&& 255)) (0 + 1) (pg true (fun z => u_8.2.2.2.2.2.2.2 (4 * xo (i0 / 2 ^ t) + z)) u0.2.2.2.2.2.2.2.2) b) u_8.2.2.2.2.2.1 u_8.2.2.2.2.2.2.1 ro be tp bs sz u_8.2.2.2.2.2.2.2 u0.2.2.2.2.2.2.2.2 ((byi (u_8.2.2.2.2.2.2.2 ((4 * (xo (i0 / 2 ^ t))) + (b % 32 / 8))) (b % 8))) (by omega)) (cwV 1 hts (gMV (List.mem_of_getElem? (i := 45) rfl) (List.mem_of_getElem? (i := 46) rfl) (List.mem_of_getElem? (i := 112) rfl) (List.mem_of_getElem? (i := 0) rfl) (List.mem_of_getElem? (i := 47) rfl)) rfl rfl rfl (by decide +kernel) ⟨Nat.le_of_ble_eq_true rfl, Nat.le_of_ble_eq_true rfl⟩) (va_recv hK hP (ci := 2) (q0 := 0) rfl rfl) hK hP hD hS hZ rfl hl.1 rfl (Nat.le_of_ble_eq_true rfl) ⟨Nat.zero_le _, Nat.zero_le _⟩ dX2_proves_175 (fun _ H locs _ hP hD hS => ?_)
            have hP : va_P D vwCl (wm r cI cJ ((0 + 1 + b) + 1) tl lv u_8.2.1 u_8.2.2.1 u_8.2.2.2.1 (upd (cat (upd u_8.2.2.2.2.1 0 (((1 : Int32)) &&& 255)) (0 + 1) (pg true (fun z => u_8.2.2.2.2.2.2.2 (4 * xo (i0 / 2 ^ t) + z)) u0.2.2.2.2.2.2.2.2) b) (0 + 1 + b) ((byi (u_8.2.2.2.2.2.2.2 ((4 * (xo (i0 / 2 ^ t))) + (b % 32 / 8))) (b % 8)) &&& 255)) u_8.2.2.2.2.2.1 u_8.2.2.2.2.2.2.1 ro be tp bs sz u_8.2.2.2.2.2.2.2 u0.2.2.2.2.2.2.2.2) H := hP
            have hD : va_D A (wm r cI cJ ((0 + 1 + b) + 1) tl lv u_8.2.1 u_8.2.2.1 u_8.2.2.2.1 (upd (cat (upd u_8.2.2.2.2.1 0 (((1 : Int32)) &&& 255)) (0 + 1) (pg true (fun z => u_8.2.2.2.2.2.2.2 (4 * xo (i0 / 2 ^ t) + z)) u0.2.2.2.2.2.2.2.2) b) (0 + 1 + b) ((byi (u_8.2.2.2.2.2.2.2 ((4 * (xo (i0 / 2 ^ t))) + (b % 32 / 8))) (b % 8)) &&& 255)) u_8.2.2.2.2.2.1 u_8.2.2.2.2.2.2.1 ro be tp bs sz u_8.2.2.2.2.2.2.2 u0.2.2.2.2.2.2.2.2) := hD
            first | rw [cat_s _ _ _ _ (pg_x (left := true) (decide_eq_true c_107))] at hP hD | rw [cat_s _ _ _ _ (pg_x (left := false) (decide_eq_false (Nat.not_lt.mpr c_107)))] at hP hD | rw [cat_s _ _ _ _ (pg_y (left := false) (by rw [decide_eq_true c_107]; decide))] at hP hD | rw [cat_s _ _ _ _ (pg_y (left := true) (by rw [decide_eq_false (Nat.not_lt.mpr c_107)]; decide))] at hP hD
            have hP : va_P D vwCl (wm r cI cJ ((0 + 1 + b) + 1) tl lv u_8.2.1 u_8.2.2.1 u_8.2.2.2.1 (cat (upd u_8.2.2.2.2.1 0 (((1 : Int32)) &&& 255)) (0 + 1) (pg true (fun z => u_8.2.2.2.2.2.2.2 (4 * xo (i0 / 2 ^ t) + z)) u0.2.2.2.2.2.2.2.2) (b + 1)) u_8.2.2.2.2.2.1 u_8.2.2.2.2.2.2.1 ro be tp bs sz u_8.2.2.2.2.2.2.2 u0.2.2.2.2.2.2.2.2) H := hP
            have hD : va_D A (wm r cI cJ ((0 + 1 + b) + 1) tl lv u_8.2.1 u_8.2.2.1 u_8.2.2.2.1 (cat (upd u_8.2.2.2.2.1 0 (((1 : Int32)) &&& 255)) (0 + 1) (pg true (fun z => u_8.2.2.2.2.2.2.2 (4 * xo (i0 / 2 ^ t) + z)) u0.2.2.2.2.2.2.2.2) (b + 1)) u_8.2.2.2.2.2.1 u_8.2.2.2.2.2.2.1 ro be tp bs sz u_8.2.2.2.2.2.2.2 u0.2.2.2.2.2.2.2.2) := hD
            refine lv_iinc (v := (nI (b + 1))) (lv' := [(6, .int (nI (b + 1))), (7, .int ((1 : Int32))), (0, .ref (r 0)), (1, .int (nI i0)), (2, .int (nI (stc lv i0 (rl lv)))), (3, .int (nI j)), (4, .int (nI (xo (i0 / 2 ^ t)))), (5, .int ((1 : Int32)))]) hx hb dX2_proves_178 hl (k := 7) rfl (kn_inc _ _ 1 rfl) (by decide) rfl (fun ls hl => ?_)
            refine lv_goto (tgt := 96) hx hb dX2_proves_181 (by decide) ?_
            exact ih_b hltb _ _ _ ⟨hP, hD, hS, (lv_sub hl [2, 3, 4, 5, 6, 7, 0] rfl)⟩
  · have c_28 : a < 4 := kn_nle c_28 (by omega) (by omega)
    have hlta : a < 4 := c_28
    refine lv_aload_n hx hb dX2_proves_31 rfl (lv_at hl 0 rfl) ?_
    refine va_get (D := D) (ci := 2) (v := .ref (r 10)) (C := RX2) (T := TX2) (N := 16) hx hb hts hin_2 hown hK hP 0 rfl rfl 15 (by decide) lk_64 (fun _ h9 => h9) rfl dX2_proves_32 ?_
    refine lv_iload_n hx hb dX2_proves_35 rfl (lv_at hl 2 rfl) ?_
    refine lv_aload_n hx hb dX2_proves_36 rfl (lv_at hl 0 rfl) ?_
    refine lv_iload_n hx hb dX2_proves_37 rfl (lv_at hl 2 rfl) ?_
    refine kc_l (As := [.int (nI a)]) (rest := [.int (nI a), .ref (r 10)]) ⟨hx, hb, hml, hown, hts⟩ (m_sum l D A r cI cJ u_3.1 tl lv mn vs cb u_3.2.1 u_3.2.2.1 u_3.2.2.2 ro be tp bs sz lw (catL mi 0 (lw8 u_3.2.2.1) a) a (by omega)) (cwV 1 hts (gMV (List.mem_of_getElem? (i := 57) rfl) (List.mem_of_getElem? (i := 58) rfl) (List.mem_of_getElem? (i := 115) rfl) (List.mem_of_getElem? (i := 0) rfl) (List.mem_of_getElem? (i := 59) rfl)) rfl rfl rfl (by decide +kernel) ⟨Nat.le_of_ble_eq_true rfl, Nat.le_of_ble_eq_true rfl⟩) (va_recv hK hP (ci := 2) (q0 := 0) rfl rfl) hK hP hD hS hZ rfl hl.1 rfl (Nat.le_of_ble_eq_true rfl) ⟨Nat.zero_le _, Nat.zero_le _⟩ dX2_proves_38 (fun r_24 _ H locs hw hP hD hS => ?_)
    have hw : r_24 = (lw8 u_3.2.2.1 a) := hw
    subst hw
    have hP : va_P D vwCl (wm r cI cJ u_3.1 tl lv mn vs cb u_3.2.1 u_3.2.2.1 u_3.2.2.2 ro be tp bs sz lw (catL mi 0 (lw8 u_3.2.2.1) a)) H := hP
    have hD : va_D A (wm r cI cJ u_3.1 tl lv mn vs cb u_3.2.1 u_3.2.2.1 u_3.2.2.2 ro be tp bs sz lw (catL mi 0 (lw8 u_3.2.2.1) a)) := hD
    refine kb_last hx hb hK hP hD hS 10 1 rfl rfl (a) (rfl) (by omega) (by decide) dX2_proves_41 (fun H locs hP hD hS => ?_)
    have hP : va_P D vwCl (wm r cI cJ u_3.1 tl lv mn vs cb u_3.2.1 u_3.2.2.1 u_3.2.2.2 ro be tp bs sz lw (vp_updL (catL mi 0 (lw8 u_3.2.2.1) a) (a) ((lw8 u_3.2.2.1 a)))) H := hP
    have hD : va_D A (wm r cI cJ u_3.1 tl lv mn vs cb u_3.2.1 u_3.2.2.1 u_3.2.2.2 ro be tp bs sz lw (vp_updL (catL mi 0 (lw8 u_3.2.2.1) a) (a) ((lw8 u_3.2.2.1 a)))) := hD
    rw [catL_s0 _ _ _ rfl] at hP hD
    have hP : va_P D vwCl (wm r cI cJ u_3.1 tl lv mn vs cb u_3.2.1 u_3.2.2.1 u_3.2.2.2 ro be tp bs sz lw (catL mi 0 (lw8 u_3.2.2.1) (a + 1))) H := hP
    have hD : va_D A (wm r cI cJ u_3.1 tl lv mn vs cb u_3.2.1 u_3.2.2.1 u_3.2.2.2 ro be tp bs sz lw (catL mi 0 (lw8 u_3.2.2.1) (a + 1))) := hD
    refine lv_iinc (v := (nI (a + 1))) (lv' := [(2, .int (nI (a + 1))), (0, .ref (r 0)), (1, .int (nI i0))]) hx hb dX2_proves_42 hl (k := 2) rfl (kn_inc _ _ 1 rfl) (by decide) rfl (fun ls hl => ?_)
    refine lv_goto (tgt := 26) hx hb dX2_proves_45 (by decide) ?_
    exact ih_a hlta _ _ _ ⟨hP, hD, hS, (lv_sub hl [1, 2, 0] rfl)⟩
