set_option maxHeartbeats 4000000 in
set_option maxRecDepth 100000 in
theorem m_put_y (l : Launch) (D : va_G) (A : Nat → Prop) (r : Nat → Nat) (cI cJ : ClassId) (hz tl lv mn vs cb : Nat) (hs su sc ro be tp bs : Nat → Int32) (sz : Nat → Nat) (lw mi : Nat → Int64) (v : Int64) (n : Nat) (h1 : 1 ≤ n) (h2 : n ≤ 8) (h3 : tl + n ≤ 150) : Ki (S := Unit) l yX2_put wsX2_put { frames := 0, cells := 0, slots := 0, locals := 0 } D vwCl [(cI, .int), (cJ, .long)] A [] [.ref (r 0), .long v, .int (nI n)] (wm r cI cJ hz tl lv mn vs cb hs su sc ro be tp bs sz lw mi) (fun r _ => r = ((1 : Int32))) (fun _ => (wm r cI cJ hz (tl + n) lv mn vs cb hs su sc ro be (cat tp tl (fun j => pb v n j &&& 255) n) bs sz lw mi)) := by
  refine Met.ofW (cc := cX2_put) (maxL := 5) (ret := (some .boolean)) (by decide) rfl ?_
  intro p e s m args below meth c s₁ B hml hv
  obtain ⟨rfl, hP, hK, hD, hZ⟩ := hv
  have hx := B.exec
  have hb := B.bytes
  have hr := B.returns
  have hts := atoms_spec (ws := wsX2_put) B.pre
  have hown : s.vm.findClass RX2 = some m.cls := findClass_of_methodNamed B.named
  have hlocks := B.notSynchronized
  have hS : va_S A s.heap s.heap [] := va_S.rf
  have hin_2 : ∀ w ∈ u_ws RX2 TX2 16, w ∈ wsX2_put := fun w h => List.mem_cons_of_mem _ (List.mem_append_right _ h)
  have lk_51 := hts (.fieldLink RX2 51 "RootDeskModel" "tape" "[I") (inM (List.mem_of_getElem? (i := 25) rfl))
  have lk_70 := hts (.fieldLink RX2 70 "RootDeskModel" "taped" "I") (inM (List.mem_of_getElem? (i := 26) rfl))
  have hl := lv_entry ([.ref (r 0), .long v, .int (nI n)]) (n := 5) (Nat.le_of_ble_eq_true rfl)
  rw [lg_entry_eq]
  generalize (lg_sl ([.ref (r 0), .long v, .int (nI n)]) ++ List.replicate (5 - (lg_sl ([.ref (r 0), .long v, .int (nI n)])).length) Slot.unset).toArray = ls at hl ⊢
  have hl : lv_has ls 5 [(0, .ref (r 0)), (1, .long v), (3, .int (nI n))] := hl
  rw [← cat_0 tp tl (fun j => pb v n j &&& 255)] at hP hD
  refine lv_iload_n hx hb dX2_put_0 rfl (lv_at hl 2 rfl) ?_
  refine lv_iconst (v := (nI (1))) hx hb dX2_put_1 (by decide) ?_
  refine lv_icmp_lt (tgt := 23) hx hb dX2_put_2 (by decide) (fun c_2 => absurd (kn_lt c_2 (by omega) (by omega)) (by omega)) (fun c_2 => ?_)
  have c_2 : 1 ≤ n := kn_nlt c_2 (by omega) (by omega)
  refine lv_iload_n hx hb dX2_put_5 rfl (lv_at hl 2 rfl) ?_
  refine lv_bipush (v := (nI (8))) hx hb dX2_put_6 (by decide) ?_
  refine lv_icmp_gt (tgt := 23) hx hb dX2_put_8 (by decide) (fun c_8 => absurd (kn_lt c_8 (by omega) (by omega)) (by omega)) (fun c_8 => ?_)
  have c_8 : n ≤ 8 := kn_nlt c_8 (by omega) (by omega)
  refine lv_aload_n hx hb dX2_put_11 rfl (lv_at hl 0 rfl) ?_
  refine va_get (D := D) (ci := 2) (v := .int (nI tl)) (C := RX2) (T := TX2) (N := 16) hx hb hts hin_2 hown hK hP 0 rfl rfl 7 (by decide) lk_70 (fun _ h9 => h9) rfl dX2_put_12 ?_
  refine lv_iload_n hx hb dX2_put_15 rfl (lv_at hl 2 rfl) ?_
  refine lv_iadd hx hb dX2_put_16 ?_
  refine kp_i (nI_add _ _) ?_
  refine lv_sipush (v := (nI (150))) hx hb dX2_put_17 (by decide) ?_
  refine lv_icmp_le (tgt := 25) hx hb dX2_put_20 (by decide) (fun c_20 => ?_) (fun c_20 => absurd (kn_nle c_20 (by omega) (by omega)) (by omega))
  have c_20 : (tl + n) ≤ 150 := kn_le c_20 (by omega) (by omega)
  refine lv_iload_n hx hb dX2_put_25 rfl (lv_at hl 2 rfl) ?_
  refine lv_iconst (v := (nI (1))) hx hb dX2_put_26 (by decide) ?_
  refine lv_isub hx hb dX2_put_27 ?_
  refine kp_i (y := (sn n 0)) (rfl) ?_
  refine lv_istore (lv' := [(4, .int (sn n 0)), (0, .ref (r 0)), (1, .long v), (3, .int (nI n))]) hx hb dX2_put_28 hl (by decide) rfl (fun ls hl => ?_)
  refine kp_lp (hd := 30) (nn := n) (fun (i : Nat) (H : Heap) (locs : List Loc) (ls : Array Slot) => va_P D vwCl (wm r cI cJ hz (tl + i) lv mn vs cb hs su sc ro be (cat tp tl (fun j => pb v n j &&& 255) i) bs sz lw mi) H ∧ va_D A (wm r cI cJ hz (tl + i) lv mn vs cb hs su sc ro be (cat tp tl (fun j => pb v n j &&& 255) i) bs sz lw mi) ∧ va_S A s.heap H locs ∧ lv_has ls 5 [(0, .ref (r 0)), (1, .long v), (4, .int (sn n i))]) ?_ 0 (by omega) _ _ _ ⟨hP, hD, hS, (lv_sub hl [1, 2, 0] rfl)⟩
  intro i hiN H locs ls hI ih
  obtain ⟨hP, hD, hS, hl⟩ := hI
  refine lv_iload hx hb dX2_put_30 (lv_at hl 2 rfl) ?_
  refine lv_if_lt (tgt := 72) hx hb dX2_put_32 (by decide) (fun c_32 => ?_) (fun c_32 => ?_)
  · have e9 : n = i := (sn_lt h2 hiN c_32).symm
    subst e9
    refine lv_iconst (v := ((1 : Int32))) hx hb dX2_put_72 (by decide) ?_
    exact kr_z (()) hx hb hr hlocks hK hP hD hS (rfl) (rfl) dX2_put_73
  · have hlt : i < n := sn_nlt h2 hiN c_32
    have hl : lv_has ls 5 [(0, .ref (r 0)), (1, .long v), (4, .int (nI (n - 1 - i)))] := by rw [← sn_n h2 hlt]; exact hl
    refine lv_aload_n hx hb dX2_put_35 rfl (lv_at hl 0 rfl) ?_
    refine va_get (D := D) (ci := 2) (v := .ref (r 6)) (C := RX2) (T := TX2) (N := 16) hx hb hts hin_2 hown hK hP 0 rfl rfl 6 (by decide) lk_51 (fun _ h9 => h9) rfl dX2_put_36 ?_
    refine lv_aload_n hx hb dX2_put_39 rfl (lv_at hl 0 rfl) ?_
    refine va_get (D := D) (ci := 2) (v := .int (nI (tl + i))) (C := RX2) (T := TX2) (N := 16) hx hb hts hin_2 hown hK hP 0 rfl rfl 7 (by decide) lk_70 (fun _ h9 => h9) rfl dX2_put_40 ?_
    refine lv_lload_n hx hb dX2_put_43 rfl (lv_at hl 1 rfl) ?_
    refine lv_bipush (v := (nI (8))) hx hb dX2_put_44 (by decide) ?_
    refine lv_iload hx hb dX2_put_46 (lv_at hl 2 rfl) ?_
    refine lv_imul hx hb dX2_put_48 ?_
    refine kp_i (pk_mul _ _) ?_
    refine lv_lshr hx hb dX2_put_49 rfl ?_
    refine lv_l2i hx hb dX2_put_50 rfl ?_
    refine lv_sipush (v := ((255 : Int32))) hx hb dX2_put_51 (by decide) ?_
    refine lv_iand hx hb dX2_put_54 ?_
    refine kb_iast hx hb hK hP hD hS 6 0 rfl rfl (tl + i) (rfl) (by omega) (by decide) dX2_put_55 (fun H locs hP hD hS => ?_)
    have hP : va_P D vwCl (wm r cI cJ hz (tl + i) lv mn vs cb hs su sc ro be (upd (cat tp tl (fun j => pb v n j &&& 255) i) (tl + i) ((((((v) >>> (((nI (8 * (n - 1 - i)))).toInt64 &&& 63))).toInt32) &&& ((255 : Int32))))) bs sz lw mi) H := hP
    have hD : va_D A (wm r cI cJ hz (tl + i) lv mn vs cb hs su sc ro be (upd (cat tp tl (fun j => pb v n j &&& 255) i) (tl + i) ((((((v) >>> (((nI (8 * (n - 1 - i)))).toInt64 &&& 63))).toInt32) &&& ((255 : Int32))))) bs sz lw mi) := hD
    rw [cat_s tp tl (fun j => pb v n j &&& 255) i (x := (v >>> ((nI (8 * (n - 1 - i))).toInt64 &&& 63)).toInt32 &&& 255) (put_eq v h2)] at hP hD
    have hP : va_P D vwCl (wm r cI cJ hz (tl + i) lv mn vs cb hs su sc ro be (cat tp tl (fun j => pb v n j &&& 255) (i + 1)) bs sz lw mi) H := hP
    have hD : va_D A (wm r cI cJ hz (tl + i) lv mn vs cb hs su sc ro be (cat tp tl (fun j => pb v n j &&& 255) (i + 1)) bs sz lw mi) := hD
    refine lv_aload_n hx hb dX2_put_56 rfl (lv_at hl 0 rfl) ?_
    refine lv_aload_n hx hb dX2_put_57 rfl (lv_at hl 0 rfl) ?_
    refine va_get (D := D) (ci := 2) (v := .int (nI (tl + i))) (C := RX2) (T := TX2) (N := 16) hx hb hts hin_2 hown hK hP 0 rfl rfl 7 (by decide) lk_70 (fun _ h9 => h9) rfl dX2_put_58 ?_
    refine lv_iconst (v := (nI (1))) hx hb dX2_put_61 (by decide) ?_
    refine lv_iadd hx hb dX2_put_62 ?_
    refine kp_i (nI_add _ _) ?_
    refine va_put (D := D) (ci := 2) (v := .int (nI ((tl + i) + 1))) (ty := .int) (C := RX2) (T := TX2) (N := 16) hx hb hts hin_2 tyX2 tyX2_ok nmX2 hown hK hP hD hS 0 rfl rfl 7 (by decide) lk_70 (fun _ h9 => h9) rfl (by decide +kernel) rfl rfl (Nat.le_of_ble_eq_true rfl) dX2_put_63 (fun H locs hP hD hS => ?_)
    have hP : va_P D vwCl (wm r cI cJ hz ((tl + i) + 1) lv mn vs cb hs su sc ro be (cat tp tl (fun j => pb v n j &&& 255) (i + 1)) bs sz lw mi) H := hP
    have hD : va_D A (wm r cI cJ hz ((tl + i) + 1) lv mn vs cb hs su sc ro be (cat tp tl (fun j => pb v n j &&& 255) (i + 1)) bs sz lw mi) := hD
    refine lv_iinc (v := (sn n (i + 1))) (lv' := [(4, .int (sn n (i + 1))), (0, .ref (r 0)), (1, .long v)]) hx hb dX2_put_66 hl (k := 2) rfl (sn_s h2 hlt) (by decide) rfl (fun ls hl => ?_)
    refine lv_goto (tgt := 30) hx hb dX2_put_69 (by decide) ?_
    exact ih hlt _ _ _ ⟨hP, hD, hS, (lv_sub hl [1, 2, 0] rfl)⟩

set_option maxHeartbeats 4000000 in
set_option maxRecDepth 100000 in
theorem m_put_n (l : Launch) (D : va_G) (A : Nat → Prop) (r : Nat → Nat) (cI cJ : ClassId) (hz tl lv mn vs cb : Nat) (hs su sc ro be tp bs : Nat → Int32) (sz : Nat → Nat) (lw mi : Nat → Int64) (v : Int64) (x : Int32) (h1 : tl ≤ 150) (h2 : ∀ n : Nat, 1 ≤ n → n ≤ 8 → x = nI n → 150 < tl + n) : Ki (S := Unit) l yX2_put wsX2_put { frames := 0, cells := 0, slots := 0, locals := 0 } D vwCl [(cI, .int), (cJ, .long)] A [] [.ref (r 0), .long v, .int x] (wm r cI cJ hz tl lv mn vs cb hs su sc ro be tp bs sz lw mi) (fun r _ => r = ((0 : Int32))) (fun _ => (wm r cI cJ hz tl lv mn vs cb hs su sc ro be tp bs sz lw mi)) := by
  refine Met.ofW (cc := cX2_put) (maxL := 5) (ret := (some .boolean)) (by decide) rfl ?_
  intro p e s m args below meth c s₁ B hml hv
  obtain ⟨rfl, hP, hK, hD, hZ⟩ := hv
  have hx := B.exec
  have hb := B.bytes
  have hr := B.returns
  have hts := atoms_spec (ws := wsX2_put) B.pre
  have hown : s.vm.findClass RX2 = some m.cls := findClass_of_methodNamed B.named
  have hlocks := B.notSynchronized
  have hS : va_S A s.heap s.heap [] := va_S.rf
  have hin_2 : ∀ w ∈ u_ws RX2 TX2 16, w ∈ wsX2_put := fun w h => List.mem_cons_of_mem _ (List.mem_append_right _ h)
  have lk_70 := hts (.fieldLink RX2 70 "RootDeskModel" "taped" "I") (inM (List.mem_of_getElem? (i := 26) rfl))
  have hl := lv_entry ([.ref (r 0), .long v, .int x]) (n := 5) (Nat.le_of_ble_eq_true rfl)
  rw [lg_entry_eq]
  generalize (lg_sl ([.ref (r 0), .long v, .int x]) ++ List.replicate (5 - (lg_sl ([.ref (r 0), .long v, .int x])).length) Slot.unset).toArray = ls at hl ⊢
  have hl : lv_has ls 5 [(0, .ref (r 0)), (1, .long v), (3, .int x)] := hl
  refine lv_iload_n hx hb dX2_put_0 rfl (lv_at hl 2 rfl) ?_
  refine lv_iconst (v := ((1 : Int32))) hx hb dX2_put_1 (by decide) ?_
  refine lv_icmp_lt (tgt := 23) hx hb dX2_put_2 (by decide) (fun c_2 => ?_) (fun c_2 => ?_)
  · refine lv_iconst (v := ((0 : Int32))) hx hb dX2_put_23 (by decide) ?_
    exact kr_z (()) hx hb hr hlocks hK hP hD hS (rfl) (rfl) dX2_put_24
  · refine lv_iload_n hx hb dX2_put_5 rfl (lv_at hl 2 rfl) ?_
    refine lv_bipush (v := ((8 : Int32))) hx hb dX2_put_6 (by decide) ?_
    refine lv_icmp_gt (tgt := 23) hx hb dX2_put_8 (by decide) (fun c_8 => ?_) (fun c_8 => ?_)
    · refine lv_iconst (v := ((0 : Int32))) hx hb dX2_put_23 (by decide) ?_
      exact kr_z (()) hx hb hr hlocks hK hP hD hS (rfl) (rfl) dX2_put_24
    · obtain ⟨n, hn1, hn8, rfl⟩ := put_n c_2 c_8
      have h3 := h2 n hn1 hn8 rfl
      refine lv_aload_n hx hb dX2_put_11 rfl (lv_at hl 0 rfl) ?_
      refine va_get (D := D) (ci := 2) (v := .int (nI tl)) (C := RX2) (T := TX2) (N := 16) hx hb hts hin_2 hown hK hP 0 rfl rfl 7 (by decide) lk_70 (fun _ h9 => h9) rfl dX2_put_12 ?_
      refine lv_iload_n hx hb dX2_put_15 rfl (lv_at hl 2 rfl) ?_
      refine lv_iadd hx hb dX2_put_16 ?_
      refine kp_i (nI_add _ _) ?_
      refine lv_sipush (v := (nI (150))) hx hb dX2_put_17 (by decide) ?_
      refine lv_icmp_le (tgt := 25) hx hb dX2_put_20 (by decide) (fun c_20 => absurd (kn_le c_20 (by omega) (by omega)) (by omega)) (fun c_20 => ?_)
      have c_20 : 150 < (tl + n) := kn_nle c_20 (by omega) (by omega)
      refine lv_iconst (v := ((0 : Int32))) hx hb dX2_put_23 (by decide) ?_
      exact kr_z (()) hx hb hr hlocks hK hP hD hS (rfl) (rfl) dX2_put_24

set_option maxHeartbeats 4000000 in
set_option maxRecDepth 100000 in
theorem m_hash_y (l : Launch) (D : va_G) (A : Nat → Prop) (r : Nat → Nat) (cI cJ : ClassId) (hz tl lv mn vs cb : Nat) (hs su sc ro be tp bs : Nat → Int32) (sz : Nat → Nat) (lw mi : Nat → Int64) (k : Nat) (T : Nat → Int32) (h1 : tl ≤ 150) (h3 : ∀ j, j < 64 → ro j = rwv j) (h4 : ∀ j, j < 8 → be j = fsv j) (h5 : ∀ j, j < tl → tp j = T j &&& 255) (h6 : k ≤ 3) : Kl (S := (Nat × (Nat → Int32) × (Nat → Int32) × (Nat → Int32))) l yX2_hash wsX2_hash { frames := 4, cells := 0, slots := 0, locals := 96 } D vwCl [(cI, .int), (cJ, .long)] A [] [.ref (r 0), .int (nI k)] (wm r cI cJ hz tl lv mn vs cb hs su sc ro be tp bs sz lw mi) (fun r _ => r = e8 (hsh T tl) (nI k)) (fun u => (wm r cI cJ u.1 tl lv mn vs cb u.2.1 u.2.2.1 u.2.2.2 ro be tp bs sz lw mi)) := by
  refine Met.ofW (cc := cX2_hash) (maxL := 2) (ret := (some .long)) (by decide) rfl ?_
  intro p e s m args below meth c s₁ B hml hv
  obtain ⟨rfl, hP, hK, hD, hZ⟩ := hv
  have hx := B.exec
  have hb := B.bytes
  have hr := B.returns
  have hts := atoms_spec (ws := wsX2_hash) B.pre
  have hown : s.vm.findClass RX2 = some m.cls := findClass_of_methodNamed B.named
  have hlocks := B.notSynchronized
  have hS : va_S A s.heap s.heap [] := va_S.rf
  have hin_2 : ∀ w ∈ u_ws RX2 TX2 16, w ∈ wsX2_hash := fun w h => List.mem_cons_of_mem _ (List.mem_append_right _ h)
  have lk_25 := hts (.fieldLink RX2 25 "RootDeskModel" "hashSize" "I") (inM (List.mem_of_getElem? (i := 20) rfl))
  have hl := lv_entry ([.ref (r 0), .int (nI k)]) (n := 2) (Nat.le_of_ble_eq_true rfl)
  rw [lg_entry_eq]
  generalize (lg_sl ([.ref (r 0), .int (nI k)]) ++ List.replicate (2 - (lg_sl ([.ref (r 0), .int (nI k)])).length) Slot.unset).toArray = ls at hl ⊢
  have hl : lv_has ls 2 [(0, .ref (r 0)), (1, .int (nI k))] := hl
  refine lv_iload_n hx hb dX2_hash_0 rfl (lv_at hl 1 rfl) ?_
  refine lv_if_lt (tgt := 9) hx hb dX2_hash_1 (by decide) (fun c_1 => absurd c_1 (nI_pos (by omega))) (fun c_1 => ?_)
  refine lv_iload_n hx hb dX2_hash_4 rfl (lv_at hl 1 rfl) ?_
  refine lv_iconst (v := (nI (3))) hx hb dX2_hash_5 (by decide) ?_
  refine lv_icmp_le (tgt := 11) hx hb dX2_hash_6 (by decide) (fun c_6 => ?_) (fun c_6 => absurd (kn_nle c_6 (by omega) (by omega)) (by omega))
  have c_6 : k ≤ 3 := kn_le c_6 (by omega) (by omega)
  refine lv_aload_n hx hb dX2_hash_11 rfl (lv_at hl 0 rfl) ?_
  refine lv_iconst (v := (nI (0))) hx hb dX2_hash_12 (by decide) ?_
  refine va_put (D := D) (ci := 2) (v := .int (nI 0)) (ty := .int) (C := RX2) (T := TX2) (N := 16) hx hb hts hin_2 tyX2 tyX2_ok nmX2 hown hK hP hD hS 0 rfl rfl 1 (by decide) lk_25 (fun _ h9 => h9) rfl (by decide +kernel) rfl rfl (Nat.le_of_ble_eq_true rfl) dX2_hash_13 (fun H locs hP hD hS => ?_)
  have hP : va_P D vwCl (wm r cI cJ 0 tl lv mn vs cb hs su sc ro be tp bs sz lw mi) H := hP
  have hD : va_D A (wm r cI cJ 0 tl lv mn vs cb hs su sc ro be tp bs sz lw mi) := hD
  refine lv_aload_n hx hb dX2_hash_16 rfl (lv_at hl 0 rfl) ?_
  refine kc_v (As := []) (rest := []) ⟨hx, hb, hml, hown, hts⟩ (m_hashTape l D A r cI cJ 0 tl lv mn vs cb hs su sc ro be tp bs sz lw mi (fun _ => 0) (fun j => (T j).toInt8.toInt32) h1 (by omega) (fun j hj => absurd hj (Nat.not_lt_zero j)) h3 h4 (fun j hj => (h5 j hj).trans (b255 _).symm)) (cwV 0 hts (gMV (List.mem_of_getElem? (i := 42) rfl) (List.mem_of_getElem? (i := 43) rfl) (List.mem_of_getElem? (i := 111) rfl) (List.mem_of_getElem? (i := 0) rfl) (List.mem_of_getElem? (i := 44) rfl)) rfl rfl rfl (by decide +kernel) ⟨Nat.le_of_ble_eq_true rfl, Nat.le_of_ble_eq_true rfl⟩) (va_recv hK hP (ci := 2) (q0 := 0) rfl rfl) hK hP hD hS hZ rfl hl.1 rfl (Nat.le_of_ble_eq_true rfl) ⟨Nat.zero_le _, Nat.zero_le _⟩ dX2_hash_17 (fun u_1 H locs hw_u_1 hP hD hS => ?_)
  have hP : va_P D vwCl (wm r cI cJ u_1.1 tl lv mn vs cb u_1.2.1 u_1.2.2.1 u_1.2.2.2 ro be tp bs sz lw mi) H := hP
  have hD : va_D A (wm r cI cJ u_1.1 tl lv mn vs cb u_1.2.1 u_1.2.2.1 u_1.2.2.2 ro be tp bs sz lw mi) := hD
  refine lv_aload_n hx hb dX2_hash_20 rfl (lv_at hl 0 rfl) ?_
  refine lv_iload_n hx hb dX2_hash_21 rfl (lv_at hl 1 rfl) ?_
  refine kc_l (As := [.int (nI k)]) (rest := []) ⟨hx, hb, hml, hown, hts⟩ (m_sum l D A r cI cJ u_1.1 tl lv mn vs cb u_1.2.1 u_1.2.2.1 u_1.2.2.2 ro be tp bs sz lw mi k (by omega)) (cwV 1 hts (gMV (List.mem_of_getElem? (i := 57) rfl) (List.mem_of_getElem? (i := 58) rfl) (List.mem_of_getElem? (i := 115) rfl) (List.mem_of_getElem? (i := 0) rfl) (List.mem_of_getElem? (i := 59) rfl)) rfl rfl rfl (by decide +kernel) ⟨Nat.le_of_ble_eq_true rfl, Nat.le_of_ble_eq_true rfl⟩) (va_recv hK hP (ci := 2) (q0 := 0) rfl rfl) hK hP hD hS hZ rfl hl.1 rfl (Nat.le_of_ble_eq_true rfl) ⟨Nat.zero_le _, Nat.zero_le _⟩ dX2_hash_22 (fun r_2 _ H locs hw hP hD hS => ?_)
  have hw : r_2 = (lw8 u_1.2.2.1 k) := hw
  subst hw
  have hP : va_P D vwCl (wm r cI cJ u_1.1 tl lv mn vs cb u_1.2.1 u_1.2.2.1 u_1.2.2.2 ro be tp bs sz lw mi) H := hP
  have hD : va_D A (wm r cI cJ u_1.1 tl lv mn vs cb u_1.2.1 u_1.2.2.1 u_1.2.2.2 ro be tp bs sz lw mi) := hD
  exact kr_l ((u_1.1, u_1.2.1, u_1.2.2.1, u_1.2.2.2)) hx hb hr hlocks hK hP hD hS (hash_m h6 hw_u_1) dX2_hash_25

set_option maxHeartbeats 4000000 in
set_option maxRecDepth 100000 in
theorem m_hash_n (l : Launch) (D : va_G) (A : Nat → Prop) (r : Nat → Nat) (cI cJ : ClassId) (hz tl lv mn vs cb : Nat) (hs su sc ro be tp bs : Nat → Int32) (sz : Nat → Nat) (lw mi : Nat → Int64) (x : Int32) (h1 : x < 0 ∨ ¬ x ≤ 3) : Kl (S := Unit) l yX2_hash wsX2_hash { frames := 4, cells := 0, slots := 0, locals := 96 } D vwCl [(cI, .int), (cJ, .long)] A [] [.ref (r 0), .int x] (wm r cI cJ hz tl lv mn vs cb hs su sc ro be tp bs sz lw mi) (fun r _ => r = ((0 : Int64))) (fun _ => (wm r cI cJ hz tl lv mn vs cb hs su sc ro be tp bs sz lw mi)) := by
  refine Met.ofW (cc := cX2_hash) (maxL := 2) (ret := (some .long)) (by decide) rfl ?_
  intro p e s m args below meth c s₁ B hml hv
  obtain ⟨rfl, hP, hK, hD, hZ⟩ := hv
  have hx := B.exec
  have hb := B.bytes
  have hr := B.returns
  have hts := atoms_spec (ws := wsX2_hash) B.pre
  have hown : s.vm.findClass RX2 = some m.cls := findClass_of_methodNamed B.named
  have hlocks := B.notSynchronized
  have hS : va_S A s.heap s.heap [] := va_S.rf
  have hl := lv_entry ([.ref (r 0), .int x]) (n := 2) (Nat.le_of_ble_eq_true rfl)
  rw [lg_entry_eq]
  generalize (lg_sl ([.ref (r 0), .int x]) ++ List.replicate (2 - (lg_sl ([.ref (r 0), .int x])).length) Slot.unset).toArray = ls at hl ⊢
  have hl : lv_has ls 2 [(0, .ref (r 0)), (1, .int x)] := hl
  refine lv_iload_n hx hb dX2_hash_0 rfl (lv_at hl 1 rfl) ?_
  refine lv_if_lt (tgt := 9) hx hb dX2_hash_1 (by decide) (fun c_1 => ?_) (fun c_1 => ?_)
  · refine lv_lconst (v := 0) hx hb dX2_hash_9 (by decide) ?_
    exact kr_l (()) hx hb hr hlocks hK hP hD hS (rfl) dX2_hash_10
  · refine lv_iload_n hx hb dX2_hash_4 rfl (lv_at hl 1 rfl) ?_
    refine lv_iconst (v := ((3 : Int32))) hx hb dX2_hash_5 (by decide) ?_
    refine lv_icmp_le (tgt := 11) hx hb dX2_hash_6 (by decide) (fun c_6 => absurd h1 (fun h => h.elim c_1 (fun g => g c_6))) (fun c_6 => ?_)
    refine lv_lconst (v := 0) hx hb dX2_hash_9 (by decide) ?_
    exact kr_l (()) hx hb hr hlocks hK hP hD hS (rfl) dX2_hash_10

set_option maxHeartbeats 4000000 in
set_option maxRecDepth 100000 in
theorem m_lay (l : Launch) (D : va_G) (A : Nat → Prop) (r : Nat → Nat) (cI cJ : ClassId) (hz tl lv mn vs cb : Nat) (hs su sc ro be tp bs : Nat → Int32) (sz : Nat → Nat) (lw mi : Nat → Int64) (i : Nat) (h1 : i < 100) (h2 : tl ≤ 150) : Kv (S := Unit) l yX2_lay wsX2_lay { frames := 0, cells := 0, slots := 0, locals := 0 } D vwCl [(cI, .int), (cJ, .long)] A [] [.ref (r 0), .int (nI i)] (wm r cI cJ hz tl lv mn vs cb hs su sc ro be tp bs sz lw mi) (fun _ => True) (fun _ => (wm r cI cJ hz 0 lv mn vs cb hs su sc ro be tp (cat bs (150 * i) tp tl) (va_up sz i tl) lw mi)) := by
  refine Met.ofW (cc := cX2_lay) (maxL := 3) (ret := none) (by decide) rfl ?_
  intro p e s m args below meth c s₁ B hml hv
  obtain ⟨rfl, hP, hK, hD, hZ⟩ := hv
  have hx := B.exec
  have hb := B.bytes
  have hr := B.returns
  have hts := atoms_spec (ws := wsX2_lay) B.pre
  have hown : s.vm.findClass RX2 = some m.cls := findClass_of_methodNamed B.named
  have hlocks := B.notSynchronized
  have hS : va_S A s.heap s.heap [] := va_S.rf
  have hin_2 : ∀ w ∈ u_ws RX2 TX2 16, w ∈ wsX2_lay := fun w h => List.mem_cons_of_mem _ (List.mem_append_right _ h)
  have lk_51 := hts (.fieldLink RX2 51 "RootDeskModel" "tape" "[I") (inM (List.mem_of_getElem? (i := 25) rfl))
  have lk_54 := hts (.fieldLink RX2 54 "RootDeskModel" "bytes" "[I") (inM (List.mem_of_getElem? (i := 28) rfl))
  have lk_57 := hts (.fieldLink RX2 57 "RootDeskModel" "sizes" "[I") (inM (List.mem_of_getElem? (i := 29) rfl))
  have lk_70 := hts (.fieldLink RX2 70 "RootDeskModel" "taped" "I") (inM (List.mem_of_getElem? (i := 26) rfl))
  have hl := lv_entry ([.ref (r 0), .int (nI i)]) (n := 3) (Nat.le_of_ble_eq_true rfl)
  rw [lg_entry_eq]
  generalize (lg_sl ([.ref (r 0), .int (nI i)]) ++ List.replicate (3 - (lg_sl ([.ref (r 0), .int (nI i)])).length) Slot.unset).toArray = ls at hl ⊢
  have hl : lv_has ls 3 [(0, .ref (r 0)), (1, .int (nI i))] := hl
  rw [← cat_0 bs (150 * i) tp] at hP hD
  refine lv_iconst (v := (nI (0))) hx hb dX2_lay_0 (by decide) ?_
  refine lv_istore_n (lv' := [(2, .int (nI 0)), (0, .ref (r 0)), (1, .int (nI i))]) hx hb dX2_lay_1 rfl hl (by decide) rfl (fun ls hl => ?_)
  refine kp_lp (hd := 2) (nn := tl) (fun (y : Nat) (H : Heap) (locs : List Loc) (ls : Array Slot) => va_P D vwCl (wm r cI cJ hz tl lv mn vs cb hs su sc ro be tp (cat bs (150 * i) tp y) sz lw mi) H ∧ va_D A (wm r cI cJ hz tl lv mn vs cb hs su sc ro be tp (cat bs (150 * i) tp y) sz lw mi) ∧ va_S A s.heap H locs ∧ lv_has ls 3 [(0, .ref (r 0)), (1, .int (nI i)), (2, .int (nI y))]) ?_ 0 (by omega) _ _ _ ⟨hP, hD, hS, (lv_sub hl [1, 2, 0] rfl)⟩
  intro y hyN H locs ls hI ih_y
  obtain ⟨hP, hD, hS, hl⟩ := hI
  refine lv_iload_n hx hb dX2_lay_2 rfl (lv_at hl 2 rfl) ?_
  refine lv_aload_n hx hb dX2_lay_3 rfl (lv_at hl 0 rfl) ?_
  refine va_get (D := D) (ci := 2) (v := .int (nI tl)) (C := RX2) (T := TX2) (N := 16) hx hb hts hin_2 hown hK hP 0 rfl rfl 7 (by decide) lk_70 (fun _ h9 => h9) rfl dX2_lay_4 ?_
  refine lv_icmp_ge (tgt := 34) hx hb dX2_lay_7 (by decide) (fun c_7 => ?_) (fun c_7 => ?_)
  · have c_7 : tl ≤ y := kn_le c_7 (by omega) (by omega)
    have e9 : tl = y := by omega
    subst e9
    refine lv_aload_n hx hb dX2_lay_34 rfl (lv_at hl 0 rfl) ?_
    refine va_get (D := D) (ci := 2) (v := .ref (r 8)) (C := RX2) (T := TX2) (N := 16) hx hb hts hin_2 hown hK hP 0 rfl rfl 10 (by decide) lk_57 (fun _ h9 => h9) rfl dX2_lay_35 ?_
    refine lv_iload_n hx hb dX2_lay_38 rfl (lv_at hl 1 rfl) ?_
    refine lv_aload_n hx hb dX2_lay_39 rfl (lv_at hl 0 rfl) ?_
    refine va_get (D := D) (ci := 2) (v := .int (nI tl)) (C := RX2) (T := TX2) (N := 16) hx hb hts hin_2 hown hK hP 0 rfl rfl 7 (by decide) lk_70 (fun _ h9 => h9) rfl dX2_lay_40 ?_
    refine kb_iast hx hb hK hP hD hS 8 0 rfl rfl (i) (rfl) (by omega) (by decide) dX2_lay_43 (fun H locs hP hD hS => ?_)
    rw [kn_upd] at hP hD
    have hP : va_P D vwCl (wm r cI cJ hz tl lv mn vs cb hs su sc ro be tp (cat bs (150 * i) tp tl) (va_up sz (i) (tl)) lw mi) H := hP
    have hD : va_D A (wm r cI cJ hz tl lv mn vs cb hs su sc ro be tp (cat bs (150 * i) tp tl) (va_up sz (i) (tl)) lw mi) := hD
    refine lv_aload_n hx hb dX2_lay_44 rfl (lv_at hl 0 rfl) ?_
    refine lv_iconst (v := (nI (0))) hx hb dX2_lay_45 (by decide) ?_
    refine va_put (D := D) (ci := 2) (v := .int (nI 0)) (ty := .int) (C := RX2) (T := TX2) (N := 16) hx hb hts hin_2 tyX2 tyX2_ok nmX2 hown hK hP hD hS 0 rfl rfl 7 (by decide) lk_70 (fun _ h9 => h9) rfl (by decide +kernel) rfl rfl (Nat.le_of_ble_eq_true rfl) dX2_lay_46 (fun H locs hP hD hS => ?_)
    have hP : va_P D vwCl (wm r cI cJ hz 0 lv mn vs cb hs su sc ro be tp (cat bs (150 * i) tp tl) (va_up sz (i) (tl)) lw mi) H := hP
    have hD : va_D A (wm r cI cJ hz 0 lv mn vs cb hs su sc ro be tp (cat bs (150 * i) tp tl) (va_up sz (i) (tl)) lw mi) := hD
    exact kr_v (()) hx hb hr hlocks hK hP hD hS (trivial) dX2_lay_49
  · have c_7 : y < tl := kn_nle c_7 (by omega) (by omega)
    have hlty : y < tl := c_7
    refine lv_aload_n hx hb dX2_lay_10 rfl (lv_at hl 0 rfl) ?_
    refine va_get (D := D) (ci := 2) (v := .ref (r 7)) (C := RX2) (T := TX2) (N := 16) hx hb hts hin_2 hown hK hP 0 rfl rfl 9 (by decide) lk_54 (fun _ h9 => h9) rfl dX2_lay_11 ?_
    refine lv_sipush (v := (nI (150))) hx hb dX2_lay_14 (by decide) ?_
    refine lv_iload_n hx hb dX2_lay_17 rfl (lv_at hl 1 rfl) ?_
    refine lv_imul hx hb dX2_lay_18 ?_
    refine kp_i (pk_mul _ _) ?_
    refine lv_iload_n hx hb dX2_lay_19 rfl (lv_at hl 2 rfl) ?_
    refine lv_iadd hx hb dX2_lay_20 ?_
    refine kp_i (nI_add _ _) ?_
    refine lv_aload_n hx hb dX2_lay_21 rfl (lv_at hl 0 rfl) ?_
    refine va_get (D := D) (ci := 2) (v := .ref (r 6)) (C := RX2) (T := TX2) (N := 16) hx hb hts hin_2 hown hK hP 0 rfl rfl 6 (by decide) lk_51 (fun _ h9 => h9) rfl dX2_lay_22 ?_
    refine lv_iload_n hx hb dX2_lay_25 rfl (lv_at hl 2 rfl) ?_
    refine kb_iald hx hb hK hP 6 0 rfl rfl (y) (rfl) (by omega) (by decide) dX2_lay_26 ?_
    refine kb_iast hx hb hK hP hD hS 7 0 rfl rfl ((150 * i) + y) (rfl) (by omega) (by decide) dX2_lay_27 (fun H locs hP hD hS => ?_)
    have hP : va_P D vwCl (wm r cI cJ hz tl lv mn vs cb hs su sc ro be tp (upd (cat bs (150 * i) tp y) ((150 * i) + y) ((tp (y)))) sz lw mi) H := hP
    have hD : va_D A (wm r cI cJ hz tl lv mn vs cb hs su sc ro be tp (upd (cat bs (150 * i) tp y) ((150 * i) + y) ((tp (y)))) sz lw mi) := hD
    rw [cat_s _ _ _ _ rfl] at hP hD
    have hP : va_P D vwCl (wm r cI cJ hz tl lv mn vs cb hs su sc ro be tp (cat bs (150 * i) tp (y + 1)) sz lw mi) H := hP
    have hD : va_D A (wm r cI cJ hz tl lv mn vs cb hs su sc ro be tp (cat bs (150 * i) tp (y + 1)) sz lw mi) := hD
    refine lv_iinc (v := (nI (y + 1))) (lv' := [(2, .int (nI (y + 1))), (0, .ref (r 0)), (1, .int (nI i))]) hx hb dX2_lay_28 hl (k := 2) rfl (kn_inc _ _ 1 rfl) (by decide) rfl (fun ls hl => ?_)
    refine lv_goto (tgt := 2) hx hb dX2_lay_31 (by decide) ?_
    exact ih_y hlty _ _ _ ⟨hP, hD, hS, (lv_sub hl [1, 2, 0] rfl)⟩

set_option maxHeartbeats 4000000 in
set_option maxRecDepth 100000 in
theorem m_add_y (l : Launch) (D : va_G) (A : Nat → Prop) (r : Nat → Nat) (cI cJ : ClassId) (hz tl lv mn vs cb : Nat) (hs su sc ro be tp bs : Nat → Int32) (sz : Nat → Nat) (lw mi : Nat → Int64) (h1 : lv < 100) (h2 : tl ≤ 150) : Ki (S := Unit) l yX2_add wsX2_add { frames := 1, cells := 0, slots := 0, locals := 22 } D vwCl [(cI, .int), (cJ, .long)] A [] [.ref (r 0)] (wm r cI cJ hz tl lv mn vs cb hs su sc ro be tp bs sz lw mi) (fun r _ => r = (nI (lv))) (fun _ => (wm r cI cJ hz 0 (lv + 1) mn vs cb hs su sc ro be tp (cat bs (150 * lv) tp tl) (va_up sz lv tl) lw mi)) := by
  refine Met.ofW (cc := cX2_add) (maxL := 1) (ret := (some .int)) (by decide) rfl ?_
  intro p e s m args below meth c s₁ B hml hv
  obtain ⟨rfl, hP, hK, hD, hZ⟩ := hv
  have hx := B.exec
  have hb := B.bytes
  have hr := B.returns
  have hts := atoms_spec (ws := wsX2_add) B.pre
  have hown : s.vm.findClass RX2 = some m.cls := findClass_of_methodNamed B.named
  have hlocks := B.notSynchronized
  have hS : va_S A s.heap s.heap [] := va_S.rf
  have hin_2 : ∀ w ∈ u_ws RX2 TX2 16, w ∈ wsX2_add := fun w h => List.mem_cons_of_mem _ (List.mem_append_right _ h)
  have lk_83 := hts (.fieldLink RX2 83 "RootDeskModel" "leaves" "I") (inM (List.mem_of_getElem? (i := 27) rfl))
  have hl := lv_entry ([.ref (r 0)]) (n := 1) (Nat.le_of_ble_eq_true rfl)
  rw [lg_entry_eq]
  generalize (lg_sl ([.ref (r 0)]) ++ List.replicate (1 - (lg_sl ([.ref (r 0)])).length) Slot.unset).toArray = ls at hl ⊢
  have hl : lv_has ls 1 [(0, .ref (r 0))] := hl
  refine lv_aload_n hx hb dX2_add_0 rfl (lv_at hl 0 rfl) ?_
  refine va_get (D := D) (ci := 2) (v := .int (nI lv)) (C := RX2) (T := TX2) (N := 16) hx hb hts hin_2 hown hK hP 0 rfl rfl 8 (by decide) lk_83 (fun _ h9 => h9) rfl dX2_add_1 ?_
  refine lv_bipush (v := (nI (100))) hx hb dX2_add_4 (by decide) ?_
  refine lv_icmp_ne (tgt := 11) hx hb dX2_add_6 (by decide) (fun c_6 => ?_) (fun c_6 => absurd (kn_eq c_6 (by omega) (by omega)) (by omega))
  have c_6 : lv ≠ 100 := kn_ne c_6 (by omega) (by omega)
  refine lv_aload_n hx hb dX2_add_11 rfl (lv_at hl 0 rfl) ?_
  refine lv_aload_n hx hb dX2_add_12 rfl (lv_at hl 0 rfl) ?_
  refine va_get (D := D) (ci := 2) (v := .int (nI lv)) (C := RX2) (T := TX2) (N := 16) hx hb hts hin_2 hown hK hP 0 rfl rfl 8 (by decide) lk_83 (fun _ h9 => h9) rfl dX2_add_13 ?_
  refine kc_v (As := [.int (nI lv)]) (rest := []) ⟨hx, hb, hml, hown, hts⟩ (m_lay l D A r cI cJ hz tl lv mn vs cb hs su sc ro be tp bs sz lw mi lv (by omega) (by omega)) (cwV 1 hts (gMV (List.mem_of_getElem? (i := 63) rfl) (List.mem_of_getElem? (i := 64) rfl) (List.mem_of_getElem? (i := 116) rfl) (List.mem_of_getElem? (i := 0) rfl) (List.mem_of_getElem? (i := 65) rfl)) rfl rfl rfl (by decide +kernel) ⟨Nat.le_of_ble_eq_true rfl, Nat.le_of_ble_eq_true rfl⟩) (va_recv hK hP (ci := 2) (q0 := 0) rfl rfl) hK hP hD hS hZ rfl hl.1 rfl (Nat.le_of_ble_eq_true rfl) ⟨Nat.zero_le _, Nat.zero_le _⟩ dX2_add_16 (fun _ H locs _ hP hD hS => ?_)
  have hP : va_P D vwCl (wm r cI cJ hz 0 lv mn vs cb hs su sc ro be tp (cat bs (150 * lv) tp tl) (va_up sz lv tl) lw mi) H := hP
  have hD : va_D A (wm r cI cJ hz 0 lv mn vs cb hs su sc ro be tp (cat bs (150 * lv) tp tl) (va_up sz lv tl) lw mi) := hD
  refine lv_aload_n hx hb dX2_add_19 rfl (lv_at hl 0 rfl) ?_
  refine lv_aload_n hx hb dX2_add_20 rfl (lv_at hl 0 rfl) ?_
  refine va_get (D := D) (ci := 2) (v := .int (nI lv)) (C := RX2) (T := TX2) (N := 16) hx hb hts hin_2 hown hK hP 0 rfl rfl 8 (by decide) lk_83 (fun _ h9 => h9) rfl dX2_add_21 ?_
  refine lv_iconst (v := (nI (1))) hx hb dX2_add_24 (by decide) ?_
  refine lv_iadd hx hb dX2_add_25 ?_
  refine kp_i (nI_add _ _) ?_
  refine va_put (D := D) (ci := 2) (v := .int (nI (lv + 1))) (ty := .int) (C := RX2) (T := TX2) (N := 16) hx hb hts hin_2 tyX2 tyX2_ok nmX2 hown hK hP hD hS 0 rfl rfl 8 (by decide) lk_83 (fun _ h9 => h9) rfl (by decide +kernel) rfl rfl (Nat.le_of_ble_eq_true rfl) dX2_add_26 (fun H locs hP hD hS => ?_)
  have hP : va_P D vwCl (wm r cI cJ hz 0 (lv + 1) mn vs cb hs su sc ro be tp (cat bs (150 * lv) tp tl) (va_up sz lv tl) lw mi) H := hP
  have hD : va_D A (wm r cI cJ hz 0 (lv + 1) mn vs cb hs su sc ro be tp (cat bs (150 * lv) tp tl) (va_up sz lv tl) lw mi) := hD
  refine lv_aload_n hx hb dX2_add_29 rfl (lv_at hl 0 rfl) ?_
  refine va_get (D := D) (ci := 2) (v := .int (nI (lv + 1))) (C := RX2) (T := TX2) (N := 16) hx hb hts hin_2 hown hK hP 0 rfl rfl 8 (by decide) lk_83 (fun _ h9 => h9) rfl dX2_add_30 ?_
  refine lv_iconst (v := (nI (1))) hx hb dX2_add_33 (by decide) ?_
  refine lv_isub hx hb dX2_add_34 ?_
  refine kp_i (y := (nI (lv))) (kn_sub (by omega)) ?_
  exact kr_i (()) hx hb hr hlocks hK hP hD hS (rfl) dX2_add_35

set_option maxHeartbeats 4000000 in
set_option maxRecDepth 100000 in
theorem m_add_n (l : Launch) (D : va_G) (A : Nat → Prop) (r : Nat → Nat) (cI cJ : ClassId) (hz tl lv mn vs cb : Nat) (hs su sc ro be tp bs : Nat → Int32) (sz : Nat → Nat) (lw mi : Nat → Int64) : Ki (S := Unit) l yX2_add wsX2_add { frames := 1, cells := 0, slots := 0, locals := 22 } D vwCl [(cI, .int), (cJ, .long)] A [] [.ref (r 0)] (wm r cI cJ hz tl 100 mn vs cb hs su sc ro be tp bs sz lw mi) (fun r _ => r = ((-1 : Int32))) (fun _ => (wm r cI cJ hz tl 100 mn vs cb hs su sc ro be tp bs sz lw mi)) := by
  refine Met.ofW (cc := cX2_add) (maxL := 1) (ret := (some .int)) (by decide) rfl ?_
  intro p e s m args below meth c s₁ B hml hv
  obtain ⟨rfl, hP, hK, hD, hZ⟩ := hv
  have hx := B.exec
  have hb := B.bytes
  have hr := B.returns
  have hts := atoms_spec (ws := wsX2_add) B.pre
  have hown : s.vm.findClass RX2 = some m.cls := findClass_of_methodNamed B.named
  have hlocks := B.notSynchronized
  have hS : va_S A s.heap s.heap [] := va_S.rf
  have hin_2 : ∀ w ∈ u_ws RX2 TX2 16, w ∈ wsX2_add := fun w h => List.mem_cons_of_mem _ (List.mem_append_right _ h)
  have lk_83 := hts (.fieldLink RX2 83 "RootDeskModel" "leaves" "I") (inM (List.mem_of_getElem? (i := 27) rfl))
  have hl := lv_entry ([.ref (r 0)]) (n := 1) (Nat.le_of_ble_eq_true rfl)
  rw [lg_entry_eq]
  generalize (lg_sl ([.ref (r 0)]) ++ List.replicate (1 - (lg_sl ([.ref (r 0)])).length) Slot.unset).toArray = ls at hl ⊢
  have hl : lv_has ls 1 [(0, .ref (r 0))] := hl
  refine lv_aload_n hx hb dX2_add_0 rfl (lv_at hl 0 rfl) ?_
  refine va_get (D := D) (ci := 2) (v := .int (nI 100)) (C := RX2) (T := TX2) (N := 16) hx hb hts hin_2 hown hK hP 0 rfl rfl 8 (by decide) lk_83 (fun _ h9 => h9) rfl dX2_add_1 ?_
  refine lv_bipush (v := (nI (100))) hx hb dX2_add_4 (by decide) ?_
  refine lv_icmp_ne (tgt := 11) hx hb dX2_add_6 (by decide) (fun c_6 => absurd rfl c_6) (fun c_6 => ?_)
  have c_6 : 100 = 100 := kn_eq c_6 (by omega) (by omega)
  refine lv_iconst (v := ((-1 : Int32))) hx hb dX2_add_9 (by decide) ?_
  exact kr_i (()) hx hb hr hlocks hK hP hD hS (rfl) dX2_add_10

set_option maxHeartbeats 4000000 in
set_option maxRecDepth 100000 in
theorem m_change_y (l : Launch) (D : va_G) (A : Nat → Prop) (r : Nat → Nat) (cI cJ : ClassId) (hz tl lv mn vs cb : Nat) (hs su sc ro be tp bs : Nat → Int32) (sz : Nat → Nat) (lw mi : Nat → Int64) (i : Nat) (h6 : i < lv) (h2 : lv ≤ 100) (h3 : tl ≤ 150) : Ki (S := Unit) l yX2_change wsX2_change { frames := 1, cells := 0, slots := 0, locals := 22 } D vwCl [(cI, .int), (cJ, .long)] A [] [.ref (r 0), .int (nI i)] (wm r cI cJ hz tl lv mn vs cb hs su sc ro be tp bs sz lw mi) (fun r _ => r = ((1 : Int32))) (fun _ => (wm r cI cJ hz 0 lv mn vs cb hs su sc ro be tp (cat bs (150 * i) tp tl) (va_up sz i tl) lw mi)) := by
  refine Met.ofW (cc := cX2_change) (maxL := 2) (ret := (some .boolean)) (by decide) rfl ?_
  intro p e s m args below meth c s₁ B hml hv
  obtain ⟨rfl, hP, hK, hD, hZ⟩ := hv
  have hx := B.exec
  have hb := B.bytes
  have hr := B.returns
  have hts := atoms_spec (ws := wsX2_change) B.pre
  have hown : s.vm.findClass RX2 = some m.cls := findClass_of_methodNamed B.named
  have hlocks := B.notSynchronized
  have hS : va_S A s.heap s.heap [] := va_S.rf
  have hl := lv_entry ([.ref (r 0), .int (nI i)]) (n := 2) (Nat.le_of_ble_eq_true rfl)
  rw [lg_entry_eq]
  generalize (lg_sl ([.ref (r 0), .int (nI i)]) ++ List.replicate (2 - (lg_sl ([.ref (r 0), .int (nI i)])).length) Slot.unset).toArray = ls at hl ⊢
  have hl : lv_has ls 2 [(0, .ref (r 0)), (1, .int (nI i))] := hl
  refine lv_aload_n hx hb dX2_change_0 rfl (lv_at hl 0 rfl) ?_
  refine lv_iload_n hx hb dX2_change_1 rfl (lv_at hl 1 rfl) ?_
  refine kc_i (As := [.int (nI i)]) (rest := []) ⟨hx, hb, hml, hown, hts⟩ (m_isLeaf l D A r cI cJ hz tl lv mn vs cb hs su sc ro be tp bs sz lw mi ((nI (i)))) (cwV 1 hts (gMV (List.mem_of_getElem? (i := 69) rfl) (List.mem_of_getElem? (i := 70) rfl) (List.mem_of_getElem? (i := 117) rfl) (List.mem_of_getElem? (i := 0) rfl) (List.mem_of_getElem? (i := 71) rfl)) rfl rfl rfl (by decide +kernel) ⟨Nat.le_of_ble_eq_true rfl, Nat.le_of_ble_eq_true rfl⟩) (va_recv hK hP (ci := 2) (q0 := 0) rfl rfl) hK hP hD hS hZ rfl hl.1 rfl (Nat.le_of_ble_eq_true rfl) ⟨Nat.zero_le _, Nat.zero_le _⟩ dX2_change_2 (fun r_1 _ H locs hw hP hD hS => ?_)
  have hw : r_1 = (bz (lf (nI (i)) lv)) := hw
  subst hw
  have hP : va_P D vwCl (wm r cI cJ hz tl lv mn vs cb hs su sc ro be tp bs sz lw mi) H := hP
  have hD : va_D A (wm r cI cJ hz tl lv mn vs cb hs su sc ro be tp bs sz lw mi) := hD
  refine lv_if_ne (tgt := 10) hx hb dX2_change_5 (by decide) (fun c_5 => ?_) (fun c_5 => absurd (lf_n (by omega) h6) (by rw [bz_0 c_5]; exact Bool.false_ne_true))
  have c_5 : (lf (nI (i)) lv) = true := bz_1 c_5
  refine lv_aload_n hx hb dX2_change_10 rfl (lv_at hl 0 rfl) ?_
  refine lv_iload_n hx hb dX2_change_11 rfl (lv_at hl 1 rfl) ?_
  refine kc_v (As := [.int (nI i)]) (rest := []) ⟨hx, hb, hml, hown, hts⟩ (m_lay l D A r cI cJ hz tl lv mn vs cb hs su sc ro be tp bs sz lw mi i (by omega) (by omega)) (cwV 1 hts (gMV (List.mem_of_getElem? (i := 63) rfl) (List.mem_of_getElem? (i := 64) rfl) (List.mem_of_getElem? (i := 116) rfl) (List.mem_of_getElem? (i := 0) rfl) (List.mem_of_getElem? (i := 65) rfl)) rfl rfl rfl (by decide +kernel) ⟨Nat.le_of_ble_eq_true rfl, Nat.le_of_ble_eq_true rfl⟩) (va_recv hK hP (ci := 2) (q0 := 0) rfl rfl) hK hP hD hS hZ rfl hl.1 rfl (Nat.le_of_ble_eq_true rfl) ⟨Nat.zero_le _, Nat.zero_le _⟩ dX2_change_12 (fun _ H locs _ hP hD hS => ?_)
  have hP : va_P D vwCl (wm r cI cJ hz 0 lv mn vs cb hs su sc ro be tp (cat bs (150 * i) tp tl) (va_up sz i tl) lw mi) H := hP
  have hD : va_D A (wm r cI cJ hz 0 lv mn vs cb hs su sc ro be tp (cat bs (150 * i) tp tl) (va_up sz i tl) lw mi) := hD
  refine lv_iconst (v := ((1 : Int32))) hx hb dX2_change_15 (by decide) ?_
  exact kr_z (()) hx hb hr hlocks hK hP hD hS (rfl) (rfl) dX2_change_16

set_option maxHeartbeats 4000000 in
set_option maxRecDepth 100000 in
theorem m_change_n (l : Launch) (D : va_G) (A : Nat → Prop) (r : Nat → Nat) (cI cJ : ClassId) (hz tl lv mn vs cb : Nat) (hs su sc ro be tp bs : Nat → Int32) (sz : Nat → Nat) (lw mi : Nat → Int64) (x : Int32) (h1 : lf x lv = false) : Ki (S := Unit) l yX2_change wsX2_change { frames := 1, cells := 0, slots := 0, locals := 22 } D vwCl [(cI, .int), (cJ, .long)] A [] [.ref (r 0), .int x] (wm r cI cJ hz tl lv mn vs cb hs su sc ro be tp bs sz lw mi) (fun r _ => r = ((0 : Int32))) (fun _ => (wm r cI cJ hz tl lv mn vs cb hs su sc ro be tp bs sz lw mi)) := by
  refine Met.ofW (cc := cX2_change) (maxL := 2) (ret := (some .boolean)) (by decide) rfl ?_
  intro p e s m args below meth c s₁ B hml hv
  obtain ⟨rfl, hP, hK, hD, hZ⟩ := hv
  have hx := B.exec
  have hb := B.bytes
  have hr := B.returns
  have hts := atoms_spec (ws := wsX2_change) B.pre
  have hown : s.vm.findClass RX2 = some m.cls := findClass_of_methodNamed B.named
  have hlocks := B.notSynchronized
  have hS : va_S A s.heap s.heap [] := va_S.rf
  have hl := lv_entry ([.ref (r 0), .int x]) (n := 2) (Nat.le_of_ble_eq_true rfl)
  rw [lg_entry_eq]
  generalize (lg_sl ([.ref (r 0), .int x]) ++ List.replicate (2 - (lg_sl ([.ref (r 0), .int x])).length) Slot.unset).toArray = ls at hl ⊢
  have hl : lv_has ls 2 [(0, .ref (r 0)), (1, .int x)] := hl
  refine lv_aload_n hx hb dX2_change_0 rfl (lv_at hl 0 rfl) ?_
  refine lv_iload_n hx hb dX2_change_1 rfl (lv_at hl 1 rfl) ?_
  refine kc_i (As := [.int x]) (rest := []) ⟨hx, hb, hml, hown, hts⟩ (m_isLeaf l D A r cI cJ hz tl lv mn vs cb hs su sc ro be tp bs sz lw mi ((x))) (cwV 1 hts (gMV (List.mem_of_getElem? (i := 69) rfl) (List.mem_of_getElem? (i := 70) rfl) (List.mem_of_getElem? (i := 117) rfl) (List.mem_of_getElem? (i := 0) rfl) (List.mem_of_getElem? (i := 71) rfl)) rfl rfl rfl (by decide +kernel) ⟨Nat.le_of_ble_eq_true rfl, Nat.le_of_ble_eq_true rfl⟩) (va_recv hK hP (ci := 2) (q0 := 0) rfl rfl) hK hP hD hS hZ rfl hl.1 rfl (Nat.le_of_ble_eq_true rfl) ⟨Nat.zero_le _, Nat.zero_le _⟩ dX2_change_2 (fun r_1 _ H locs hw hP hD hS => ?_)
  have hw : r_1 = (bz (lf (x) lv)) := hw
  subst hw
  have hP : va_P D vwCl (wm r cI cJ hz tl lv mn vs cb hs su sc ro be tp bs sz lw mi) H := hP
  have hD : va_D A (wm r cI cJ hz tl lv mn vs cb hs su sc ro be tp bs sz lw mi) := hD
  refine lv_if_ne (tgt := 10) hx hb dX2_change_5 (by decide) (fun c_5 => absurd (bz_1 c_5) (by rw [h1]; exact Bool.false_ne_true)) (fun c_5 => ?_)
  have c_5 : (lf (x) lv) = false := bz_0 c_5
  refine lv_iconst (v := ((0 : Int32))) hx hb dX2_change_8 (by decide) ?_
  exact kr_z (()) hx hb hr hlocks hK hP hD hS (rfl) (rfl) dX2_change_9

set_option maxHeartbeats 4000000 in
set_option maxRecDepth 100000 in
theorem m_drop_n (l : Launch) (D : va_G) (A : Nat → Prop) (r : Nat → Nat) (cI cJ : ClassId) (hz tl lv mn vs cb : Nat) (hs su sc ro be tp bs : Nat → Int32) (sz : Nat → Nat) (lw mi : Nat → Int64) : Ki (S := Unit) l yX2_drop wsX2_drop { frames := 0, cells := 0, slots := 0, locals := 0 } D vwCl [(cI, .int), (cJ, .long)] A [] [.ref (r 0)] (wm r cI cJ hz tl 0 mn vs cb hs su sc ro be tp bs sz lw mi) (fun r _ => r = ((-1 : Int32))) (fun _ => (wm r cI cJ hz tl 0 mn vs cb hs su sc ro be tp bs sz lw mi)) := by
  refine Met.ofW (cc := cX2_drop) (maxL := 1) (ret := (some .int)) (by decide) rfl ?_
  intro p e s m args below meth c s₁ B hml hv
  obtain ⟨rfl, hP, hK, hD, hZ⟩ := hv
  have hx := B.exec
  have hb := B.bytes
  have hr := B.returns
  have hts := atoms_spec (ws := wsX2_drop) B.pre
  have hown : s.vm.findClass RX2 = some m.cls := findClass_of_methodNamed B.named
  have hlocks := B.notSynchronized
  have hS : va_S A s.heap s.heap [] := va_S.rf
  have hin_2 : ∀ w ∈ u_ws RX2 TX2 16, w ∈ wsX2_drop := fun w h => List.mem_cons_of_mem _ (List.mem_append_right _ h)
  have lk_83 := hts (.fieldLink RX2 83 "RootDeskModel" "leaves" "I") (inM (List.mem_of_getElem? (i := 27) rfl))
  have hl := lv_entry ([.ref (r 0)]) (n := 1) (Nat.le_of_ble_eq_true rfl)
  rw [lg_entry_eq]
  generalize (lg_sl ([.ref (r 0)]) ++ List.replicate (1 - (lg_sl ([.ref (r 0)])).length) Slot.unset).toArray = ls at hl ⊢
  have hl : lv_has ls 1 [(0, .ref (r 0))] := hl
  refine lv_aload_n hx hb dX2_drop_0 rfl (lv_at hl 0 rfl) ?_
  refine va_get (D := D) (ci := 2) (v := .int (nI 0)) (C := RX2) (T := TX2) (N := 16) hx hb hts hin_2 hown hK hP 0 rfl rfl 8 (by decide) lk_83 (fun _ h9 => h9) rfl dX2_drop_1 ?_
  refine lv_if_ne (tgt := 9) hx hb dX2_drop_4 (by decide) (fun c_4 => absurd rfl c_4) (fun c_4 => ?_)
  have c_4 : 0 = 0 := kn_eq0 c_4 (by omega)
  refine lv_iconst (v := ((-1 : Int32))) hx hb dX2_drop_7 (by decide) ?_
  exact kr_i (()) hx hb hr hlocks hK hP hD hS (rfl) dX2_drop_8

set_option maxHeartbeats 4000000 in
set_option maxRecDepth 100000 in
theorem m_drop_y (l : Launch) (D : va_G) (A : Nat → Prop) (r : Nat → Nat) (cI cJ : ClassId) (hz tl lv mn vs cb : Nat) (hs su sc ro be tp bs : Nat → Int32) (sz : Nat → Nat) (lw mi : Nat → Int64) (n : Nat) (h1 : n < 100) : Ki (S := Unit) l yX2_drop wsX2_drop { frames := 0, cells := 0, slots := 0, locals := 0 } D vwCl [(cI, .int), (cJ, .long)] A [] [.ref (r 0)] (wm r cI cJ hz tl (n + 1) mn vs cb hs su sc ro be tp bs sz lw mi) (fun r _ => r = (nI (n))) (fun _ => (wm r cI cJ hz tl n mn vs cb hs su sc ro be tp bs sz lw mi)) := by
  refine Met.ofW (cc := cX2_drop) (maxL := 1) (ret := (some .int)) (by decide) rfl ?_
  intro p e s m args below meth c s₁ B hml hv
  obtain ⟨rfl, hP, hK, hD, hZ⟩ := hv
  have hx := B.exec
  have hb := B.bytes
  have hr := B.returns
  have hts := atoms_spec (ws := wsX2_drop) B.pre
  have hown : s.vm.findClass RX2 = some m.cls := findClass_of_methodNamed B.named
  have hlocks := B.notSynchronized
  have hS : va_S A s.heap s.heap [] := va_S.rf
  have hin_2 : ∀ w ∈ u_ws RX2 TX2 16, w ∈ wsX2_drop := fun w h => List.mem_cons_of_mem _ (List.mem_append_right _ h)
  have lk_83 := hts (.fieldLink RX2 83 "RootDeskModel" "leaves" "I") (inM (List.mem_of_getElem? (i := 27) rfl))
  have hl := lv_entry ([.ref (r 0)]) (n := 1) (Nat.le_of_ble_eq_true rfl)
  rw [lg_entry_eq]
  generalize (lg_sl ([.ref (r 0)]) ++ List.replicate (1 - (lg_sl ([.ref (r 0)])).length) Slot.unset).toArray = ls at hl ⊢
  have hl : lv_has ls 1 [(0, .ref (r 0))] := hl
  refine lv_aload_n hx hb dX2_drop_0 rfl (lv_at hl 0 rfl) ?_
  refine va_get (D := D) (ci := 2) (v := .int (nI (n + 1))) (C := RX2) (T := TX2) (N := 16) hx hb hts hin_2 hown hK hP 0 rfl rfl 8 (by decide) lk_83 (fun _ h9 => h9) rfl dX2_drop_1 ?_
  refine lv_if_ne (tgt := 9) hx hb dX2_drop_4 (by decide) (fun c_4 => ?_) (fun c_4 => absurd (kn_eq0 c_4 (by omega)) (by omega))
  have c_4 : (n + 1) ≠ 0 := kn_ne0 c_4 (by omega)
  refine lv_aload_n hx hb dX2_drop_9 rfl (lv_at hl 0 rfl) ?_
  refine lv_aload_n hx hb dX2_drop_10 rfl (lv_at hl 0 rfl) ?_
  refine va_get (D := D) (ci := 2) (v := .int (nI (n + 1))) (C := RX2) (T := TX2) (N := 16) hx hb hts hin_2 hown hK hP 0 rfl rfl 8 (by decide) lk_83 (fun _ h9 => h9) rfl dX2_drop_11 ?_
  refine lv_iconst (v := (nI (1))) hx hb dX2_drop_14 (by decide) ?_
  refine lv_isub hx hb dX2_drop_15 ?_
  refine kp_i (y := (nI (n))) (kn_sub (by omega)) ?_
  refine va_put (D := D) (ci := 2) (v := .int (nI n)) (ty := .int) (C := RX2) (T := TX2) (N := 16) hx hb hts hin_2 tyX2 tyX2_ok nmX2 hown hK hP hD hS 0 rfl rfl 8 (by decide) lk_83 (fun _ h9 => h9) rfl (by decide +kernel) rfl rfl (Nat.le_of_ble_eq_true rfl) dX2_drop_16 (fun H locs hP hD hS => ?_)
  have hP : va_P D vwCl (wm r cI cJ hz tl n mn vs cb hs su sc ro be tp bs sz lw mi) H := hP
  have hD : va_D A (wm r cI cJ hz tl n mn vs cb hs su sc ro be tp bs sz lw mi) := hD
  refine lv_aload_n hx hb dX2_drop_19 rfl (lv_at hl 0 rfl) ?_
  refine va_get (D := D) (ci := 2) (v := .int (nI n)) (C := RX2) (T := TX2) (N := 16) hx hb hts hin_2 hown hK hP 0 rfl rfl 8 (by decide) lk_83 (fun _ h9 => h9) rfl dX2_drop_20 ?_
  exact kr_i (()) hx hb hr hlocks hK hP hD hS (rfl) dX2_drop_23

set_option maxHeartbeats 4000000 in
set_option maxRecDepth 100000 in
theorem m_count_0 (l : Launch) (D : va_G) (A : Nat → Prop) (r : Nat → Nat) (cI cJ : ClassId) (hz tl lv mn vs cb : Nat) (hs su sc ro be tp bs : Nat → Int32) (sz : Nat → Nat) (lw mi : Nat → Int64) : Ki (S := Unit) l yX2_count wsX2_count { frames := 4, cells := 0, slots := 0, locals := 97 } D vwCl [(cI, .int), (cJ, .long)] A [] [.ref (r 0), .int ((0 : Int32))] (wm r cI cJ hz tl lv mn vs cb hs su sc ro be tp bs sz lw mi) (fun r _ => r = (nI (tl))) (fun _ => (wm r cI cJ hz tl lv mn vs cb hs su sc ro be tp bs sz lw mi)) := by
  refine Met.ofW (cc := cX2_count) (maxL := 4) (ret := (some .int)) (by decide) rfl ?_
  intro p e s m args below meth c s₁ B hml hv
  obtain ⟨rfl, hP, hK, hD, hZ⟩ := hv
  have hx := B.exec
  have hb := B.bytes
  have hr := B.returns
  have hts := atoms_spec (ws := wsX2_count) B.pre
  have hown : s.vm.findClass RX2 = some m.cls := findClass_of_methodNamed B.named
  have hlocks := B.notSynchronized
  have hS : va_S A s.heap s.heap [] := va_S.rf
  have hin_2 : ∀ w ∈ u_ws RX2 TX2 16, w ∈ wsX2_count := fun w h => List.mem_cons_of_mem _ (List.mem_append_right _ h)
  have lk_70 := hts (.fieldLink RX2 70 "RootDeskModel" "taped" "I") (inM (List.mem_of_getElem? (i := 26) rfl))
  have hl := lv_entry ([.ref (r 0), .int ((0 : Int32))]) (n := 4) (Nat.le_of_ble_eq_true rfl)
  rw [lg_entry_eq]
  generalize (lg_sl ([.ref (r 0), .int ((0 : Int32))]) ++ List.replicate (4 - (lg_sl ([.ref (r 0), .int ((0 : Int32))])).length) Slot.unset).toArray = ls at hl ⊢
  have hl : lv_has ls 4 [(0, .ref (r 0)), (1, .int ((0 : Int32)))] := hl
  refine lv_iload_n hx hb dX2_count_0 rfl (lv_at hl 1 rfl) ?_
  refine lv_tableIn (tgt := 32) hx hb dX2_count_1 (by decide) (by decide) rfl (by decide) ?_
  refine lv_aload_n hx hb dX2_count_32 rfl (lv_at hl 0 rfl) ?_
  refine va_get (D := D) (ci := 2) (v := .int (nI tl)) (C := RX2) (T := TX2) (N := 16) hx hb hts hin_2 hown hK hP 0 rfl rfl 7 (by decide) lk_70 (fun _ h9 => h9) rfl dX2_count_33 ?_
  exact kr_i (()) hx hb hr hlocks hK hP hD hS (rfl) dX2_count_36

set_option maxHeartbeats 4000000 in
set_option maxRecDepth 100000 in
theorem m_count_1 (l : Launch) (D : va_G) (A : Nat → Prop) (r : Nat → Nat) (cI cJ : ClassId) (hz tl lv mn vs cb : Nat) (hs su sc ro be tp bs : Nat → Int32) (sz : Nat → Nat) (lw mi : Nat → Int64) : Ki (S := Unit) l yX2_count wsX2_count { frames := 4, cells := 0, slots := 0, locals := 97 } D vwCl [(cI, .int), (cJ, .long)] A [] [.ref (r 0), .int ((1 : Int32))] (wm r cI cJ hz tl lv mn vs cb hs su sc ro be tp bs sz lw mi) (fun r _ => r = (nI (lv))) (fun _ => (wm r cI cJ hz tl lv mn vs cb hs su sc ro be tp bs sz lw mi)) := by
  refine Met.ofW (cc := cX2_count) (maxL := 4) (ret := (some .int)) (by decide) rfl ?_
  intro p e s m args below meth c s₁ B hml hv
  obtain ⟨rfl, hP, hK, hD, hZ⟩ := hv
  have hx := B.exec
  have hb := B.bytes
  have hr := B.returns
  have hts := atoms_spec (ws := wsX2_count) B.pre
  have hown : s.vm.findClass RX2 = some m.cls := findClass_of_methodNamed B.named
  have hlocks := B.notSynchronized
  have hS : va_S A s.heap s.heap [] := va_S.rf
  have hin_2 : ∀ w ∈ u_ws RX2 TX2 16, w ∈ wsX2_count := fun w h => List.mem_cons_of_mem _ (List.mem_append_right _ h)
  have lk_83 := hts (.fieldLink RX2 83 "RootDeskModel" "leaves" "I") (inM (List.mem_of_getElem? (i := 27) rfl))
  have hl := lv_entry ([.ref (r 0), .int ((1 : Int32))]) (n := 4) (Nat.le_of_ble_eq_true rfl)
  rw [lg_entry_eq]
  generalize (lg_sl ([.ref (r 0), .int ((1 : Int32))]) ++ List.replicate (4 - (lg_sl ([.ref (r 0), .int ((1 : Int32))])).length) Slot.unset).toArray = ls at hl ⊢
  have hl : lv_has ls 4 [(0, .ref (r 0)), (1, .int ((1 : Int32)))] := hl
  refine lv_iload_n hx hb dX2_count_0 rfl (lv_at hl 1 rfl) ?_
  refine lv_tableIn (tgt := 37) hx hb dX2_count_1 (by decide) (by decide) rfl (by decide) ?_
  refine lv_aload_n hx hb dX2_count_37 rfl (lv_at hl 0 rfl) ?_
  refine va_get (D := D) (ci := 2) (v := .int (nI lv)) (C := RX2) (T := TX2) (N := 16) hx hb hts hin_2 hown hK hP 0 rfl rfl 8 (by decide) lk_83 (fun _ h9 => h9) rfl dX2_count_38 ?_
  exact kr_i (()) hx hb hr hlocks hK hP hD hS (rfl) dX2_count_41

set_option maxHeartbeats 4000000 in
set_option maxRecDepth 100000 in
theorem m_count_2 (l : Launch) (D : va_G) (A : Nat → Prop) (r : Nat → Nat) (cI cJ : ClassId) (hz tl lv mn vs cb : Nat) (hs su sc ro be tp bs : Nat → Int32) (sz : Nat → Nat) (lw mi : Nat → Int64) (LB : Nat → Nat → Int32) (h1 : lv ≤ 100) (h2 : ∀ k, k < lv → sz k ≤ 150) (h3 : ∀ k, k < lv → ∀ i, i < sz k → bs (150 * k + i) = LB k i &&& 255) (h4 : ∀ j, j < 64 → ro j = rwv j) (h5 : ∀ j, j < 8 → be j = fsv j) : Ki (S := (Nat × Nat × Nat × (Nat → Int32) × (Nat → Int32) × (Nat → Int32) × (Nat → Int64))) l yX2_count wsX2_count { frames := 4, cells := 0, slots := 0, locals := 97 } D vwCl [(cI, .int), (cJ, .long)] A [] [.ref (r 0), .int ((2 : Int32))] (wm r cI cJ hz tl lv mn vs cb hs su sc ro be tp bs sz lw mi) (fun r _ => r = nI (if lv < 1 then 0 else rl lv + 1)) (fun u => (wm r cI cJ u.1 tl lv u.2.1 u.2.2.1 cb u.2.2.2.1 u.2.2.2.2.1 u.2.2.2.2.2.1 ro be tp bs sz u.2.2.2.2.2.2 mi)) := by
  refine Met.ofW (cc := cX2_count) (maxL := 4) (ret := (some .int)) (by decide) rfl ?_
  intro p e s m args below meth c s₁ B hml hv
  obtain ⟨rfl, hP, hK, hD, hZ⟩ := hv
  have hx := B.exec
  have hb := B.bytes
  have hr := B.returns
  have hts := atoms_spec (ws := wsX2_count) B.pre
  have hown : s.vm.findClass RX2 = some m.cls := findClass_of_methodNamed B.named
  have hlocks := B.notSynchronized
  have hS : va_S A s.heap s.heap [] := va_S.rf
  have hin_2 : ∀ w ∈ u_ws RX2 TX2 16, w ∈ wsX2_count := fun w h => List.mem_cons_of_mem _ (List.mem_append_right _ h)
  have lk_96 := hts (.fieldLink RX2 96 "RootDeskModel" "many" "I") (inM (List.mem_of_getElem? (i := 31) rfl))
  have lk_99 := hts (.fieldLink RX2 99 "RootDeskModel" "levels" "I") (inM (List.mem_of_getElem? (i := 32) rfl))
  have hl := lv_entry ([.ref (r 0), .int ((2 : Int32))]) (n := 4) (Nat.le_of_ble_eq_true rfl)
  rw [lg_entry_eq]
  generalize (lg_sl ([.ref (r 0), .int ((2 : Int32))]) ++ List.replicate (4 - (lg_sl ([.ref (r 0), .int ((2 : Int32))])).length) Slot.unset).toArray = ls at hl ⊢
  have hl : lv_has ls 4 [(0, .ref (r 0)), (1, .int ((2 : Int32)))] := hl
  refine lv_iload_n hx hb dX2_count_0 rfl (lv_at hl 1 rfl) ?_
  refine lv_tableIn (tgt := 42) hx hb dX2_count_1 (by decide) (by decide) rfl (by decide) ?_
  refine lv_aload_n hx hb dX2_count_42 rfl (lv_at hl 0 rfl) ?_
  refine kc_v (As := []) (rest := []) ⟨hx, hb, hml, hown, hts⟩ (m_lowest l D A r cI cJ hz tl lv mn vs cb hs su sc ro be tp bs sz lw mi LB h1 h2 h3 h4 h5) (cwV 0 hts (gMV (List.mem_of_getElem? (i := 78) rfl) (List.mem_of_getElem? (i := 79) rfl) (List.mem_of_getElem? (i := 118) rfl) (List.mem_of_getElem? (i := 0) rfl) (List.mem_of_getElem? (i := 80) rfl)) rfl rfl rfl (by decide +kernel) ⟨Nat.le_of_ble_eq_true rfl, Nat.le_of_ble_eq_true rfl⟩) (va_recv hK hP (ci := 2) (q0 := 0) rfl rfl) hK hP hD hS hZ rfl hl.1 rfl (Nat.le_of_ble_eq_true rfl) ⟨Nat.zero_le _, Nat.zero_le _⟩ dX2_count_43 (fun u_1 H locs hw_u_1 hP hD hS => ?_)
  have hP : va_P D vwCl (wm r cI cJ u_1.1 tl lv lv u_1.2.1 cb u_1.2.2.1 u_1.2.2.2.1 u_1.2.2.2.2.1 ro be tp bs sz u_1.2.2.2.2.2 mi) H := hP
  have hD : va_D A (wm r cI cJ u_1.1 tl lv lv u_1.2.1 cb u_1.2.2.1 u_1.2.2.2.1 u_1.2.2.2.2.1 ro be tp bs sz u_1.2.2.2.2.2 mi) := hD
  refine kp_lp (hd := 46) (nn := rl lv) (fun (i : Nat) (H : Heap) (locs : List Loc) (ls : Array Slot) => ∃ (u0 : (Nat × Nat × (Nat → Int32) × (Nat → Int32) × (Nat → Int32) × (Nat → Int64))), (Lw lv (lid LB sz) i u0.2.2.2.2.2) ∧ (u0.2.1 = (if 0 < lv then 1 else 0) + i) ∧ va_P D vwCl (wm r cI cJ u0.1 tl lv (wdl lv i) u0.2.1 cb u0.2.2.1 u0.2.2.2.1 u0.2.2.2.2.1 ro be tp bs sz u0.2.2.2.2.2 mi) H ∧ va_D A (wm r cI cJ u0.1 tl lv (wdl lv i) u0.2.1 cb u0.2.2.1 u0.2.2.2.1 u0.2.2.2.2.1 ro be tp bs sz u0.2.2.2.2.2 mi) ∧ va_S A s.heap H locs ∧ lv_has ls 4 [(0, .ref (r 0))]) ?_ 0 (by omega) _ _ _ ⟨(u_1.1, u_1.2.1, u_1.2.2.1, u_1.2.2.2.1, u_1.2.2.2.2.1, u_1.2.2.2.2.2), hw_u_1.2, hw_u_1.1, hP, hD, hS, (lv_sub hl [0] rfl)⟩
  intro i hiN H locs ls hI ih
  obtain ⟨u0, hI_0, hI_1, hP, hD, hS, hl⟩ := hI
  have hwi := wdl_le lv i
  have hr8 := rl_lt lv
  refine lv_aload_n hx hb dX2_count_46 rfl (lv_at hl 0 rfl) ?_
  refine va_get (D := D) (ci := 2) (v := .int (nI (wdl lv i))) (C := RX2) (T := TX2) (N := 16) hx hb hts hin_2 hown hK hP 0 rfl rfl 12 (by decide) lk_96 (fun _ h9 => h9) rfl dX2_count_47 ?_
  refine lv_iconst (v := (nI (1))) hx hb dX2_count_50 (by decide) ?_
  refine lv_icmp_le (tgt := 61) hx hb dX2_count_51 (by decide) (fun c_51 => ?_) (fun c_51 => ?_)
  · have c_51 : (wdl lv i) ≤ 1 := kn_le c_51 (by omega) (by omega)
    have e9 : rl lv = i := (rl_at (by omega) hiN c_51).symm
    subst e9
    refine lv_aload_n hx hb dX2_count_61 rfl (lv_at hl 0 rfl) ?_
    refine va_get (D := D) (ci := 2) (v := .int (nI (u0.2.1))) (C := RX2) (T := TX2) (N := 16) hx hb hts hin_2 hown hK hP 0 rfl rfl 13 (by decide) lk_99 (fun _ h9 => h9) rfl dX2_count_62 ?_
    exact kr_i ((u0.1, wdl lv (rl lv), u0.2.1, u0.2.2.1, u0.2.2.2.1, u0.2.2.2.2.1, u0.2.2.2.2.2)) hx hb hr hlocks hK hP hD hS (by rw [hI_1, cnt_eq]) dX2_count_65
  · have c_51 : 1 < (wdl lv i) := kn_nle c_51 (by omega) (by omega)
    have hlt : i < rl lv := rl_nat (by omega) hiN c_51
    refine lv_aload_n hx hb dX2_count_54 rfl (lv_at hl 0 rfl) ?_
    refine kc_v (As := []) (rest := []) ⟨hx, hb, hml, hown, hts⟩ (m_up l D A r cI cJ u0.1 tl lv (wdl lv i) u0.2.1 cb u0.2.2.1 u0.2.2.2.1 u0.2.2.2.2.1 ro be tp bs sz u0.2.2.2.2.2 mi lv i (lid LB sz) (by omega) (by omega) rfl hI_0 h4 h5) (cwV 0 hts (gMV (List.mem_of_getElem? (i := 84) rfl) (List.mem_of_getElem? (i := 85) rfl) (List.mem_of_getElem? (i := 120) rfl) (List.mem_of_getElem? (i := 0) rfl) (List.mem_of_getElem? (i := 86) rfl)) rfl rfl rfl (by decide +kernel) ⟨Nat.le_of_ble_eq_true rfl, Nat.le_of_ble_eq_true rfl⟩) (va_recv hK hP (ci := 2) (q0 := 0) rfl rfl) hK hP hD hS hZ rfl hl.1 rfl (Nat.le_of_ble_eq_true rfl) ⟨Nat.zero_le _, Nat.zero_le _⟩ dX2_count_55 (fun u_2 H locs hw_u_2 hP hD hS => ?_)
    have hP : va_P D vwCl (wm r cI cJ u_2.1 tl lv (((wdl lv i) + 1) / 2) (u0.2.1 + 1) cb u_2.2.1 u_2.2.2.1 u_2.2.2.2.1 ro be tp bs sz u_2.2.2.2.2 mi) H := hP
    have hD : va_D A (wm r cI cJ u_2.1 tl lv (((wdl lv i) + 1) / 2) (u0.2.1 + 1) cb u_2.2.1 u_2.2.2.1 u_2.2.2.2.1 ro be tp bs sz u_2.2.2.2.2 mi) := hD
    have hP : va_P D vwCl (wm r cI cJ u_2.1 tl lv (wdl lv (i + 1)) (u0.2.1 + 1) cb u_2.2.1 u_2.2.2.1 u_2.2.2.2.1 ro be tp bs sz u_2.2.2.2.2 mi) H := hP
    have hD : va_D A (wm r cI cJ u_2.1 tl lv (wdl lv (i + 1)) (u0.2.1 + 1) cb u_2.2.1 u_2.2.2.1 u_2.2.2.2.1 ro be tp bs sz u_2.2.2.2.2 mi) := hD
    refine lv_goto (tgt := 46) hx hb dX2_count_58 (by decide) ?_
    exact ih hlt _ _ _ ⟨(u_2.1, u0.2.1 + 1, u_2.2.1, u_2.2.2.1, u_2.2.2.2.1, u_2.2.2.2.2), hw_u_2, by show u0.2.1 + 1 = _; rw [hI_1]; rfl, hP, hD, hS, (lv_sub hl [0] rfl)⟩

set_option maxHeartbeats 4000000 in
set_option maxRecDepth 100000 in
theorem m_count_3 (l : Launch) (D : va_G) (A : Nat → Prop) (r : Nat → Nat) (cI cJ : ClassId) (hz tl lv mn vs cb : Nat) (hs su sc ro be tp bs : Nat → Int32) (sz : Nat → Nat) (lw mi : Nat → Int64) (h1 : lv ≤ 100) : Ki (S := Unit) l yX2_count wsX2_count { frames := 4, cells := 0, slots := 0, locals := 97 } D vwCl [(cI, .int), (cJ, .long)] A [] [.ref (r 0), .int ((3 : Int32))] (wm r cI cJ hz tl lv mn vs cb hs su sc ro be tp bs sz lw mi) (fun r _ => r = (nI (tot sz lv))) (fun _ => (wm r cI cJ hz tl lv mn vs cb hs su sc ro be tp bs sz lw mi)) := by
  refine Met.ofW (cc := cX2_count) (maxL := 4) (ret := (some .int)) (by decide) rfl ?_
  intro p e s m args below meth c s₁ B hml hv
  obtain ⟨rfl, hP, hK, hD, hZ⟩ := hv
  have hx := B.exec
  have hb := B.bytes
  have hr := B.returns
  have hts := atoms_spec (ws := wsX2_count) B.pre
  have hown : s.vm.findClass RX2 = some m.cls := findClass_of_methodNamed B.named
  have hlocks := B.notSynchronized
  have hS : va_S A s.heap s.heap [] := va_S.rf
  have hin_2 : ∀ w ∈ u_ws RX2 TX2 16, w ∈ wsX2_count := fun w h => List.mem_cons_of_mem _ (List.mem_append_right _ h)
  have lk_57 := hts (.fieldLink RX2 57 "RootDeskModel" "sizes" "[I") (inM (List.mem_of_getElem? (i := 29) rfl))
  have lk_83 := hts (.fieldLink RX2 83 "RootDeskModel" "leaves" "I") (inM (List.mem_of_getElem? (i := 27) rfl))
  have hl := lv_entry ([.ref (r 0), .int ((3 : Int32))]) (n := 4) (Nat.le_of_ble_eq_true rfl)
  rw [lg_entry_eq]
  generalize (lg_sl ([.ref (r 0), .int ((3 : Int32))]) ++ List.replicate (4 - (lg_sl ([.ref (r 0), .int ((3 : Int32))])).length) Slot.unset).toArray = ls at hl ⊢
  have hl : lv_has ls 4 [(0, .ref (r 0)), (1, .int ((3 : Int32)))] := hl
  refine lv_iload_n hx hb dX2_count_0 rfl (lv_at hl 1 rfl) ?_
  refine lv_tableIn (tgt := 66) hx hb dX2_count_1 (by decide) (by decide) rfl (by decide) ?_
  refine lv_iconst (v := (nI (0))) hx hb dX2_count_66 (by decide) ?_
  refine lv_istore_n (lv' := [(2, .int (nI 0)), (0, .ref (r 0)), (1, .int ((3 : Int32)))]) hx hb dX2_count_67 rfl hl (by decide) rfl (fun ls hl => ?_)
  refine lv_iconst (v := (nI (0))) hx hb dX2_count_68 (by decide) ?_
  refine lv_istore_n (lv' := [(3, .int (nI 0)), (2, .int (nI 0)), (0, .ref (r 0)), (1, .int ((3 : Int32)))]) hx hb dX2_count_69 rfl hl (by decide) rfl (fun ls hl => ?_)
  refine kp_lp (hd := 70) (nn := lv) (fun (i : Nat) (H : Heap) (locs : List Loc) (ls : Array Slot) => va_P D vwCl (wm r cI cJ hz tl lv mn vs cb hs su sc ro be tp bs sz lw mi) H ∧ va_D A (wm r cI cJ hz tl lv mn vs cb hs su sc ro be tp bs sz lw mi) ∧ va_S A s.heap H locs ∧ lv_has ls 4 [(0, .ref (r 0)), (2, .int (nI (tot sz i))), (3, .int (nI i))]) ?_ 0 (by omega) _ _ _ ⟨hP, hD, hS, (lv_sub hl [2, 1, 0] rfl)⟩
  intro i hiN H locs ls hI ih
  obtain ⟨hP, hD, hS, hl⟩ := hI
  refine lv_iload_n hx hb dX2_count_70 rfl (lv_at hl 2 rfl) ?_
  refine lv_aload_n hx hb dX2_count_71 rfl (lv_at hl 0 rfl) ?_
  refine va_get (D := D) (ci := 2) (v := .int (nI lv)) (C := RX2) (T := TX2) (N := 16) hx hb hts hin_2 hown hK hP 0 rfl rfl 8 (by decide) lk_83 (fun _ h9 => h9) rfl dX2_count_72 ?_
  refine lv_icmp_ge (tgt := 93) hx hb dX2_count_75 (by decide) (fun c_75 => ?_) (fun c_75 => ?_)
  · have c_75 : lv ≤ i := kn_le c_75 (by omega) (by omega)
    have e9 : lv = i := by omega
    subst e9
    refine lv_iload_n hx hb dX2_count_93 rfl (lv_at hl 1 rfl) ?_
    exact kr_i (()) hx hb hr hlocks hK hP hD hS (rfl) dX2_count_94
  · have c_75 : i < lv := kn_nle c_75 (by omega) (by omega)
    have hlt : i < lv := c_75
    refine lv_iload_n hx hb dX2_count_78 rfl (lv_at hl 1 rfl) ?_
    refine lv_aload_n hx hb dX2_count_79 rfl (lv_at hl 0 rfl) ?_
    refine va_get (D := D) (ci := 2) (v := .ref (r 8)) (C := RX2) (T := TX2) (N := 16) hx hb hts hin_2 hown hK hP 0 rfl rfl 10 (by decide) lk_57 (fun _ h9 => h9) rfl dX2_count_80 ?_
    refine lv_iload_n hx hb dX2_count_83 rfl (lv_at hl 2 rfl) ?_
    refine kb_iald hx hb hK hP 8 0 rfl rfl (i) (rfl) (by omega) (by decide) dX2_count_84 ?_
    refine lv_iadd hx hb dX2_count_85 ?_
    refine kp_i (nI_add _ _) ?_
    refine lv_istore_n (lv' := [(2, .int (nI ((tot sz i) + (sz (i))))), (0, .ref (r 0)), (3, .int (nI i))]) hx hb dX2_count_86 rfl hl (by decide) rfl (fun ls hl => ?_)
    refine lv_iinc (v := (nI (i + 1))) (lv' := [(3, .int (nI (i + 1))), (2, .int (nI ((tot sz i) + (sz (i))))), (0, .ref (r 0))]) hx hb dX2_count_87 hl (k := 2) rfl (kn_inc _ _ 1 rfl) (by decide) rfl (fun ls hl => ?_)
    refine lv_goto (tgt := 70) hx hb dX2_count_90 (by decide) ?_
    exact ih hlt _ _ _ ⟨hP, hD, hS, (lv_sub hl [2, 1, 0] rfl)⟩

set_option maxHeartbeats 4000000 in
set_option maxRecDepth 100000 in
theorem m_count_n (l : Launch) (D : va_G) (A : Nat → Prop) (r : Nat → Nat) (cI cJ : ClassId) (hz tl lv mn vs cb : Nat) (hs su sc ro be tp bs : Nat → Int32) (sz : Nat → Nat) (lw mi : Nat → Int64) (x : Int32) (h1 : x.toInt < 0 ∨ 3 < x.toInt) : Ki (S := Unit) l yX2_count wsX2_count { frames := 4, cells := 0, slots := 0, locals := 97 } D vwCl [(cI, .int), (cJ, .long)] A [] [.ref (r 0), .int x] (wm r cI cJ hz tl lv mn vs cb hs su sc ro be tp bs sz lw mi) (fun r _ => r = ((-1 : Int32))) (fun _ => (wm r cI cJ hz tl lv mn vs cb hs su sc ro be tp bs sz lw mi)) := by
  refine Met.ofW (cc := cX2_count) (maxL := 4) (ret := (some .int)) (by decide) rfl ?_
  intro p e s m args below meth c s₁ B hml hv
  obtain ⟨rfl, hP, hK, hD, hZ⟩ := hv
  have hx := B.exec
  have hb := B.bytes
  have hr := B.returns
  have hts := atoms_spec (ws := wsX2_count) B.pre
  have hown : s.vm.findClass RX2 = some m.cls := findClass_of_methodNamed B.named
  have hlocks := B.notSynchronized
  have hS : va_S A s.heap s.heap [] := va_S.rf
  have hl := lv_entry ([.ref (r 0), .int x]) (n := 4) (Nat.le_of_ble_eq_true rfl)
  rw [lg_entry_eq]
  generalize (lg_sl ([.ref (r 0), .int x]) ++ List.replicate (4 - (lg_sl ([.ref (r 0), .int x])).length) Slot.unset).toArray = ls at hl ⊢
  have hl : lv_has ls 4 [(0, .ref (r 0)), (1, .int x)] := hl
  refine lv_iload_n hx hb dX2_count_0 rfl (lv_at hl 1 rfl) ?_
  refine lv_tableOut (tgt := 95) hx hb dX2_count_1 h1 (by decide) ?_
  refine lv_iconst (v := ((-1 : Int32))) hx hb dX2_count_95 (by decide) ?_
  exact kr_i (()) hx hb hr hlocks hK hP hD hS (rfl) dX2_count_96
