set_option maxHeartbeats 4000000 in
set_option maxRecDepth 100000 in
theorem m_turn (l : Launch) (D : va_G) (A : Nat → Prop) (r : Nat → Nat) (cI cJ : ClassId) (ws : va_W) (w : Int32) (n : Int32) : Ki (S := Unit) l yX2_turn wsX2_turn { frames := 0, cells := 0, slots := 0, locals := 0 } D vwCl [(cI, .int), (cJ, .long)] A [] [.int w, .int n] ws (fun r _ => r = (tn (w) (n))) (fun _ => ws) := by
  refine Met.ofW (cc := cX2_turn) (maxL := 2) (ret := (some .int)) (by decide) rfl ?_
  intro p e s m args below meth c s₁ B hml hv
  obtain ⟨rfl, hP, hK, hD, hZ⟩ := hv
  have hx := B.exec
  have hb := B.bytes
  have hr := B.returns
  have hts := atoms_spec (ws := wsX2_turn) B.pre
  have hown : s.vm.findClass RX2 = some m.cls := findClass_of_methodNamed B.named
  have hlocks := B.notSynchronized
  have hS : va_S A s.heap s.heap [] := va_S.rf
  have hl := lv_entry ([.int w, .int n]) (n := 2) (Nat.le_of_ble_eq_true rfl)
  rw [lg_entry_eq]
  generalize (lg_sl ([.int w, .int n]) ++ List.replicate (2 - (lg_sl ([.int w, .int n])).length) Slot.unset).toArray = ls at hl ⊢
  have hl : lv_has ls 2 [(0, .int w), (1, .int n)] := hl
  refine lv_iload_n hx hb dX2_turn_0 rfl (lv_at hl 0 rfl) ?_
  refine lv_iload_n hx hb dX2_turn_1 rfl (lv_at hl 1 rfl) ?_
  refine lv_iushr hx hb dX2_turn_2 rfl ?_
  refine lv_iload_n hx hb dX2_turn_3 rfl (lv_at hl 0 rfl) ?_
  refine lv_bipush (v := ((32 : Int32))) hx hb dX2_turn_4 (by decide) ?_
  refine lv_iload_n hx hb dX2_turn_6 rfl (lv_at hl 1 rfl) ?_
  refine lv_isub hx hb dX2_turn_7 ?_
  refine lv_ishl hx hb dX2_turn_8 ?_
  refine lv_ior hx hb dX2_turn_9 ?_
  exact kr_i (()) hx hb hr hlocks hK hP hD hS (rfl) dX2_turn_10

set_option maxHeartbeats 4000000 in
set_option maxRecDepth 100000 in
theorem m_hashByte (l : Launch) (D : va_G) (A : Nat → Prop) (r : Nat → Nat) (cI cJ : ClassId) (hz tl lv mn vs cb : Nat) (hs su sc ro be tp bs : Nat → Int32) (sz : Nat → Nat) (lw mi : Nat → Int64) (b : Int32) (h1 : hz < 512) : Kv (S := Unit) l yX2_hashByte wsX2_hashByte { frames := 0, cells := 0, slots := 0, locals := 0 } D vwCl [(cI, .int), (cJ, .long)] A [] [.ref (r 0), .int b] (wm r cI cJ hz tl lv mn vs cb hs su sc ro be tp bs sz lw mi) (fun _ => True) (fun _ => (wm r cI cJ (hz + 1) tl lv mn vs cb (upd hs hz ((b) &&& 255)) su sc ro be tp bs sz lw mi)) := by
  refine Met.ofW (cc := cX2_hashByte) (maxL := 2) (ret := none) (by decide) rfl ?_
  intro p e s m args below meth c s₁ B hml hv
  obtain ⟨rfl, hP, hK, hD, hZ⟩ := hv
  have hx := B.exec
  have hb := B.bytes
  have hr := B.returns
  have hts := atoms_spec (ws := wsX2_hashByte) B.pre
  have hown : s.vm.findClass RX2 = some m.cls := findClass_of_methodNamed B.named
  have hlocks := B.notSynchronized
  have hS : va_S A s.heap s.heap [] := va_S.rf
  have hin_2 : ∀ w ∈ u_ws RX2 TX2 16, w ∈ wsX2_hashByte := fun w h => List.mem_cons_of_mem _ (List.mem_append_right _ h)
  have lk_22 := hts (.fieldLink RX2 22 "RootDeskModel" "hashed" "[I") (inM (List.mem_of_getElem? (i := 19) rfl))
  have lk_25 := hts (.fieldLink RX2 25 "RootDeskModel" "hashSize" "I") (inM (List.mem_of_getElem? (i := 20) rfl))
  have hl := lv_entry ([.ref (r 0), .int b]) (n := 2) (Nat.le_of_ble_eq_true rfl)
  rw [lg_entry_eq]
  generalize (lg_sl ([.ref (r 0), .int b]) ++ List.replicate (2 - (lg_sl ([.ref (r 0), .int b])).length) Slot.unset).toArray = ls at hl ⊢
  have hl : lv_has ls 2 [(0, .ref (r 0)), (1, .int b)] := hl
  refine lv_aload_n hx hb dX2_hashByte_0 rfl (lv_at hl 0 rfl) ?_
  refine va_get (D := D) (ci := 2) (v := .ref (r 1)) (C := RX2) (T := TX2) (N := 16) hx hb hts hin_2 hown hK hP 0 rfl rfl 0 (by decide) lk_22 (fun _ h9 => h9) rfl dX2_hashByte_1 ?_
  refine lv_aload_n hx hb dX2_hashByte_4 rfl (lv_at hl 0 rfl) ?_
  refine va_get (D := D) (ci := 2) (v := .int (nI hz)) (C := RX2) (T := TX2) (N := 16) hx hb hts hin_2 hown hK hP 0 rfl rfl 1 (by decide) lk_25 (fun _ h9 => h9) rfl dX2_hashByte_5 ?_
  refine lv_iload_n hx hb dX2_hashByte_8 rfl (lv_at hl 1 rfl) ?_
  refine lv_sipush (v := ((255 : Int32))) hx hb dX2_hashByte_9 (by decide) ?_
  refine lv_iand hx hb dX2_hashByte_12 ?_
  refine kb_iast hx hb hK hP hD hS 1 0 rfl rfl (hz) (rfl) (by omega) (by decide) dX2_hashByte_13 (fun H locs hP hD hS => ?_)
  have hP : va_P D vwCl (wm r cI cJ hz tl lv mn vs cb (upd hs (hz) (((b) &&& ((255 : Int32))))) su sc ro be tp bs sz lw mi) H := hP
  have hD : va_D A (wm r cI cJ hz tl lv mn vs cb (upd hs (hz) (((b) &&& ((255 : Int32))))) su sc ro be tp bs sz lw mi) := hD
  refine lv_aload_n hx hb dX2_hashByte_14 rfl (lv_at hl 0 rfl) ?_
  refine lv_aload_n hx hb dX2_hashByte_15 rfl (lv_at hl 0 rfl) ?_
  refine va_get (D := D) (ci := 2) (v := .int (nI hz)) (C := RX2) (T := TX2) (N := 16) hx hb hts hin_2 hown hK hP 0 rfl rfl 1 (by decide) lk_25 (fun _ h9 => h9) rfl dX2_hashByte_16 ?_
  refine lv_iconst (v := (nI (1))) hx hb dX2_hashByte_19 (by decide) ?_
  refine lv_iadd hx hb dX2_hashByte_20 ?_
  refine kp_i (nI_add _ _) ?_
  refine va_put (D := D) (ci := 2) (v := .int (nI (hz + 1))) (ty := .int) (C := RX2) (T := TX2) (N := 16) hx hb hts hin_2 tyX2 tyX2_ok nmX2 hown hK hP hD hS 0 rfl rfl 1 (by decide) lk_25 (fun _ h9 => h9) rfl (by decide +kernel) rfl rfl (Nat.le_of_ble_eq_true rfl) dX2_hashByte_21 (fun H locs hP hD hS => ?_)
  have hP : va_P D vwCl (wm r cI cJ (hz + 1) tl lv mn vs cb (upd hs (hz) (((b) &&& ((255 : Int32))))) su sc ro be tp bs sz lw mi) H := hP
  have hD : va_D A (wm r cI cJ (hz + 1) tl lv mn vs cb (upd hs (hz) (((b) &&& ((255 : Int32))))) su sc ro be tp bs sz lw mi) := hD
  exact kr_v (()) hx hb hr hlocks hK hP hD hS (trivial) dX2_hashByte_24

set_option maxHeartbeats 4000000 in
set_option maxRecDepth 100000 in
theorem m_sum (l : Launch) (D : va_G) (A : Nat → Prop) (r : Nat → Nat) (cI cJ : ClassId) (hz tl lv mn vs cb : Nat) (hs su sc ro be tp bs : Nat → Int32) (sz : Nat → Nat) (lw mi : Nat → Int64) (k : Nat) (h1 : k < 4) : Kl (S := Unit) l yX2_sum wsX2_sum { frames := 0, cells := 0, slots := 0, locals := 0 } D vwCl [(cI, .int), (cJ, .long)] A [] [.ref (r 0), .int (nI k)] (wm r cI cJ hz tl lv mn vs cb hs su sc ro be tp bs sz lw mi) (fun r _ => r = (lw8 su k)) (fun _ => (wm r cI cJ hz tl lv mn vs cb hs su sc ro be tp bs sz lw mi)) := by
  refine Met.ofW (cc := cX2_sum) (maxL := 2) (ret := (some .long)) (by decide) rfl ?_
  intro p e s m args below meth c s₁ B hml hv
  obtain ⟨rfl, hP, hK, hD, hZ⟩ := hv
  have hx := B.exec
  have hb := B.bytes
  have hr := B.returns
  have hts := atoms_spec (ws := wsX2_sum) B.pre
  have hown : s.vm.findClass RX2 = some m.cls := findClass_of_methodNamed B.named
  have hlocks := B.notSynchronized
  have hS : va_S A s.heap s.heap [] := va_S.rf
  have hin_2 : ∀ w ∈ u_ws RX2 TX2 16, w ∈ wsX2_sum := fun w h => List.mem_cons_of_mem _ (List.mem_append_right _ h)
  have lk_33 := hts (.fieldLink RX2 33 "RootDeskModel" "sums" "[I") (inM (List.mem_of_getElem? (i := 21) rfl))
  have hl := lv_entry ([.ref (r 0), .int (nI k)]) (n := 2) (Nat.le_of_ble_eq_true rfl)
  rw [lg_entry_eq]
  generalize (lg_sl ([.ref (r 0), .int (nI k)]) ++ List.replicate (2 - (lg_sl ([.ref (r 0), .int (nI k)])).length) Slot.unset).toArray = ls at hl ⊢
  have hl : lv_has ls 2 [(0, .ref (r 0)), (1, .int (nI k))] := hl
  refine lv_aload_n hx hb dX2_sum_0 rfl (lv_at hl 0 rfl) ?_
  refine va_get (D := D) (ci := 2) (v := .ref (r 2)) (C := RX2) (T := TX2) (N := 16) hx hb hts hin_2 hown hK hP 0 rfl rfl 2 (by decide) lk_33 (fun _ h9 => h9) rfl dX2_sum_1 ?_
  refine lv_iconst (v := (nI (2))) hx hb dX2_sum_4 (by decide) ?_
  refine lv_iload_n hx hb dX2_sum_5 rfl (lv_at hl 1 rfl) ?_
  refine lv_imul hx hb dX2_sum_6 ?_
  refine kp_i (pk_mul _ _) ?_
  refine kb_iald hx hb hK hP 2 0 rfl rfl (2 * k) (rfl) (by omega) (by decide) dX2_sum_7 ?_
  refine lv_i2l hx hb dX2_sum_8 rfl ?_
  refine lv_bipush (v := ((32 : Int32))) hx hb dX2_sum_9 (by decide) ?_
  refine lv_lshl hx hb dX2_sum_11 rfl ?_
  refine lv_aload_n hx hb dX2_sum_12 rfl (lv_at hl 0 rfl) ?_
  refine va_get (D := D) (ci := 2) (v := .ref (r 2)) (C := RX2) (T := TX2) (N := 16) hx hb hts hin_2 hown hK hP 0 rfl rfl 2 (by decide) lk_33 (fun _ h9 => h9) rfl dX2_sum_13 ?_
  refine lv_iconst (v := (nI (2))) hx hb dX2_sum_16 (by decide) ?_
  refine lv_iload_n hx hb dX2_sum_17 rfl (lv_at hl 1 rfl) ?_
  refine lv_imul hx hb dX2_sum_18 ?_
  refine kp_i (pk_mul _ _) ?_
  refine lv_iconst (v := (nI (1))) hx hb dX2_sum_19 (by decide) ?_
  refine lv_iadd hx hb dX2_sum_20 ?_
  refine kp_i (nI_add _ _) ?_
  refine kb_iald hx hb hK hP 2 0 rfl rfl ((2 * k) + 1) (rfl) (by omega) (by decide) dX2_sum_21 ?_
  refine lv_i2l hx hb dX2_sum_22 rfl ?_
  refine lv_ldc2 (v := 4294967295) hx hb hown (hts (.constantLong RX2 18 (4294967295)) (inM (List.mem_of_getElem? (i := 17) rfl))) dX2_sum_23 ?_
  refine lv_land hx hb dX2_sum_26 ?_
  refine lv_lor hx hb dX2_sum_27 ?_
  exact kr_l (()) hx hb hr hlocks hK hP hD hS (rfl) dX2_sum_28

set_option maxHeartbeats 4000000 in
set_option maxRecDepth 100000 in
theorem m_byteIn (l : Launch) (D : va_G) (A : Nat → Prop) (r : Nat → Nat) (cI cJ : ClassId) (ws : va_W) (w : Int64) (k : Nat) (h1 : k < 8) : Ki (S := Unit) l yX2_byteIn wsX2_byteIn { frames := 0, cells := 0, slots := 0, locals := 0 } D vwCl [(cI, .int), (cJ, .long)] A [] [.long w, .int (nI k)] ws (fun r _ => r = (byi (w) k)) (fun _ => ws) := by
  refine Met.ofW (cc := cX2_byteIn) (maxL := 3) (ret := (some .int)) (by decide) rfl ?_
  intro p e s m args below meth c s₁ B hml hv
  obtain ⟨rfl, hP, hK, hD, hZ⟩ := hv
  have hx := B.exec
  have hb := B.bytes
  have hr := B.returns
  have hts := atoms_spec (ws := wsX2_byteIn) B.pre
  have hown : s.vm.findClass RX2 = some m.cls := findClass_of_methodNamed B.named
  have hlocks := B.notSynchronized
  have hS : va_S A s.heap s.heap [] := va_S.rf
  have hl := lv_entry ([.long w, .int (nI k)]) (n := 3) (Nat.le_of_ble_eq_true rfl)
  rw [lg_entry_eq]
  generalize (lg_sl ([.long w, .int (nI k)]) ++ List.replicate (3 - (lg_sl ([.long w, .int (nI k)])).length) Slot.unset).toArray = ls at hl ⊢
  have hl : lv_has ls 3 [(0, .long w), (2, .int (nI k))] := hl
  refine lv_lload_n hx hb dX2_byteIn_0 rfl (lv_at hl 0 rfl) ?_
  refine lv_bipush (v := (nI (56))) hx hb dX2_byteIn_1 (by decide) ?_
  refine lv_bipush (v := (nI (8))) hx hb dX2_byteIn_3 (by decide) ?_
  refine lv_iload_n hx hb dX2_byteIn_5 rfl (lv_at hl 1 rfl) ?_
  refine lv_imul hx hb dX2_byteIn_6 ?_
  refine kp_i (pk_mul _ _) ?_
  refine lv_isub hx hb dX2_byteIn_7 ?_
  refine kp_i (pk_sub (by omega)) ?_
  refine lv_lshr hx hb dX2_byteIn_8 rfl ?_
  refine lv_l2i hx hb dX2_byteIn_9 rfl ?_
  refine lv_sipush (v := ((255 : Int32))) hx hb dX2_byteIn_10 (by decide) ?_
  refine lv_iand hx hb dX2_byteIn_13 ?_
  exact kr_i (()) hx hb hr hlocks hK hP hD hS (rfl) dX2_byteIn_14

set_option maxHeartbeats 4000000 in
set_option maxRecDepth 100000 in
theorem m_compress (l : Launch) (D : va_G) (A : Nat → Prop) (r : Nat → Nat) (cI cJ : ClassId) (hz tl lv mn vs cb : Nat) (hs su sc ro be tp bs : Nat → Int32) (sz : Nat → Nat) (lw mi : Nat → Int64) (f : Nat) (M : Nat → Int32) (h1 : f + 64 ≤ 512) (h2 : ∀ j, f ≤ j → j < f + 64 → hs j = M j &&& 255) (h3 : ∀ j, j < 64 → ro j = rwv j) : Kv (S := ((Nat → Int32) × (Nat → Int32))) l yX2_compress wsX2_compress { frames := 1, cells := 0, slots := 0, locals := 21 } D vwCl [(cI, .int), (cJ, .long)] A [] [.ref (r 0), .int (nI f)] (wm r cI cJ hz tl lv mn vs cb hs su sc ro be tp bs sz lw mi) (fun u => ∀ j, j < 8 → u.1 j = mx su (swl (wd M f) 48) j) (fun u => (wm r cI cJ hz tl lv mn vs cb hs u.1 u.2 ro be tp bs sz lw mi)) := by
  refine Met.ofW (cc := cX2_compress) (maxL := 13) (ret := none) (by decide) rfl ?_
  intro p e s m args below meth c s₁ B hml hv
  obtain ⟨rfl, hP, hK, hD, hZ⟩ := hv
  have hx := B.exec
  have hb := B.bytes
  have hr := B.returns
  have hts := atoms_spec (ws := wsX2_compress) B.pre
  have hown : s.vm.findClass RX2 = some m.cls := findClass_of_methodNamed B.named
  have hlocks := B.notSynchronized
  have hS : va_S A s.heap s.heap [] := va_S.rf
  have hin_2 : ∀ w ∈ u_ws RX2 TX2 16, w ∈ wsX2_compress := fun w h => List.mem_cons_of_mem _ (List.mem_append_right _ h)
  have lk_11 := hts (.fieldLink RX2 11 "RootDeskModel" "rounds" "[I") (inM (List.mem_of_getElem? (i := 23) rfl))
  have lk_22 := hts (.fieldLink RX2 22 "RootDeskModel" "hashed" "[I") (inM (List.mem_of_getElem? (i := 19) rfl))
  have lk_33 := hts (.fieldLink RX2 33 "RootDeskModel" "sums" "[I") (inM (List.mem_of_getElem? (i := 21) rfl))
  have lk_39 := hts (.fieldLink RX2 39 "RootDeskModel" "schedule" "[I") (inM (List.mem_of_getElem? (i := 22) rfl))
  have hl := lv_entry ([.ref (r 0), .int (nI f)]) (n := 13) (Nat.le_of_ble_eq_true rfl)
  rw [lg_entry_eq]
  generalize (lg_sl ([.ref (r 0), .int (nI f)]) ++ List.replicate (13 - (lg_sl ([.ref (r 0), .int (nI f)])).length) Slot.unset).toArray = ls at hl ⊢
  have hl : lv_has ls 13 [(0, .ref (r 0)), (1, .int (nI f))] := hl
  refine lv_iconst (v := (nI (0))) hx hb dX2_compress_0 (by decide) ?_
  refine lv_istore_n (lv' := [(2, .int (nI 0)), (0, .ref (r 0)), (1, .int (nI f))]) hx hb dX2_compress_1 rfl hl (by decide) rfl (fun ls hl => ?_)
  refine kp_lp (hd := 2) (nn := 16) (fun (i : Nat) (H : Heap) (locs : List Loc) (ls : Array Slot) => ∃ (sc1 : Nat → Int32), (∀ j, j < i → sc1 j = wd M f j) ∧ va_P D vwCl (wm r cI cJ hz tl lv mn vs cb hs su sc1 ro be tp bs sz lw mi) H ∧ va_D A (wm r cI cJ hz tl lv mn vs cb hs su sc1 ro be tp bs sz lw mi) ∧ va_S A s.heap H locs ∧ lv_has ls 13 [(0, .ref (r 0)), (1, .int (nI f)), (2, .int (nI i))]) ?_ 0 (by omega) _ _ _ ⟨sc, fun j hj => absurd hj (Nat.not_lt_zero j), hP, hD, hS, (lv_sub hl [1, 2, 0] rfl)⟩
  intro i hiN H locs ls hI ih
  obtain ⟨sc1, hI_0, hP, hD, hS, hl⟩ := hI
  refine lv_iload_n hx hb dX2_compress_2 rfl (lv_at hl 2 rfl) ?_
  refine lv_bipush (v := (nI (16))) hx hb dX2_compress_3 (by decide) ?_
  refine lv_icmp_ge (tgt := 78) hx hb dX2_compress_5 (by decide) (fun c_5 => ?_) (fun c_5 => ?_)
  · have c_5 : 16 ≤ i := kn_le c_5 (by omega) (by omega)
    have e9 : 16 = i := by omega
    subst e9
    refine lv_bipush (v := (nI (16))) hx hb dX2_compress_78 (by decide) ?_
    refine lv_istore_n (lv' := [(2, .int (nI 16)), (0, .ref (r 0)), (1, .int (nI f))]) hx hb dX2_compress_80 rfl hl (by decide) rfl (fun ls hl => ?_)
    refine kp_lp (hd := 81) (nn := 48) (fun (i : Nat) (H : Heap) (locs : List Loc) (ls : Array Slot) => ∃ (sc1 : Nat → Int32), (∀ j, j < 16 + i → sc1 j = swl (wd M f) i j) ∧ va_P D vwCl (wm r cI cJ hz tl lv mn vs cb hs su sc1 ro be tp bs sz lw mi) H ∧ va_D A (wm r cI cJ hz tl lv mn vs cb hs su sc1 ro be tp bs sz lw mi) ∧ va_S A s.heap H locs ∧ lv_has ls 13 [(0, .ref (r 0)), (1, .int (nI f)), (2, .int (nI (16 + i)))]) ?_ 0 (by omega) _ _ _ ⟨sc1, fun j hj => hI_0 j hj, hP, hD, hS, (lv_sub hl [1, 2, 0] rfl)⟩
    intro i hiN H locs ls hI ih
    obtain ⟨sc1, hI_0, hP, hD, hS, hl⟩ := hI
    refine lv_iload_n hx hb dX2_compress_81 rfl (lv_at hl 2 rfl) ?_
    refine lv_bipush (v := (nI (64))) hx hb dX2_compress_82 (by decide) ?_
    refine lv_icmp_ge (tgt := 178) hx hb dX2_compress_84 (by decide) (fun c_84 => ?_) (fun c_84 => ?_)
    · have c_84 : 64 ≤ (16 + i) := kn_le c_84 (by omega) (by omega)
      have e9 : 48 = i := by omega
      subst e9
      have hsc : ∀ t, t < 64 → sc1 t = swl (wd M f) 48 t := fun t ht => hI_0 t (by omega)
      refine lv_aload_n hx hb dX2_compress_178 rfl (lv_at hl 0 rfl) ?_
      refine va_get (D := D) (ci := 2) (v := .ref (r 2)) (C := RX2) (T := TX2) (N := 16) hx hb hts hin_2 hown hK hP 0 rfl rfl 2 (by decide) lk_33 (fun _ h9 => h9) rfl dX2_compress_179 ?_
      refine lv_iconst (v := ((0 : Int32))) hx hb dX2_compress_182 (by decide) ?_
      refine kb_iald hx hb hK hP 2 0 rfl rfl (0) (rfl) (by decide) (by decide) dX2_compress_183 ?_
      refine lv_istore_n (lv' := [(2, .int (su (0))), (0, .ref (r 0)), (1, .int (nI f))]) hx hb dX2_compress_184 rfl hl (by decide) rfl (fun ls hl => ?_)
      refine lv_aload_n hx hb dX2_compress_185 rfl (lv_at hl 1 rfl) ?_
      refine va_get (D := D) (ci := 2) (v := .ref (r 2)) (C := RX2) (T := TX2) (N := 16) hx hb hts hin_2 hown hK hP 0 rfl rfl 2 (by decide) lk_33 (fun _ h9 => h9) rfl dX2_compress_186 ?_
      refine lv_iconst (v := ((1 : Int32))) hx hb dX2_compress_189 (by decide) ?_
      refine kb_iald hx hb hK hP 2 0 rfl rfl (1) (rfl) (by decide) (by decide) dX2_compress_190 ?_
      refine lv_istore_n (lv' := [(3, .int (su (1))), (2, .int (su (0))), (0, .ref (r 0)), (1, .int (nI f))]) hx hb dX2_compress_191 rfl hl (by decide) rfl (fun ls hl => ?_)
      refine lv_aload_n hx hb dX2_compress_192 rfl (lv_at hl 2 rfl) ?_
      refine va_get (D := D) (ci := 2) (v := .ref (r 2)) (C := RX2) (T := TX2) (N := 16) hx hb hts hin_2 hown hK hP 0 rfl rfl 2 (by decide) lk_33 (fun _ h9 => h9) rfl dX2_compress_193 ?_
      refine lv_iconst (v := ((2 : Int32))) hx hb dX2_compress_196 (by decide) ?_
      refine kb_iald hx hb hK hP 2 0 rfl rfl (2) (rfl) (by decide) (by decide) dX2_compress_197 ?_
      refine lv_istore (lv' := [(4, .int (su (2))), (3, .int (su (1))), (2, .int (su (0))), (0, .ref (r 0)), (1, .int (nI f))]) hx hb dX2_compress_198 hl (by decide) rfl (fun ls hl => ?_)
      refine lv_aload_n hx hb dX2_compress_200 rfl (lv_at hl 3 rfl) ?_
      refine va_get (D := D) (ci := 2) (v := .ref (r 2)) (C := RX2) (T := TX2) (N := 16) hx hb hts hin_2 hown hK hP 0 rfl rfl 2 (by decide) lk_33 (fun _ h9 => h9) rfl dX2_compress_201 ?_
      refine lv_iconst (v := ((3 : Int32))) hx hb dX2_compress_204 (by decide) ?_
      refine kb_iald hx hb hK hP 2 0 rfl rfl (3) (rfl) (by decide) (by decide) dX2_compress_205 ?_
      refine lv_istore (lv' := [(5, .int (su (3))), (4, .int (su (2))), (3, .int (su (1))), (2, .int (su (0))), (0, .ref (r 0)), (1, .int (nI f))]) hx hb dX2_compress_206 hl (by decide) rfl (fun ls hl => ?_)
      refine lv_aload_n hx hb dX2_compress_208 rfl (lv_at hl 4 rfl) ?_
      refine va_get (D := D) (ci := 2) (v := .ref (r 2)) (C := RX2) (T := TX2) (N := 16) hx hb hts hin_2 hown hK hP 0 rfl rfl 2 (by decide) lk_33 (fun _ h9 => h9) rfl dX2_compress_209 ?_
      refine lv_iconst (v := ((4 : Int32))) hx hb dX2_compress_212 (by decide) ?_
      refine kb_iald hx hb hK hP 2 0 rfl rfl (4) (rfl) (by decide) (by decide) dX2_compress_213 ?_
      refine lv_istore (lv' := [(6, .int (su (4))), (5, .int (su (3))), (4, .int (su (2))), (3, .int (su (1))), (2, .int (su (0))), (0, .ref (r 0)), (1, .int (nI f))]) hx hb dX2_compress_214 hl (by decide) rfl (fun ls hl => ?_)
      refine lv_aload_n hx hb dX2_compress_216 rfl (lv_at hl 5 rfl) ?_
      refine va_get (D := D) (ci := 2) (v := .ref (r 2)) (C := RX2) (T := TX2) (N := 16) hx hb hts hin_2 hown hK hP 0 rfl rfl 2 (by decide) lk_33 (fun _ h9 => h9) rfl dX2_compress_217 ?_
      refine lv_iconst (v := ((5 : Int32))) hx hb dX2_compress_220 (by decide) ?_
      refine kb_iald hx hb hK hP 2 0 rfl rfl (5) (rfl) (by decide) (by decide) dX2_compress_221 ?_
      refine lv_istore (lv' := [(7, .int (su (5))), (6, .int (su (4))), (5, .int (su (3))), (4, .int (su (2))), (3, .int (su (1))), (2, .int (su (0))), (0, .ref (r 0)), (1, .int (nI f))]) hx hb dX2_compress_222 hl (by decide) rfl (fun ls hl => ?_)
      refine lv_aload_n hx hb dX2_compress_224 rfl (lv_at hl 6 rfl) ?_
      refine va_get (D := D) (ci := 2) (v := .ref (r 2)) (C := RX2) (T := TX2) (N := 16) hx hb hts hin_2 hown hK hP 0 rfl rfl 2 (by decide) lk_33 (fun _ h9 => h9) rfl dX2_compress_225 ?_
      refine lv_bipush (v := ((6 : Int32))) hx hb dX2_compress_228 (by decide) ?_
      refine kb_iald hx hb hK hP 2 0 rfl rfl (6) (rfl) (by decide) (by decide) dX2_compress_230 ?_
      refine lv_istore (lv' := [(8, .int (su (6))), (7, .int (su (5))), (6, .int (su (4))), (5, .int (su (3))), (4, .int (su (2))), (3, .int (su (1))), (2, .int (su (0))), (0, .ref (r 0)), (1, .int (nI f))]) hx hb dX2_compress_231 hl (by decide) rfl (fun ls hl => ?_)
      refine lv_aload_n hx hb dX2_compress_233 rfl (lv_at hl 7 rfl) ?_
      refine va_get (D := D) (ci := 2) (v := .ref (r 2)) (C := RX2) (T := TX2) (N := 16) hx hb hts hin_2 hown hK hP 0 rfl rfl 2 (by decide) lk_33 (fun _ h9 => h9) rfl dX2_compress_234 ?_
      refine lv_bipush (v := ((7 : Int32))) hx hb dX2_compress_237 (by decide) ?_
      refine kb_iald hx hb hK hP 2 0 rfl rfl (7) (rfl) (by decide) (by decide) dX2_compress_239 ?_
      refine lv_istore (lv' := [(9, .int (su (7))), (8, .int (su (6))), (7, .int (su (5))), (6, .int (su (4))), (5, .int (su (3))), (4, .int (su (2))), (3, .int (su (1))), (2, .int (su (0))), (0, .ref (r 0)), (1, .int (nI f))]) hx hb dX2_compress_240 hl (by decide) rfl (fun ls hl => ?_)
      refine lv_iconst (v := (nI (0))) hx hb dX2_compress_242 (by decide) ?_
      refine lv_istore (lv' := [(10, .int (nI 0)), (9, .int (su (7))), (8, .int (su (6))), (7, .int (su (5))), (6, .int (su (4))), (5, .int (su (3))), (4, .int (su (2))), (3, .int (su (1))), (2, .int (su (0))), (0, .ref (r 0)), (1, .int (nI f))]) hx hb dX2_compress_243 hl (by decide) rfl (fun ls hl => ?_)
      refine kp_lp (hd := 245) (nn := 64) (fun (i : Nat) (H : Heap) (locs : List Loc) (ls : Array Slot) => ∃ (xa xb xc xd xe xf xg xh : Int32), (rds sc1 (su 0, su 1, su 2, su 3, su 4, su 5, su 6, su 7) i = (xa, xb, xc, xd, xe, xf, xg, xh)) ∧ va_P D vwCl (wm r cI cJ hz tl lv mn vs cb hs su sc1 ro be tp bs sz lw mi) H ∧ va_D A (wm r cI cJ hz tl lv mn vs cb hs su sc1 ro be tp bs sz lw mi) ∧ va_S A s.heap H locs ∧ lv_has ls 13 [(0, .ref (r 0)), (2, .int xa), (3, .int xb), (4, .int xc), (5, .int xd), (6, .int xe), (7, .int xf), (8, .int xg), (9, .int xh), (10, .int (nI i))]) ?_ 0 (by omega) _ _ _ ⟨_, _, _, _, _, _, _, _, rfl, hP, hD, hS, (lv_sub hl [9, 8, 7, 6, 5, 4, 3, 2, 1, 0] rfl)⟩
      intro i hiN H locs ls hI ih
      obtain ⟨xa, xb, xc, xd, xe, xf, xg, xh, hI_0, hP, hD, hS, hl⟩ := hI
      refine lv_iload hx hb dX2_compress_245 (lv_at hl 9 rfl) ?_
      refine lv_bipush (v := (nI (64))) hx hb dX2_compress_247 (by decide) ?_
      refine lv_icmp_ge (tgt := 385) hx hb dX2_compress_249 (by decide) (fun c_249 => ?_) (fun c_249 => ?_)
      · have c_249 : 64 ≤ i := kn_le c_249 (by omega) (by omega)
        have e9 : 64 = i := by omega
        subst e9
        refine lv_aload_n hx hb dX2_compress_385 rfl (lv_at hl 0 rfl) ?_
        refine va_get (D := D) (ci := 2) (v := .ref (r 2)) (C := RX2) (T := TX2) (N := 16) hx hb hts hin_2 hown hK hP 0 rfl rfl 2 (by decide) lk_33 (fun _ h9 => h9) rfl dX2_compress_386 ?_
        refine lv_iconst (v := ((0 : Int32))) hx hb dX2_compress_389 (by decide) ?_
        refine lv_aload_n hx hb dX2_compress_390 rfl (lv_at hl 0 rfl) ?_
        refine va_get (D := D) (ci := 2) (v := .ref (r 2)) (C := RX2) (T := TX2) (N := 16) hx hb hts hin_2 hown hK hP 0 rfl rfl 2 (by decide) lk_33 (fun _ h9 => h9) rfl dX2_compress_391 ?_
        refine lv_iconst (v := ((0 : Int32))) hx hb dX2_compress_394 (by decide) ?_
        refine kb_iald hx hb hK hP 2 0 rfl rfl (0) (rfl) (by decide) (by decide) dX2_compress_395 ?_
        refine lv_iload_n hx hb dX2_compress_396 rfl (lv_at hl 1 rfl) ?_
        refine lv_iadd hx hb dX2_compress_397 ?_
        refine kb_iast hx hb hK hP hD hS 2 0 rfl rfl (0) (rfl) (by decide) (by decide) dX2_compress_398 (fun H locs hP hD hS => ?_)
        have hP : va_P D vwCl (wm r cI cJ hz tl lv mn vs cb hs (upd su (0) (((su (0)) + (xa)))) sc1 ro be tp bs sz lw mi) H := hP
        have hD : va_D A (wm r cI cJ hz tl lv mn vs cb hs (upd su (0) (((su (0)) + (xa)))) sc1 ro be tp bs sz lw mi) := hD
        refine lv_aload_n hx hb dX2_compress_399 rfl (lv_at hl 0 rfl) ?_
        refine va_get (D := D) (ci := 2) (v := .ref (r 2)) (C := RX2) (T := TX2) (N := 16) hx hb hts hin_2 hown hK hP 0 rfl rfl 2 (by decide) lk_33 (fun _ h9 => h9) rfl dX2_compress_400 ?_
        refine lv_iconst (v := ((1 : Int32))) hx hb dX2_compress_403 (by decide) ?_
        refine lv_aload_n hx hb dX2_compress_404 rfl (lv_at hl 0 rfl) ?_
        refine va_get (D := D) (ci := 2) (v := .ref (r 2)) (C := RX2) (T := TX2) (N := 16) hx hb hts hin_2 hown hK hP 0 rfl rfl 2 (by decide) lk_33 (fun _ h9 => h9) rfl dX2_compress_405 ?_
        refine lv_iconst (v := ((1 : Int32))) hx hb dX2_compress_408 (by decide) ?_
        refine kb_iald hx hb hK hP 2 0 rfl rfl (1) (rfl) (by decide) (by decide) dX2_compress_409 ?_
        refine lv_iload_n hx hb dX2_compress_410 rfl (lv_at hl 2 rfl) ?_
        refine lv_iadd hx hb dX2_compress_411 ?_
        refine kb_iast hx hb hK hP hD hS 2 0 rfl rfl (1) (rfl) (by decide) (by decide) dX2_compress_412 (fun H locs hP hD hS => ?_)
        have hP : va_P D vwCl (wm r cI cJ hz tl lv mn vs cb hs (upd (upd su (0) (((su (0)) + (xa)))) (1) ((((upd su (0) (((su (0)) + (xa)))) (1)) + (xb)))) sc1 ro be tp bs sz lw mi) H := hP
        have hD : va_D A (wm r cI cJ hz tl lv mn vs cb hs (upd (upd su (0) (((su (0)) + (xa)))) (1) ((((upd su (0) (((su (0)) + (xa)))) (1)) + (xb)))) sc1 ro be tp bs sz lw mi) := hD
        refine lv_aload_n hx hb dX2_compress_413 rfl (lv_at hl 0 rfl) ?_
        refine va_get (D := D) (ci := 2) (v := .ref (r 2)) (C := RX2) (T := TX2) (N := 16) hx hb hts hin_2 hown hK hP 0 rfl rfl 2 (by decide) lk_33 (fun _ h9 => h9) rfl dX2_compress_414 ?_
        refine lv_iconst (v := ((2 : Int32))) hx hb dX2_compress_417 (by decide) ?_
        refine lv_aload_n hx hb dX2_compress_418 rfl (lv_at hl 0 rfl) ?_
        refine va_get (D := D) (ci := 2) (v := .ref (r 2)) (C := RX2) (T := TX2) (N := 16) hx hb hts hin_2 hown hK hP 0 rfl rfl 2 (by decide) lk_33 (fun _ h9 => h9) rfl dX2_compress_419 ?_
        refine lv_iconst (v := ((2 : Int32))) hx hb dX2_compress_422 (by decide) ?_
        refine kb_iald hx hb hK hP 2 0 rfl rfl (2) (rfl) (by decide) (by decide) dX2_compress_423 ?_
        refine lv_iload hx hb dX2_compress_424 (lv_at hl 3 rfl) ?_
        refine lv_iadd hx hb dX2_compress_426 ?_
        refine kb_iast hx hb hK hP hD hS 2 0 rfl rfl (2) (rfl) (by decide) (by decide) dX2_compress_427 (fun H locs hP hD hS => ?_)
        have hP : va_P D vwCl (wm r cI cJ hz tl lv mn vs cb hs (upd (upd (upd su (0) (((su (0)) + (xa)))) (1) ((((upd su (0) (((su (0)) + (xa)))) (1)) + (xb)))) (2) ((((upd (upd su (0) (((su (0)) + (xa)))) (1) ((((upd su (0) (((su (0)) + (xa)))) (1)) + (xb)))) (2)) + (xc)))) sc1 ro be tp bs sz lw mi) H := hP
        have hD : va_D A (wm r cI cJ hz tl lv mn vs cb hs (upd (upd (upd su (0) (((su (0)) + (xa)))) (1) ((((upd su (0) (((su (0)) + (xa)))) (1)) + (xb)))) (2) ((((upd (upd su (0) (((su (0)) + (xa)))) (1) ((((upd su (0) (((su (0)) + (xa)))) (1)) + (xb)))) (2)) + (xc)))) sc1 ro be tp bs sz lw mi) := hD
        refine lv_aload_n hx hb dX2_compress_428 rfl (lv_at hl 0 rfl) ?_
        refine va_get (D := D) (ci := 2) (v := .ref (r 2)) (C := RX2) (T := TX2) (N := 16) hx hb hts hin_2 hown hK hP 0 rfl rfl 2 (by decide) lk_33 (fun _ h9 => h9) rfl dX2_compress_429 ?_
        refine lv_iconst (v := ((3 : Int32))) hx hb dX2_compress_432 (by decide) ?_
        refine lv_aload_n hx hb dX2_compress_433 rfl (lv_at hl 0 rfl) ?_
        refine va_get (D := D) (ci := 2) (v := .ref (r 2)) (C := RX2) (T := TX2) (N := 16) hx hb hts hin_2 hown hK hP 0 rfl rfl 2 (by decide) lk_33 (fun _ h9 => h9) rfl dX2_compress_434 ?_
        refine lv_iconst (v := ((3 : Int32))) hx hb dX2_compress_437 (by decide) ?_
        refine kb_iald hx hb hK hP 2 0 rfl rfl (3) (rfl) (by decide) (by decide) dX2_compress_438 ?_
        refine lv_iload hx hb dX2_compress_439 (lv_at hl 4 rfl) ?_
        refine lv_iadd hx hb dX2_compress_441 ?_
        refine kb_iast hx hb hK hP hD hS 2 0 rfl rfl (3) (rfl) (by decide) (by decide) dX2_compress_442 (fun H locs hP hD hS => ?_)
        have hP : va_P D vwCl (wm r cI cJ hz tl lv mn vs cb hs (upd (upd (upd (upd su (0) (((su (0)) + (xa)))) (1) ((((upd su (0) (((su (0)) + (xa)))) (1)) + (xb)))) (2) ((((upd (upd su (0) (((su (0)) + (xa)))) (1) ((((upd su (0) (((su (0)) + (xa)))) (1)) + (xb)))) (2)) + (xc)))) (3) ((((upd (upd (upd su (0) (((su (0)) + (xa)))) (1) ((((upd su (0) (((su (0)) + (xa)))) (1)) + (xb)))) (2) ((((upd (upd su (0) (((su (0)) + (xa)))) (1) ((((upd su (0) (((su (0)) + (xa)))) (1)) + (xb)))) (2)) + (xc)))) (3)) + (xd)))) sc1 ro be tp bs sz lw mi) H := hP
        have hD : va_D A (wm r cI cJ hz tl lv mn vs cb hs (upd (upd (upd (upd su (0) (((su (0)) + (xa)))) (1) ((((upd su (0) (((su (0)) + (xa)))) (1)) + (xb)))) (2) ((((upd (upd su (0) (((su (0)) + (xa)))) (1) ((((upd su (0) (((su (0)) + (xa)))) (1)) + (xb)))) (2)) + (xc)))) (3) ((((upd (upd (upd su (0) (((su (0)) + (xa)))) (1) ((((upd su (0) (((su (0)) + (xa)))) (1)) + (xb)))) (2) ((((upd (upd su (0) (((su (0)) + (xa)))) (1) ((((upd su (0) (((su (0)) + (xa)))) (1)) + (xb)))) (2)) + (xc)))) (3)) + (xd)))) sc1 ro be tp bs sz lw mi) := hD
        refine lv_aload_n hx hb dX2_compress_443 rfl (lv_at hl 0 rfl) ?_
        refine va_get (D := D) (ci := 2) (v := .ref (r 2)) (C := RX2) (T := TX2) (N := 16) hx hb hts hin_2 hown hK hP 0 rfl rfl 2 (by decide) lk_33 (fun _ h9 => h9) rfl dX2_compress_444 ?_
        refine lv_iconst (v := ((4 : Int32))) hx hb dX2_compress_447 (by decide) ?_
        refine lv_aload_n hx hb dX2_compress_448 rfl (lv_at hl 0 rfl) ?_
        refine va_get (D := D) (ci := 2) (v := .ref (r 2)) (C := RX2) (T := TX2) (N := 16) hx hb hts hin_2 hown hK hP 0 rfl rfl 2 (by decide) lk_33 (fun _ h9 => h9) rfl dX2_compress_449 ?_
        refine lv_iconst (v := ((4 : Int32))) hx hb dX2_compress_452 (by decide) ?_
        refine kb_iald hx hb hK hP 2 0 rfl rfl (4) (rfl) (by decide) (by decide) dX2_compress_453 ?_
        refine lv_iload hx hb dX2_compress_454 (lv_at hl 5 rfl) ?_
        refine lv_iadd hx hb dX2_compress_456 ?_
        refine kb_iast hx hb hK hP hD hS 2 0 rfl rfl (4) (rfl) (by decide) (by decide) dX2_compress_457 (fun H locs hP hD hS => ?_)
        have hP : va_P D vwCl (wm r cI cJ hz tl lv mn vs cb hs (upd (upd (upd (upd (upd su (0) (((su (0)) + (xa)))) (1) ((((upd su (0) (((su (0)) + (xa)))) (1)) + (xb)))) (2) ((((upd (upd su (0) (((su (0)) + (xa)))) (1) ((((upd su (0) (((su (0)) + (xa)))) (1)) + (xb)))) (2)) + (xc)))) (3) ((((upd (upd (upd su (0) (((su (0)) + (xa)))) (1) ((((upd su (0) (((su (0)) + (xa)))) (1)) + (xb)))) (2) ((((upd (upd su (0) (((su (0)) + (xa)))) (1) ((((upd su (0) (((su (0)) + (xa)))) (1)) + (xb)))) (2)) + (xc)))) (3)) + (xd)))) (4) ((((upd (upd (upd (upd su (0) (((su (0)) + (xa)))) (1) ((((upd su (0) (((su (0)) + (xa)))) (1)) + (xb)))) (2) ((((upd (upd su (0) (((su (0)) + (xa)))) (1) ((((upd su (0) (((su (0)) + (xa)))) (1)) + (xb)))) (2)) + (xc)))) (3) ((((upd (upd (upd su (0) (((su (0)) + (xa)))) (1) ((((upd su (0) (((su (0)) + (xa)))) (1)) + (xb)))) (2) ((((upd (upd su (0) (((su (0)) + (xa)))) (1) ((((upd su (0) (((su (0)) + (xa)))) (1)) + (xb)))) (2)) + (xc)))) (3)) + (xd)))) (4)) + (xe)))) sc1 ro be tp bs sz lw mi) H := hP
        have hD : va_D A (wm r cI cJ hz tl lv mn vs cb hs (upd (upd (upd (upd (upd su (0) (((su (0)) + (xa)))) (1) ((((upd su (0) (((su (0)) + (xa)))) (1)) + (xb)))) (2) ((((upd (upd su (0) (((su (0)) + (xa)))) (1) ((((upd su (0) (((su (0)) + (xa)))) (1)) + (xb)))) (2)) + (xc)))) (3) ((((upd (upd (upd su (0) (((su (0)) + (xa)))) (1) ((((upd su (0) (((su (0)) + (xa)))) (1)) + (xb)))) (2) ((((upd (upd su (0) (((su (0)) + (xa)))) (1) ((((upd su (0) (((su (0)) + (xa)))) (1)) + (xb)))) (2)) + (xc)))) (3)) + (xd)))) (4) ((((upd (upd (upd (upd su (0) (((su (0)) + (xa)))) (1) ((((upd su (0) (((su (0)) + (xa)))) (1)) + (xb)))) (2) ((((upd (upd su (0) (((su (0)) + (xa)))) (1) ((((upd su (0) (((su (0)) + (xa)))) (1)) + (xb)))) (2)) + (xc)))) (3) ((((upd (upd (upd su (0) (((su (0)) + (xa)))) (1) ((((upd su (0) (((su (0)) + (xa)))) (1)) + (xb)))) (2) ((((upd (upd su (0) (((su (0)) + (xa)))) (1) ((((upd su (0) (((su (0)) + (xa)))) (1)) + (xb)))) (2)) + (xc)))) (3)) + (xd)))) (4)) + (xe)))) sc1 ro be tp bs sz lw mi) := hD
        refine lv_aload_n hx hb dX2_compress_458 rfl (lv_at hl 0 rfl) ?_
        refine va_get (D := D) (ci := 2) (v := .ref (r 2)) (C := RX2) (T := TX2) (N := 16) hx hb hts hin_2 hown hK hP 0 rfl rfl 2 (by decide) lk_33 (fun _ h9 => h9) rfl dX2_compress_459 ?_
        refine lv_iconst (v := ((5 : Int32))) hx hb dX2_compress_462 (by decide) ?_
        refine lv_aload_n hx hb dX2_compress_463 rfl (lv_at hl 0 rfl) ?_
        refine va_get (D := D) (ci := 2) (v := .ref (r 2)) (C := RX2) (T := TX2) (N := 16) hx hb hts hin_2 hown hK hP 0 rfl rfl 2 (by decide) lk_33 (fun _ h9 => h9) rfl dX2_compress_464 ?_
        refine lv_iconst (v := ((5 : Int32))) hx hb dX2_compress_467 (by decide) ?_
        refine kb_iald hx hb hK hP 2 0 rfl rfl (5) (rfl) (by decide) (by decide) dX2_compress_468 ?_
        refine lv_iload hx hb dX2_compress_469 (lv_at hl 6 rfl) ?_
        refine lv_iadd hx hb dX2_compress_471 ?_
        refine kb_iast hx hb hK hP hD hS 2 0 rfl rfl (5) (rfl) (by decide) (by decide) dX2_compress_472 (fun H locs hP hD hS => ?_)
        have hP : va_P D vwCl (wm r cI cJ hz tl lv mn vs cb hs (upd (upd (upd (upd (upd (upd su (0) (((su (0)) + (xa)))) (1) ((((upd su (0) (((su (0)) + (xa)))) (1)) + (xb)))) (2) ((((upd (upd su (0) (((su (0)) + (xa)))) (1) ((((upd su (0) (((su (0)) + (xa)))) (1)) + (xb)))) (2)) + (xc)))) (3) ((((upd (upd (upd su (0) (((su (0)) + (xa)))) (1) ((((upd su (0) (((su (0)) + (xa)))) (1)) + (xb)))) (2) ((((upd (upd su (0) (((su (0)) + (xa)))) (1) ((((upd su (0) (((su (0)) + (xa)))) (1)) + (xb)))) (2)) + (xc)))) (3)) + (xd)))) (4) ((((upd (upd (upd (upd su (0) (((su (0)) + (xa)))) (1) ((((upd su (0) (((su (0)) + (xa)))) (1)) + (xb)))) (2) ((((upd (upd su (0) (((su (0)) + (xa)))) (1) ((((upd su (0) (((su (0)) + (xa)))) (1)) + (xb)))) (2)) + (xc)))) (3) ((((upd (upd (upd su (0) (((su (0)) + (xa)))) (1) ((((upd su (0) (((su (0)) + (xa)))) (1)) + (xb)))) (2) ((((upd (upd su (0) (((su (0)) + (xa)))) (1) ((((upd su (0) (((su (0)) + (xa)))) (1)) + (xb)))) (2)) + (xc)))) (3)) + (xd)))) (4)) + (xe)))) (5) ((((upd (upd (upd (upd (upd su (0) (((su (0)) + (xa)))) (1) ((((upd su (0) (((su (0)) + (xa)))) (1)) + (xb)))) (2) ((((upd (upd su (0) (((su (0)) + (xa)))) (1) ((((upd su (0) (((su (0)) + (xa)))) (1)) + (xb)))) (2)) + (xc)))) (3) ((((upd (upd (upd su (0) (((su (0)) + (xa)))) (1) ((((upd su (0) (((su (0)) + (xa)))) (1)) + (xb)))) (2) ((((upd (upd su (0) (((su (0)) + (xa)))) (1) ((((upd su (0) (((su (0)) + (xa)))) (1)) + (xb)))) (2)) + (xc)))) (3)) + (xd)))) (4) ((((upd (upd (upd (upd su (0) (((su (0)) + (xa)))) (1) ((((upd su (0) (((su (0)) + (xa)))) (1)) + (xb)))) (2) ((((upd (upd su (0) (((su (0)) + (xa)))) (1) ((((upd su (0) (((su (0)) + (xa)))) (1)) + (xb)))) (2)) + (xc)))) (3) ((((upd (upd (upd su (0) (((su (0)) + (xa)))) (1) ((((upd su (0) (((su (0)) + (xa)))) (1)) + (xb)))) (2) ((((upd (upd su (0) (((su (0)) + (xa)))) (1) ((((upd su (0) (((su (0)) + (xa)))) (1)) + (xb)))) (2)) + (xc)))) (3)) + (xd)))) (4)) + (xe)))) (5)) + (xf)))) sc1 ro be tp bs sz lw mi) H := hP
        have hD : va_D A (wm r cI cJ hz tl lv mn vs cb hs (upd (upd (upd (upd (upd (upd su (0) (((su (0)) + (xa)))) (1) ((((upd su (0) (((su (0)) + (xa)))) (1)) + (xb)))) (2) ((((upd (upd su (0) (((su (0)) + (xa)))) (1) ((((upd su (0) (((su (0)) + (xa)))) (1)) + (xb)))) (2)) + (xc)))) (3) ((((upd (upd (upd su (0) (((su (0)) + (xa)))) (1) ((((upd su (0) (((su (0)) + (xa)))) (1)) + (xb)))) (2) ((((upd (upd su (0) (((su (0)) + (xa)))) (1) ((((upd su (0) (((su (0)) + (xa)))) (1)) + (xb)))) (2)) + (xc)))) (3)) + (xd)))) (4) ((((upd (upd (upd (upd su (0) (((su (0)) + (xa)))) (1) ((((upd su (0) (((su (0)) + (xa)))) (1)) + (xb)))) (2) ((((upd (upd su (0) (((su (0)) + (xa)))) (1) ((((upd su (0) (((su (0)) + (xa)))) (1)) + (xb)))) (2)) + (xc)))) (3) ((((upd (upd (upd su (0) (((su (0)) + (xa)))) (1) ((((upd su (0) (((su (0)) + (xa)))) (1)) + (xb)))) (2) ((((upd (upd su (0) (((su (0)) + (xa)))) (1) ((((upd su (0) (((su (0)) + (xa)))) (1)) + (xb)))) (2)) + (xc)))) (3)) + (xd)))) (4)) + (xe)))) (5) ((((upd (upd (upd (upd (upd su (0) (((su (0)) + (xa)))) (1) ((((upd su (0) (((su (0)) + (xa)))) (1)) + (xb)))) (2) ((((upd (upd su (0) (((su (0)) + (xa)))) (1) ((((upd su (0) (((su (0)) + (xa)))) (1)) + (xb)))) (2)) + (xc)))) (3) ((((upd (upd (upd su (0) (((su (0)) + (xa)))) (1) ((((upd su (0) (((su (0)) + (xa)))) (1)) + (xb)))) (2) ((((upd (upd su (0) (((su (0)) + (xa)))) (1) ((((upd su (0) (((su (0)) + (xa)))) (1)) + (xb)))) (2)) + (xc)))) (3)) + (xd)))) (4) ((((upd (upd (upd (upd su (0) (((su (0)) + (xa)))) (1) ((((upd su (0) (((su (0)) + (xa)))) (1)) + (xb)))) (2) ((((upd (upd su (0) (((su (0)) + (xa)))) (1) ((((upd su (0) (((su (0)) + (xa)))) (1)) + (xb)))) (2)) + (xc)))) (3) ((((upd (upd (upd su (0) (((su (0)) + (xa)))) (1) ((((upd su (0) (((su (0)) + (xa)))) (1)) + (xb)))) (2) ((((upd (upd su (0) (((su (0)) + (xa)))) (1) ((((upd su (0) (((su (0)) + (xa)))) (1)) + (xb)))) (2)) + (xc)))) (3)) + (xd)))) (4)) + (xe)))) (5)) + (xf)))) sc1 ro be tp bs sz lw mi) := hD
        refine lv_aload_n hx hb dX2_compress_473 rfl (lv_at hl 0 rfl) ?_
        refine va_get (D := D) (ci := 2) (v := .ref (r 2)) (C := RX2) (T := TX2) (N := 16) hx hb hts hin_2 hown hK hP 0 rfl rfl 2 (by decide) lk_33 (fun _ h9 => h9) rfl dX2_compress_474 ?_
        refine lv_bipush (v := ((6 : Int32))) hx hb dX2_compress_477 (by decide) ?_
        refine lv_aload_n hx hb dX2_compress_479 rfl (lv_at hl 0 rfl) ?_
        refine va_get (D := D) (ci := 2) (v := .ref (r 2)) (C := RX2) (T := TX2) (N := 16) hx hb hts hin_2 hown hK hP 0 rfl rfl 2 (by decide) lk_33 (fun _ h9 => h9) rfl dX2_compress_480 ?_
        refine lv_bipush (v := ((6 : Int32))) hx hb dX2_compress_483 (by decide) ?_
        refine kb_iald hx hb hK hP 2 0 rfl rfl (6) (rfl) (by decide) (by decide) dX2_compress_485 ?_
        refine lv_iload hx hb dX2_compress_486 (lv_at hl 7 rfl) ?_
        refine lv_iadd hx hb dX2_compress_488 ?_
        refine kb_iast hx hb hK hP hD hS 2 0 rfl rfl (6) (rfl) (by decide) (by decide) dX2_compress_489 (fun H locs hP hD hS => ?_)
        have hP : va_P D vwCl (wm r cI cJ hz tl lv mn vs cb hs (upd (upd (upd (upd (upd (upd (upd su (0) (((su (0)) + (xa)))) (1) ((((upd su (0) (((su (0)) + (xa)))) (1)) + (xb)))) (2) ((((upd (upd su (0) (((su (0)) + (xa)))) (1) ((((upd su (0) (((su (0)) + (xa)))) (1)) + (xb)))) (2)) + (xc)))) (3) ((((upd (upd (upd su (0) (((su (0)) + (xa)))) (1) ((((upd su (0) (((su (0)) + (xa)))) (1)) + (xb)))) (2) ((((upd (upd su (0) (((su (0)) + (xa)))) (1) ((((upd su (0) (((su (0)) + (xa)))) (1)) + (xb)))) (2)) + (xc)))) (3)) + (xd)))) (4) ((((upd (upd (upd (upd su (0) (((su (0)) + (xa)))) (1) ((((upd su (0) (((su (0)) + (xa)))) (1)) + (xb)))) (2) ((((upd (upd su (0) (((su (0)) + (xa)))) (1) ((((upd su (0) (((su (0)) + (xa)))) (1)) + (xb)))) (2)) + (xc)))) (3) ((((upd (upd (upd su (0) (((su (0)) + (xa)))) (1) ((((upd su (0) (((su (0)) + (xa)))) (1)) + (xb)))) (2) ((((upd (upd su (0) (((su (0)) + (xa)))) (1) ((((upd su (0) (((su (0)) + (xa)))) (1)) + (xb)))) (2)) + (xc)))) (3)) + (xd)))) (4)) + (xe)))) (5) ((((upd (upd (upd (upd (upd su (0) (((su (0)) + (xa)))) (1) ((((upd su (0) (((su (0)) + (xa)))) (1)) + (xb)))) (2) ((((upd (upd su (0) (((su (0)) + (xa)))) (1) ((((upd su (0) (((su (0)) + (xa)))) (1)) + (xb)))) (2)) + (xc)))) (3) ((((upd (upd (upd su (0) (((su (0)) + (xa)))) (1) ((((upd su (0) (((su (0)) + (xa)))) (1)) + (xb)))) (2) ((((upd (upd su (0) (((su (0)) + (xa)))) (1) ((((upd su (0) (((su (0)) + (xa)))) (1)) + (xb)))) (2)) + (xc)))) (3)) + (xd)))) (4) ((((upd (upd (upd (upd su (0) (((su (0)) + (xa)))) (1) ((((upd su (0) (((su (0)) + (xa)))) (1)) + (xb)))) (2) ((((upd (upd su (0) (((su (0)) + (xa)))) (1) ((((upd su (0) (((su (0)) + (xa)))) (1)) + (xb)))) (2)) + (xc)))) (3) ((((upd (upd (upd su (0) (((su (0)) + (xa)))) (1) ((((upd su (0) (((su (0)) + (xa)))) (1)) + (xb)))) (2) ((((upd (upd su (0) (((su (0)) + (xa)))) (1) ((((upd su (0) (((su (0)) + (xa)))) (1)) + (xb)))) (2)) + (xc)))) (3)) + (xd)))) (4)) + (xe)))) (5)) + (xf)))) (6) ((((upd (upd (upd (upd (upd (upd su (0) (((su (0)) + (xa)))) (1) ((((upd su (0) (((su (0)) + (xa)))) (1)) + (xb)))) (2) ((((upd (upd su (0) (((su (0)) + (xa)))) (1) ((((upd su (0) (((su (0)) + (xa)))) (1)) + (xb)))) (2)) + (xc)))) (3) ((((upd (upd (upd su (0) (((su (0)) + (xa)))) (1) ((((upd su (0) (((su (0)) + (xa)))) (1)) + (xb)))) (2) ((((upd (upd su (0) (((su (0)) + (xa)))) (1) ((((upd su (0) (((su (0)) + (xa)))) (1)) + (xb)))) (2)) + (xc)))) (3)) + (xd)))) (4) ((((upd (upd (upd (upd su (0) (((su (0)) + (xa)))) (1) ((((upd su (0) (((su (0)) + (xa)))) (1)) + (xb)))) (2) ((((upd (upd su (0) (((su (0)) + (xa)))) (1) ((((upd su (0) (((su (0)) + (xa)))) (1)) + (xb)))) (2)) + (xc)))) (3) ((((upd (upd (upd su (0) (((su (0)) + (xa)))) (1) ((((upd su (0) (((su (0)) + (xa)))) (1)) + (xb)))) (2) ((((upd (upd su (0) (((su (0)) + (xa)))) (1) ((((upd su (0) (((su (0)) + (xa)))) (1)) + (xb)))) (2)) + (xc)))) (3)) + (xd)))) (4)) + (xe)))) (5) ((((upd (upd (upd (upd (upd su (0) (((su (0)) + (xa)))) (1) ((((upd su (0) (((su (0)) + (xa)))) (1)) + (xb)))) (2) ((((upd (upd su (0) (((su (0)) + (xa)))) (1) ((((upd su (0) (((su (0)) + (xa)))) (1)) + (xb)))) (2)) + (xc)))) (3) ((((upd (upd (upd su (0) (((su (0)) + (xa)))) (1) ((((upd su (0) (((su (0)) + (xa)))) (1)) + (xb)))) (2) ((((upd (upd su (0) (((su (0)) + (xa)))) (1) ((((upd su (0) (((su (0)) + (xa)))) (1)) + (xb)))) (2)) + (xc)))) (3)) + (xd)))) (4) ((((upd (upd (upd (upd su (0) (((su (0)) + (xa)))) (1) ((((upd su (0) (((su (0)) + (xa)))) (1)) + (xb)))) (2) ((((upd (upd su (0) (((su (0)) + (xa)))) (1) ((((upd su (0) (((su (0)) + (xa)))) (1)) + (xb)))) (2)) + (xc)))) (3) ((((upd (upd (upd su (0) (((su (0)) + (xa)))) (1) ((((upd su (0) (((su (0)) + (xa)))) (1)) + (xb)))) (2) ((((upd (upd su (0) (((su (0)) + (xa)))) (1) ((((upd su (0) (((su (0)) + (xa)))) (1)) + (xb)))) (2)) + (xc)))) (3)) + (xd)))) (4)) + (xe)))) (5)) + (xf)))) (6)) + (xg)))) sc1 ro be tp bs sz lw mi) H := hP
        have hD : va_D A (wm r cI cJ hz tl lv mn vs cb hs (upd (upd (upd (upd (upd (upd (upd su (0) (((su (0)) + (xa)))) (1) ((((upd su (0) (((su (0)) + (xa)))) (1)) + (xb)))) (2) ((((upd (upd su (0) (((su (0)) + (xa)))) (1) ((((upd su (0) (((su (0)) + (xa)))) (1)) + (xb)))) (2)) + (xc)))) (3) ((((upd (upd (upd su (0) (((su (0)) + (xa)))) (1) ((((upd su (0) (((su (0)) + (xa)))) (1)) + (xb)))) (2) ((((upd (upd su (0) (((su (0)) + (xa)))) (1) ((((upd su (0) (((su (0)) + (xa)))) (1)) + (xb)))) (2)) + (xc)))) (3)) + (xd)))) (4) ((((upd (upd (upd (upd su (0) (((su (0)) + (xa)))) (1) ((((upd su (0) (((su (0)) + (xa)))) (1)) + (xb)))) (2) ((((upd (upd su (0) (((su (0)) + (xa)))) (1) ((((upd su (0) (((su (0)) + (xa)))) (1)) + (xb)))) (2)) + (xc)))) (3) ((((upd (upd (upd su (0) (((su (0)) + (xa)))) (1) ((((upd su (0) (((su (0)) + (xa)))) (1)) + (xb)))) (2) ((((upd (upd su (0) (((su (0)) + (xa)))) (1) ((((upd su (0) (((su (0)) + (xa)))) (1)) + (xb)))) (2)) + (xc)))) (3)) + (xd)))) (4)) + (xe)))) (5) ((((upd (upd (upd (upd (upd su (0) (((su (0)) + (xa)))) (1) ((((upd su (0) (((su (0)) + (xa)))) (1)) + (xb)))) (2) ((((upd (upd su (0) (((su (0)) + (xa)))) (1) ((((upd su (0) (((su (0)) + (xa)))) (1)) + (xb)))) (2)) + (xc)))) (3) ((((upd (upd (upd su (0) (((su (0)) + (xa)))) (1) ((((upd su (0) (((su (0)) + (xa)))) (1)) + (xb)))) (2) ((((upd (upd su (0) (((su (0)) + (xa)))) (1) ((((upd su (0) (((su (0)) + (xa)))) (1)) + (xb)))) (2)) + (xc)))) (3)) + (xd)))) (4) ((((upd (upd (upd (upd su (0) (((su (0)) + (xa)))) (1) ((((upd su (0) (((su (0)) + (xa)))) (1)) + (xb)))) (2) ((((upd (upd su (0) (((su (0)) + (xa)))) (1) ((((upd su (0) (((su (0)) + (xa)))) (1)) + (xb)))) (2)) + (xc)))) (3) ((((upd (upd (upd su (0) (((su (0)) + (xa)))) (1) ((((upd su (0) (((su (0)) + (xa)))) (1)) + (xb)))) (2) ((((upd (upd su (0) (((su (0)) + (xa)))) (1) ((((upd su (0) (((su (0)) + (xa)))) (1)) + (xb)))) (2)) + (xc)))) (3)) + (xd)))) (4)) + (xe)))) (5)) + (xf)))) (6) ((((upd (upd (upd (upd (upd (upd su (0) (((su (0)) + (xa)))) (1) ((((upd su (0) (((su (0)) + (xa)))) (1)) + (xb)))) (2) ((((upd (upd su (0) (((su (0)) + (xa)))) (1) ((((upd su (0) (((su (0)) + (xa)))) (1)) + (xb)))) (2)) + (xc)))) (3) ((((upd (upd (upd su (0) (((su (0)) + (xa)))) (1) ((((upd su (0) (((su (0)) + (xa)))) (1)) + (xb)))) (2) ((((upd (upd su (0) (((su (0)) + (xa)))) (1) ((((upd su (0) (((su (0)) + (xa)))) (1)) + (xb)))) (2)) + (xc)))) (3)) + (xd)))) (4) ((((upd (upd (upd (upd su (0) (((su (0)) + (xa)))) (1) ((((upd su (0) (((su (0)) + (xa)))) (1)) + (xb)))) (2) ((((upd (upd su (0) (((su (0)) + (xa)))) (1) ((((upd su (0) (((su (0)) + (xa)))) (1)) + (xb)))) (2)) + (xc)))) (3) ((((upd (upd (upd su (0) (((su (0)) + (xa)))) (1) ((((upd su (0) (((su (0)) + (xa)))) (1)) + (xb)))) (2) ((((upd (upd su (0) (((su (0)) + (xa)))) (1) ((((upd su (0) (((su (0)) + (xa)))) (1)) + (xb)))) (2)) + (xc)))) (3)) + (xd)))) (4)) + (xe)))) (5) ((((upd (upd (upd (upd (upd su (0) (((su (0)) + (xa)))) (1) ((((upd su (0) (((su (0)) + (xa)))) (1)) + (xb)))) (2) ((((upd (upd su (0) (((su (0)) + (xa)))) (1) ((((upd su (0) (((su (0)) + (xa)))) (1)) + (xb)))) (2)) + (xc)))) (3) ((((upd (upd (upd su (0) (((su (0)) + (xa)))) (1) ((((upd su (0) (((su (0)) + (xa)))) (1)) + (xb)))) (2) ((((upd (upd su (0) (((su (0)) + (xa)))) (1) ((((upd su (0) (((su (0)) + (xa)))) (1)) + (xb)))) (2)) + (xc)))) (3)) + (xd)))) (4) ((((upd (upd (upd (upd su (0) (((su (0)) + (xa)))) (1) ((((upd su (0) (((su (0)) + (xa)))) (1)) + (xb)))) (2) ((((upd (upd su (0) (((su (0)) + (xa)))) (1) ((((upd su (0) (((su (0)) + (xa)))) (1)) + (xb)))) (2)) + (xc)))) (3) ((((upd (upd (upd su (0) (((su (0)) + (xa)))) (1) ((((upd su (0) (((su (0)) + (xa)))) (1)) + (xb)))) (2) ((((upd (upd su (0) (((su (0)) + (xa)))) (1) ((((upd su (0) (((su (0)) + (xa)))) (1)) + (xb)))) (2)) + (xc)))) (3)) + (xd)))) (4)) + (xe)))) (5)) + (xf)))) (6)) + (xg)))) sc1 ro be tp bs sz lw mi) := hD
        refine lv_aload_n hx hb dX2_compress_490 rfl (lv_at hl 0 rfl) ?_
        refine va_get (D := D) (ci := 2) (v := .ref (r 2)) (C := RX2) (T := TX2) (N := 16) hx hb hts hin_2 hown hK hP 0 rfl rfl 2 (by decide) lk_33 (fun _ h9 => h9) rfl dX2_compress_491 ?_
        refine lv_bipush (v := ((7 : Int32))) hx hb dX2_compress_494 (by decide) ?_
        refine lv_aload_n hx hb dX2_compress_496 rfl (lv_at hl 0 rfl) ?_
        refine va_get (D := D) (ci := 2) (v := .ref (r 2)) (C := RX2) (T := TX2) (N := 16) hx hb hts hin_2 hown hK hP 0 rfl rfl 2 (by decide) lk_33 (fun _ h9 => h9) rfl dX2_compress_497 ?_
        refine lv_bipush (v := ((7 : Int32))) hx hb dX2_compress_500 (by decide) ?_
        refine kb_iald hx hb hK hP 2 0 rfl rfl (7) (rfl) (by decide) (by decide) dX2_compress_502 ?_
        refine lv_iload hx hb dX2_compress_503 (lv_at hl 8 rfl) ?_
        refine lv_iadd hx hb dX2_compress_505 ?_
        refine kb_iast hx hb hK hP hD hS 2 0 rfl rfl (7) (rfl) (by decide) (by decide) dX2_compress_506 (fun H locs hP hD hS => ?_)
        have hP : va_P D vwCl (wm r cI cJ hz tl lv mn vs cb hs (upd (upd (upd (upd (upd (upd (upd (upd su (0) (((su (0)) + (xa)))) (1) ((((upd su (0) (((su (0)) + (xa)))) (1)) + (xb)))) (2) ((((upd (upd su (0) (((su (0)) + (xa)))) (1) ((((upd su (0) (((su (0)) + (xa)))) (1)) + (xb)))) (2)) + (xc)))) (3) ((((upd (upd (upd su (0) (((su (0)) + (xa)))) (1) ((((upd su (0) (((su (0)) + (xa)))) (1)) + (xb)))) (2) ((((upd (upd su (0) (((su (0)) + (xa)))) (1) ((((upd su (0) (((su (0)) + (xa)))) (1)) + (xb)))) (2)) + (xc)))) (3)) + (xd)))) (4) ((((upd (upd (upd (upd su (0) (((su (0)) + (xa)))) (1) ((((upd su (0) (((su (0)) + (xa)))) (1)) + (xb)))) (2) ((((upd (upd su (0) (((su (0)) + (xa)))) (1) ((((upd su (0) (((su (0)) + (xa)))) (1)) + (xb)))) (2)) + (xc)))) (3) ((((upd (upd (upd su (0) (((su (0)) + (xa)))) (1) ((((upd su (0) (((su (0)) + (xa)))) (1)) + (xb)))) (2) ((((upd (upd su (0) (((su (0)) + (xa)))) (1) ((((upd su (0) (((su (0)) + (xa)))) (1)) + (xb)))) (2)) + (xc)))) (3)) + (xd)))) (4)) + (xe)))) (5) ((((upd (upd (upd (upd (upd su (0) (((su (0)) + (xa)))) (1) ((((upd su (0) (((su (0)) + (xa)))) (1)) + (xb)))) (2) ((((upd (upd su (0) (((su (0)) + (xa)))) (1) ((((upd su (0) (((su (0)) + (xa)))) (1)) + (xb)))) (2)) + (xc)))) (3) ((((upd (upd (upd su (0) (((su (0)) + (xa)))) (1) ((((upd su (0) (((su (0)) + (xa)))) (1)) + (xb)))) (2) ((((upd (upd su (0) (((su (0)) + (xa)))) (1) ((((upd su (0) (((su (0)) + (xa)))) (1)) + (xb)))) (2)) + (xc)))) (3)) + (xd)))) (4) ((((upd (upd (upd (upd su (0) (((su (0)) + (xa)))) (1) ((((upd su (0) (((su (0)) + (xa)))) (1)) + (xb)))) (2) ((((upd (upd su (0) (((su (0)) + (xa)))) (1) ((((upd su (0) (((su (0)) + (xa)))) (1)) + (xb)))) (2)) + (xc)))) (3) ((((upd (upd (upd su (0) (((su (0)) + (xa)))) (1) ((((upd su (0) (((su (0)) + (xa)))) (1)) + (xb)))) (2) ((((upd (upd su (0) (((su (0)) + (xa)))) (1) ((((upd su (0) (((su (0)) + (xa)))) (1)) + (xb)))) (2)) + (xc)))) (3)) + (xd)))) (4)) + (xe)))) (5)) + (xf)))) (6) ((((upd (upd (upd (upd (upd (upd su (0) (((su (0)) + (xa)))) (1) ((((upd su (0) (((su (0)) + (xa)))) (1)) + (xb)))) (2) ((((upd (upd su (0) (((su (0)) + (xa)))) (1) ((((upd su (0) (((su (0)) + (xa)))) (1)) + (xb)))) (2)) + (xc)))) (3) ((((upd (upd (upd su (0) (((su (0)) + (xa)))) (1) ((((upd su (0) (((su (0)) + (xa)))) (1)) + (xb)))) (2) ((((upd (upd su (0) (((su (0)) + (xa)))) (1) ((((upd su (0) (((su (0)) + (xa)))) (1)) + (xb)))) (2)) + (xc)))) (3)) + (xd)))) (4) ((((upd (upd (upd (upd su (0) (((su (0)) + (xa)))) (1) ((((upd su (0) (((su (0)) + (xa)))) (1)) + (xb)))) (2) ((((upd (upd su (0) (((su (0)) + (xa)))) (1) ((((upd su (0) (((su (0)) + (xa)))) (1)) + (xb)))) (2)) + (xc)))) (3) ((((upd (upd (upd su (0) (((su (0)) + (xa)))) (1) ((((upd su (0) (((su (0)) + (xa)))) (1)) + (xb)))) (2) ((((upd (upd su (0) (((su (0)) + (xa)))) (1) ((((upd su (0) (((su (0)) + (xa)))) (1)) + (xb)))) (2)) + (xc)))) (3)) + (xd)))) (4)) + (xe)))) (5) ((((upd (upd (upd (upd (upd su (0) (((su (0)) + (xa)))) (1) ((((upd su (0) (((su (0)) + (xa)))) (1)) + (xb)))) (2) ((((upd (upd su (0) (((su (0)) + (xa)))) (1) ((((upd su (0) (((su (0)) + (xa)))) (1)) + (xb)))) (2)) + (xc)))) (3) ((((upd (upd (upd su (0) (((su (0)) + (xa)))) (1) ((((upd su (0) (((su (0)) + (xa)))) (1)) + (xb)))) (2) ((((upd (upd su (0) (((su (0)) + (xa)))) (1) ((((upd su (0) (((su (0)) + (xa)))) (1)) + (xb)))) (2)) + (xc)))) (3)) + (xd)))) (4) ((((upd (upd (upd (upd su (0) (((su (0)) + (xa)))) (1) ((((upd su (0) (((su (0)) + (xa)))) (1)) + (xb)))) (2) ((((upd (upd su (0) (((su (0)) + (xa)))) (1) ((((upd su (0) (((su (0)) + (xa)))) (1)) + (xb)))) (2)) + (xc)))) (3) ((((upd (upd (upd su (0) (((su (0)) + (xa)))) (1) ((((upd su (0) (((su (0)) + (xa)))) (1)) + (xb)))) (2) ((((upd (upd su (0) (((su (0)) + (xa)))) (1) ((((upd su (0) (((su (0)) + (xa)))) (1)) + (xb)))) (2)) + (xc)))) (3)) + (xd)))) (4)) + (xe)))) (5)) + (xf)))) (6)) + (xg)))) (7) ((((upd (upd (upd (upd (upd (upd (upd su (0) (((su (0)) + (xa)))) (1) ((((upd su (0) (((su (0)) + (xa)))) (1)) + (xb)))) (2) ((((upd (upd su (0) (((su (0)) + (xa)))) (1) ((((upd su (0) (((su (0)) + (xa)))) (1)) + (xb)))) (2)) + (xc)))) (3) ((((upd (upd (upd su (0) (((su (0)) + (xa)))) (1) ((((upd su (0) (((su (0)) + (xa)))) (1)) + (xb)))) (2) ((((upd (upd su (0) (((su (0)) + (xa)))) (1) ((((upd su (0) (((su (0)) + (xa)))) (1)) + (xb)))) (2)) + (xc)))) (3)) + (xd)))) (4) ((((upd (upd (upd (upd su (0) (((su (0)) + (xa)))) (1) ((((upd su (0) (((su (0)) + (xa)))) (1)) + (xb)))) (2) ((((upd (upd su (0) (((su (0)) + (xa)))) (1) ((((upd su (0) (((su (0)) + (xa)))) (1)) + (xb)))) (2)) + (xc)))) (3) ((((upd (upd (upd su (0) (((su (0)) + (xa)))) (1) ((((upd su (0) (((su (0)) + (xa)))) (1)) + (xb)))) (2) ((((upd (upd su (0) (((su (0)) + (xa)))) (1) ((((upd su (0) (((su (0)) + (xa)))) (1)) + (xb)))) (2)) + (xc)))) (3)) + (xd)))) (4)) + (xe)))) (5) ((((upd (upd (upd (upd (upd su (0) (((su (0)) + (xa)))) (1) ((((upd su (0) (((su (0)) + (xa)))) (1)) + (xb)))) (2) ((((upd (upd su (0) (((su (0)) + (xa)))) (1) ((((upd su (0) (((su (0)) + (xa)))) (1)) + (xb)))) (2)) + (xc)))) (3) ((((upd (upd (upd su (0) (((su (0)) + (xa)))) (1) ((((upd su (0) (((su (0)) + (xa)))) (1)) + (xb)))) (2) ((((upd (upd su (0) (((su (0)) + (xa)))) (1) ((((upd su (0) (((su (0)) + (xa)))) (1)) + (xb)))) (2)) + (xc)))) (3)) + (xd)))) (4) ((((upd (upd (upd (upd su (0) (((su (0)) + (xa)))) (1) ((((upd su (0) (((su (0)) + (xa)))) (1)) + (xb)))) (2) ((((upd (upd su (0) (((su (0)) + (xa)))) (1) ((((upd su (0) (((su (0)) + (xa)))) (1)) + (xb)))) (2)) + (xc)))) (3) ((((upd (upd (upd su (0) (((su (0)) + (xa)))) (1) ((((upd su (0) (((su (0)) + (xa)))) (1)) + (xb)))) (2) ((((upd (upd su (0) (((su (0)) + (xa)))) (1) ((((upd su (0) (((su (0)) + (xa)))) (1)) + (xb)))) (2)) + (xc)))) (3)) + (xd)))) (4)) + (xe)))) (5)) + (xf)))) (6) ((((upd (upd (upd (upd (upd (upd su (0) (((su (0)) + (xa)))) (1) ((((upd su (0) (((su (0)) + (xa)))) (1)) + (xb)))) (2) ((((upd (upd su (0) (((su (0)) + (xa)))) (1) ((((upd su (0) (((su (0)) + (xa)))) (1)) + (xb)))) (2)) + (xc)))) (3) ((((upd (upd (upd su (0) (((su (0)) + (xa)))) (1) ((((upd su (0) (((su (0)) + (xa)))) (1)) + (xb)))) (2) ((((upd (upd su (0) (((su (0)) + (xa)))) (1) ((((upd su (0) (((su (0)) + (xa)))) (1)) + (xb)))) (2)) + (xc)))) (3)) + (xd)))) (4) ((((upd (upd (upd (upd su (0) (((su (0)) + (xa)))) (1) ((((upd su (0) (((su (0)) + (xa)))) (1)) + (xb)))) (2) ((((upd (upd su (0) (((su (0)) + (xa)))) (1) ((((upd su (0) (((su (0)) + (xa)))) (1)) + (xb)))) (2)) + (xc)))) (3) ((((upd (upd (upd su (0) (((su (0)) + (xa)))) (1) ((((upd su (0) (((su (0)) + (xa)))) (1)) + (xb)))) (2) ((((upd (upd su (0) (((su (0)) + (xa)))) (1) ((((upd su (0) (((su (0)) + (xa)))) (1)) + (xb)))) (2)) + (xc)))) (3)) + (xd)))) (4)) + (xe)))) (5) ((((upd (upd (upd (upd (upd su (0) (((su (0)) + (xa)))) (1) ((((upd su (0) (((su (0)) + (xa)))) (1)) + (xb)))) (2) ((((upd (upd su (0) (((su (0)) + (xa)))) (1) ((((upd su (0) (((su (0)) + (xa)))) (1)) + (xb)))) (2)) + (xc)))) (3) ((((upd (upd (upd su (0) (((su (0)) + (xa)))) (1) ((((upd su (0) (((su (0)) + (xa)))) (1)) + (xb)))) (2) ((((upd (upd su (0) (((su (0)) + (xa)))) (1) ((((upd su (0) (((su (0)) + (xa)))) (1)) + (xb)))) (2)) + (xc)))) (3)) + (xd)))) (4) ((((upd (upd (upd (upd su (0) (((su (0)) + (xa)))) (1) ((((upd su (0) (((su (0)) + (xa)))) (1)) + (xb)))) (2) ((((upd (upd su (0) (((su (0)) + (xa)))) (1) ((((upd su (0) (((su (0)) + (xa)))) (1)) + (xb)))) (2)) + (xc)))) (3) ((((upd (upd (upd su (0) (((su (0)) + (xa)))) (1) ((((upd su (0) (((su (0)) + (xa)))) (1)) + (xb)))) (2) ((((upd (upd su (0) (((su (0)) + (xa)))) (1) ((((upd su (0) (((su (0)) + (xa)))) (1)) + (xb)))) (2)) + (xc)))) (3)) + (xd)))) (4)) + (xe)))) (5)) + (xf)))) (6)) + (xg)))) (7)) + (xh)))) sc1 ro be tp bs sz lw mi) H := hP
        have hD : va_D A (wm r cI cJ hz tl lv mn vs cb hs (upd (upd (upd (upd (upd (upd (upd (upd su (0) (((su (0)) + (xa)))) (1) ((((upd su (0) (((su (0)) + (xa)))) (1)) + (xb)))) (2) ((((upd (upd su (0) (((su (0)) + (xa)))) (1) ((((upd su (0) (((su (0)) + (xa)))) (1)) + (xb)))) (2)) + (xc)))) (3) ((((upd (upd (upd su (0) (((su (0)) + (xa)))) (1) ((((upd su (0) (((su (0)) + (xa)))) (1)) + (xb)))) (2) ((((upd (upd su (0) (((su (0)) + (xa)))) (1) ((((upd su (0) (((su (0)) + (xa)))) (1)) + (xb)))) (2)) + (xc)))) (3)) + (xd)))) (4) ((((upd (upd (upd (upd su (0) (((su (0)) + (xa)))) (1) ((((upd su (0) (((su (0)) + (xa)))) (1)) + (xb)))) (2) ((((upd (upd su (0) (((su (0)) + (xa)))) (1) ((((upd su (0) (((su (0)) + (xa)))) (1)) + (xb)))) (2)) + (xc)))) (3) ((((upd (upd (upd su (0) (((su (0)) + (xa)))) (1) ((((upd su (0) (((su (0)) + (xa)))) (1)) + (xb)))) (2) ((((upd (upd su (0) (((su (0)) + (xa)))) (1) ((((upd su (0) (((su (0)) + (xa)))) (1)) + (xb)))) (2)) + (xc)))) (3)) + (xd)))) (4)) + (xe)))) (5) ((((upd (upd (upd (upd (upd su (0) (((su (0)) + (xa)))) (1) ((((upd su (0) (((su (0)) + (xa)))) (1)) + (xb)))) (2) ((((upd (upd su (0) (((su (0)) + (xa)))) (1) ((((upd su (0) (((su (0)) + (xa)))) (1)) + (xb)))) (2)) + (xc)))) (3) ((((upd (upd (upd su (0) (((su (0)) + (xa)))) (1) ((((upd su (0) (((su (0)) + (xa)))) (1)) + (xb)))) (2) ((((upd (upd su (0) (((su (0)) + (xa)))) (1) ((((upd su (0) (((su (0)) + (xa)))) (1)) + (xb)))) (2)) + (xc)))) (3)) + (xd)))) (4) ((((upd (upd (upd (upd su (0) (((su (0)) + (xa)))) (1) ((((upd su (0) (((su (0)) + (xa)))) (1)) + (xb)))) (2) ((((upd (upd su (0) (((su (0)) + (xa)))) (1) ((((upd su (0) (((su (0)) + (xa)))) (1)) + (xb)))) (2)) + (xc)))) (3) ((((upd (upd (upd su (0) (((su (0)) + (xa)))) (1) ((((upd su (0) (((su (0)) + (xa)))) (1)) + (xb)))) (2) ((((upd (upd su (0) (((su (0)) + (xa)))) (1) ((((upd su (0) (((su (0)) + (xa)))) (1)) + (xb)))) (2)) + (xc)))) (3)) + (xd)))) (4)) + (xe)))) (5)) + (xf)))) (6) ((((upd (upd (upd (upd (upd (upd su (0) (((su (0)) + (xa)))) (1) ((((upd su (0) (((su (0)) + (xa)))) (1)) + (xb)))) (2) ((((upd (upd su (0) (((su (0)) + (xa)))) (1) ((((upd su (0) (((su (0)) + (xa)))) (1)) + (xb)))) (2)) + (xc)))) (3) ((((upd (upd (upd su (0) (((su (0)) + (xa)))) (1) ((((upd su (0) (((su (0)) + (xa)))) (1)) + (xb)))) (2) ((((upd (upd su (0) (((su (0)) + (xa)))) (1) ((((upd su (0) (((su (0)) + (xa)))) (1)) + (xb)))) (2)) + (xc)))) (3)) + (xd)))) (4) ((((upd (upd (upd (upd su (0) (((su (0)) + (xa)))) (1) ((((upd su (0) (((su (0)) + (xa)))) (1)) + (xb)))) (2) ((((upd (upd su (0) (((su (0)) + (xa)))) (1) ((((upd su (0) (((su (0)) + (xa)))) (1)) + (xb)))) (2)) + (xc)))) (3) ((((upd (upd (upd su (0) (((su (0)) + (xa)))) (1) ((((upd su (0) (((su (0)) + (xa)))) (1)) + (xb)))) (2) ((((upd (upd su (0) (((su (0)) + (xa)))) (1) ((((upd su (0) (((su (0)) + (xa)))) (1)) + (xb)))) (2)) + (xc)))) (3)) + (xd)))) (4)) + (xe)))) (5) ((((upd (upd (upd (upd (upd su (0) (((su (0)) + (xa)))) (1) ((((upd su (0) (((su (0)) + (xa)))) (1)) + (xb)))) (2) ((((upd (upd su (0) (((su (0)) + (xa)))) (1) ((((upd su (0) (((su (0)) + (xa)))) (1)) + (xb)))) (2)) + (xc)))) (3) ((((upd (upd (upd su (0) (((su (0)) + (xa)))) (1) ((((upd su (0) (((su (0)) + (xa)))) (1)) + (xb)))) (2) ((((upd (upd su (0) (((su (0)) + (xa)))) (1) ((((upd su (0) (((su (0)) + (xa)))) (1)) + (xb)))) (2)) + (xc)))) (3)) + (xd)))) (4) ((((upd (upd (upd (upd su (0) (((su (0)) + (xa)))) (1) ((((upd su (0) (((su (0)) + (xa)))) (1)) + (xb)))) (2) ((((upd (upd su (0) (((su (0)) + (xa)))) (1) ((((upd su (0) (((su (0)) + (xa)))) (1)) + (xb)))) (2)) + (xc)))) (3) ((((upd (upd (upd su (0) (((su (0)) + (xa)))) (1) ((((upd su (0) (((su (0)) + (xa)))) (1)) + (xb)))) (2) ((((upd (upd su (0) (((su (0)) + (xa)))) (1) ((((upd su (0) (((su (0)) + (xa)))) (1)) + (xb)))) (2)) + (xc)))) (3)) + (xd)))) (4)) + (xe)))) (5)) + (xf)))) (6)) + (xg)))) (7) ((((upd (upd (upd (upd (upd (upd (upd su (0) (((su (0)) + (xa)))) (1) ((((upd su (0) (((su (0)) + (xa)))) (1)) + (xb)))) (2) ((((upd (upd su (0) (((su (0)) + (xa)))) (1) ((((upd su (0) (((su (0)) + (xa)))) (1)) + (xb)))) (2)) + (xc)))) (3) ((((upd (upd (upd su (0) (((su (0)) + (xa)))) (1) ((((upd su (0) (((su (0)) + (xa)))) (1)) + (xb)))) (2) ((((upd (upd su (0) (((su (0)) + (xa)))) (1) ((((upd su (0) (((su (0)) + (xa)))) (1)) + (xb)))) (2)) + (xc)))) (3)) + (xd)))) (4) ((((upd (upd (upd (upd su (0) (((su (0)) + (xa)))) (1) ((((upd su (0) (((su (0)) + (xa)))) (1)) + (xb)))) (2) ((((upd (upd su (0) (((su (0)) + (xa)))) (1) ((((upd su (0) (((su (0)) + (xa)))) (1)) + (xb)))) (2)) + (xc)))) (3) ((((upd (upd (upd su (0) (((su (0)) + (xa)))) (1) ((((upd su (0) (((su (0)) + (xa)))) (1)) + (xb)))) (2) ((((upd (upd su (0) (((su (0)) + (xa)))) (1) ((((upd su (0) (((su (0)) + (xa)))) (1)) + (xb)))) (2)) + (xc)))) (3)) + (xd)))) (4)) + (xe)))) (5) ((((upd (upd (upd (upd (upd su (0) (((su (0)) + (xa)))) (1) ((((upd su (0) (((su (0)) + (xa)))) (1)) + (xb)))) (2) ((((upd (upd su (0) (((su (0)) + (xa)))) (1) ((((upd su (0) (((su (0)) + (xa)))) (1)) + (xb)))) (2)) + (xc)))) (3) ((((upd (upd (upd su (0) (((su (0)) + (xa)))) (1) ((((upd su (0) (((su (0)) + (xa)))) (1)) + (xb)))) (2) ((((upd (upd su (0) (((su (0)) + (xa)))) (1) ((((upd su (0) (((su (0)) + (xa)))) (1)) + (xb)))) (2)) + (xc)))) (3)) + (xd)))) (4) ((((upd (upd (upd (upd su (0) (((su (0)) + (xa)))) (1) ((((upd su (0) (((su (0)) + (xa)))) (1)) + (xb)))) (2) ((((upd (upd su (0) (((su (0)) + (xa)))) (1) ((((upd su (0) (((su (0)) + (xa)))) (1)) + (xb)))) (2)) + (xc)))) (3) ((((upd (upd (upd su (0) (((su (0)) + (xa)))) (1) ((((upd su (0) (((su (0)) + (xa)))) (1)) + (xb)))) (2) ((((upd (upd su (0) (((su (0)) + (xa)))) (1) ((((upd su (0) (((su (0)) + (xa)))) (1)) + (xb)))) (2)) + (xc)))) (3)) + (xd)))) (4)) + (xe)))) (5)) + (xf)))) (6) ((((upd (upd (upd (upd (upd (upd su (0) (((su (0)) + (xa)))) (1) ((((upd su (0) (((su (0)) + (xa)))) (1)) + (xb)))) (2) ((((upd (upd su (0) (((su (0)) + (xa)))) (1) ((((upd su (0) (((su (0)) + (xa)))) (1)) + (xb)))) (2)) + (xc)))) (3) ((((upd (upd (upd su (0) (((su (0)) + (xa)))) (1) ((((upd su (0) (((su (0)) + (xa)))) (1)) + (xb)))) (2) ((((upd (upd su (0) (((su (0)) + (xa)))) (1) ((((upd su (0) (((su (0)) + (xa)))) (1)) + (xb)))) (2)) + (xc)))) (3)) + (xd)))) (4) ((((upd (upd (upd (upd su (0) (((su (0)) + (xa)))) (1) ((((upd su (0) (((su (0)) + (xa)))) (1)) + (xb)))) (2) ((((upd (upd su (0) (((su (0)) + (xa)))) (1) ((((upd su (0) (((su (0)) + (xa)))) (1)) + (xb)))) (2)) + (xc)))) (3) ((((upd (upd (upd su (0) (((su (0)) + (xa)))) (1) ((((upd su (0) (((su (0)) + (xa)))) (1)) + (xb)))) (2) ((((upd (upd su (0) (((su (0)) + (xa)))) (1) ((((upd su (0) (((su (0)) + (xa)))) (1)) + (xb)))) (2)) + (xc)))) (3)) + (xd)))) (4)) + (xe)))) (5) ((((upd (upd (upd (upd (upd su (0) (((su (0)) + (xa)))) (1) ((((upd su (0) (((su (0)) + (xa)))) (1)) + (xb)))) (2) ((((upd (upd su (0) (((su (0)) + (xa)))) (1) ((((upd su (0) (((su (0)) + (xa)))) (1)) + (xb)))) (2)) + (xc)))) (3) ((((upd (upd (upd su (0) (((su (0)) + (xa)))) (1) ((((upd su (0) (((su (0)) + (xa)))) (1)) + (xb)))) (2) ((((upd (upd su (0) (((su (0)) + (xa)))) (1) ((((upd su (0) (((su (0)) + (xa)))) (1)) + (xb)))) (2)) + (xc)))) (3)) + (xd)))) (4) ((((upd (upd (upd (upd su (0) (((su (0)) + (xa)))) (1) ((((upd su (0) (((su (0)) + (xa)))) (1)) + (xb)))) (2) ((((upd (upd su (0) (((su (0)) + (xa)))) (1) ((((upd su (0) (((su (0)) + (xa)))) (1)) + (xb)))) (2)) + (xc)))) (3) ((((upd (upd (upd su (0) (((su (0)) + (xa)))) (1) ((((upd su (0) (((su (0)) + (xa)))) (1)) + (xb)))) (2) ((((upd (upd su (0) (((su (0)) + (xa)))) (1) ((((upd su (0) (((su (0)) + (xa)))) (1)) + (xb)))) (2)) + (xc)))) (3)) + (xd)))) (4)) + (xe)))) (5)) + (xf)))) (6)) + (xg)))) (7)) + (xh)))) sc1 ro be tp bs sz lw mi) := hD
        exact kr_v ((_, sc1)) hx hb hr hlocks hK hP hD hS (fun j hj => (mx_end hI_0 j hj).trans (mx_congr (fun _ _ => rfl) hsc j hj)) dX2_compress_507
      · have c_249 : i < 64 := kn_nle c_249 (by omega) (by omega)
        have hlt : i < 64 := c_249
        refine lv_iload hx hb dX2_compress_252 (lv_at hl 8 rfl) ?_
        refine lv_iload hx hb dX2_compress_254 (lv_at hl 5 rfl) ?_
        refine lv_bipush (v := ((6 : Int32))) hx hb dX2_compress_256 (by decide) ?_
        refine kcs_i (As := [.int xe, .int ((6 : Int32))]) (rest := [.int xh]) ⟨hx, hb, hml, hown, hts⟩ (m_turn l D A r cI cJ (wm r cI cJ hz tl lv mn vs cb hs su sc1 ro be tp bs sz lw mi) ((xe)) (((6 : Int32)))) (cwS 2 hts (gMS (List.mem_of_getElem? (i := 54) rfl) (List.mem_of_getElem? (i := 55) rfl) (List.mem_of_getElem? (i := 0) rfl) (List.mem_of_getElem? (i := 56) rfl)) rfl rfl rfl (by decide +kernel) ⟨Nat.le_of_ble_eq_true rfl, Nat.le_of_ble_eq_true rfl⟩) hK hP hD hS hZ rfl hl.1 rfl (Nat.le_of_ble_eq_true rfl) ⟨Nat.zero_le _, Nat.zero_le _⟩ dX2_compress_258 (fun r_1 _ H locs hw hP hD hS => ?_)
        have hw : r_1 = (tn (xe) ((6 : Int32))) := hw
        subst hw
        have hP : va_P D vwCl (wm r cI cJ hz tl lv mn vs cb hs su sc1 ro be tp bs sz lw mi) H := hP
        have hD : va_D A (wm r cI cJ hz tl lv mn vs cb hs su sc1 ro be tp bs sz lw mi) := hD
        refine lv_iload hx hb dX2_compress_261 (lv_at hl 5 rfl) ?_
        refine lv_bipush (v := ((11 : Int32))) hx hb dX2_compress_263 (by decide) ?_
        refine kcs_i (As := [.int xe, .int ((11 : Int32))]) (rest := [.int (tn (xe) ((6 : Int32))), .int xh]) ⟨hx, hb, hml, hown, hts⟩ (m_turn l D A r cI cJ (wm r cI cJ hz tl lv mn vs cb hs su sc1 ro be tp bs sz lw mi) ((xe)) (((11 : Int32)))) (cwS 2 hts (gMS (List.mem_of_getElem? (i := 54) rfl) (List.mem_of_getElem? (i := 55) rfl) (List.mem_of_getElem? (i := 0) rfl) (List.mem_of_getElem? (i := 56) rfl)) rfl rfl rfl (by decide +kernel) ⟨Nat.le_of_ble_eq_true rfl, Nat.le_of_ble_eq_true rfl⟩) hK hP hD hS hZ rfl hl.1 rfl (Nat.le_of_ble_eq_true rfl) ⟨Nat.zero_le _, Nat.zero_le _⟩ dX2_compress_265 (fun r_2 _ H locs hw hP hD hS => ?_)
        have hw : r_2 = (tn (xe) ((11 : Int32))) := hw
        subst hw
        have hP : va_P D vwCl (wm r cI cJ hz tl lv mn vs cb hs su sc1 ro be tp bs sz lw mi) H := hP
        have hD : va_D A (wm r cI cJ hz tl lv mn vs cb hs su sc1 ro be tp bs sz lw mi) := hD
        refine lv_ixor hx hb dX2_compress_268 ?_
        refine lv_iload hx hb dX2_compress_269 (lv_at hl 5 rfl) ?_
        refine lv_bipush (v := ((25 : Int32))) hx hb dX2_compress_271 (by decide) ?_
        refine kcs_i (As := [.int xe, .int ((25 : Int32))]) (rest := [.int ((tn (xe) ((6 : Int32))) ^^^ (tn (xe) ((11 : Int32)))), .int xh]) ⟨hx, hb, hml, hown, hts⟩ (m_turn l D A r cI cJ (wm r cI cJ hz tl lv mn vs cb hs su sc1 ro be tp bs sz lw mi) ((xe)) (((25 : Int32)))) (cwS 2 hts (gMS (List.mem_of_getElem? (i := 54) rfl) (List.mem_of_getElem? (i := 55) rfl) (List.mem_of_getElem? (i := 0) rfl) (List.mem_of_getElem? (i := 56) rfl)) rfl rfl rfl (by decide +kernel) ⟨Nat.le_of_ble_eq_true rfl, Nat.le_of_ble_eq_true rfl⟩) hK hP hD hS hZ rfl hl.1 rfl (Nat.le_of_ble_eq_true rfl) ⟨Nat.zero_le _, Nat.zero_le _⟩ dX2_compress_273 (fun r_3 _ H locs hw hP hD hS => ?_)
        have hw : r_3 = (tn (xe) ((25 : Int32))) := hw
        subst hw
        have hP : va_P D vwCl (wm r cI cJ hz tl lv mn vs cb hs su sc1 ro be tp bs sz lw mi) H := hP
        have hD : va_D A (wm r cI cJ hz tl lv mn vs cb hs su sc1 ro be tp bs sz lw mi) := hD
        refine lv_ixor hx hb dX2_compress_276 ?_
        refine lv_iadd hx hb dX2_compress_277 ?_
        refine lv_iload hx hb dX2_compress_278 (lv_at hl 5 rfl) ?_
        refine lv_iload hx hb dX2_compress_280 (lv_at hl 6 rfl) ?_
        refine lv_iand hx hb dX2_compress_282 ?_
        refine lv_iload hx hb dX2_compress_283 (lv_at hl 5 rfl) ?_
        refine lv_iconst (v := ((-1 : Int32))) hx hb dX2_compress_285 (by decide) ?_
        refine lv_ixor hx hb dX2_compress_286 ?_
        refine lv_iload hx hb dX2_compress_287 (lv_at hl 7 rfl) ?_
        refine lv_iand hx hb dX2_compress_289 ?_
        refine lv_ixor hx hb dX2_compress_290 ?_
        refine lv_iadd hx hb dX2_compress_291 ?_
        refine lv_aload_n hx hb dX2_compress_292 rfl (lv_at hl 0 rfl) ?_
        refine va_get (D := D) (ci := 2) (v := .ref (r 4)) (C := RX2) (T := TX2) (N := 16) hx hb hts hin_2 hown hK hP 0 rfl rfl 4 (by decide) lk_11 (fun _ h9 => h9) rfl dX2_compress_293 ?_
        refine lv_iload hx hb dX2_compress_296 (lv_at hl 9 rfl) ?_
        refine kb_iald hx hb hK hP 4 0 rfl rfl (i) (rfl) (by omega) (by decide) dX2_compress_298 ?_
        refine lv_iadd hx hb dX2_compress_299 ?_
        refine lv_aload_n hx hb dX2_compress_300 rfl (lv_at hl 0 rfl) ?_
        refine va_get (D := D) (ci := 2) (v := .ref (r 3)) (C := RX2) (T := TX2) (N := 16) hx hb hts hin_2 hown hK hP 0 rfl rfl 3 (by decide) lk_39 (fun _ h9 => h9) rfl dX2_compress_301 ?_
        refine lv_iload hx hb dX2_compress_304 (lv_at hl 9 rfl) ?_
        refine kb_iald hx hb hK hP 3 0 rfl rfl (i) (rfl) (by omega) (by decide) dX2_compress_306 ?_
        refine lv_iadd hx hb dX2_compress_307 ?_
        refine lv_istore (lv' := [(11, .int (((((xh) + (((tn (xe) ((6 : Int32))) ^^^ (tn (xe) ((11 : Int32)))) ^^^ (tn (xe) ((25 : Int32))))) + (((xe) &&& (xf)) ^^^ (((xe) ^^^ ((-1 : Int32))) &&& (xg)))) + (ro (i))) + (sc1 (i)))), (0, .ref (r 0)), (2, .int xa), (3, .int xb), (4, .int xc), (5, .int xd), (6, .int xe), (7, .int xf), (8, .int xg), (9, .int xh), (10, .int (nI i))]) hx hb dX2_compress_308 hl (by decide) rfl (fun ls hl => ?_)
        refine lv_iload_n hx hb dX2_compress_310 rfl (lv_at hl 2 rfl) ?_
        refine lv_iconst (v := ((2 : Int32))) hx hb dX2_compress_311 (by decide) ?_
        refine kcs_i (As := [.int xa, .int ((2 : Int32))]) (rest := []) ⟨hx, hb, hml, hown, hts⟩ (m_turn l D A r cI cJ (wm r cI cJ hz tl lv mn vs cb hs su sc1 ro be tp bs sz lw mi) ((xa)) (((2 : Int32)))) (cwS 2 hts (gMS (List.mem_of_getElem? (i := 54) rfl) (List.mem_of_getElem? (i := 55) rfl) (List.mem_of_getElem? (i := 0) rfl) (List.mem_of_getElem? (i := 56) rfl)) rfl rfl rfl (by decide +kernel) ⟨Nat.le_of_ble_eq_true rfl, Nat.le_of_ble_eq_true rfl⟩) hK hP hD hS hZ rfl hl.1 rfl (Nat.le_of_ble_eq_true rfl) ⟨Nat.zero_le _, Nat.zero_le _⟩ dX2_compress_312 (fun r_4 _ H locs hw hP hD hS => ?_)
        have hw : r_4 = (tn (xa) ((2 : Int32))) := hw
        subst hw
        have hP : va_P D vwCl (wm r cI cJ hz tl lv mn vs cb hs su sc1 ro be tp bs sz lw mi) H := hP
        have hD : va_D A (wm r cI cJ hz tl lv mn vs cb hs su sc1 ro be tp bs sz lw mi) := hD
        refine lv_iload_n hx hb dX2_compress_315 rfl (lv_at hl 2 rfl) ?_
        refine lv_bipush (v := ((13 : Int32))) hx hb dX2_compress_316 (by decide) ?_
        refine kcs_i (As := [.int xa, .int ((13 : Int32))]) (rest := [.int (tn (xa) ((2 : Int32)))]) ⟨hx, hb, hml, hown, hts⟩ (m_turn l D A r cI cJ (wm r cI cJ hz tl lv mn vs cb hs su sc1 ro be tp bs sz lw mi) ((xa)) (((13 : Int32)))) (cwS 2 hts (gMS (List.mem_of_getElem? (i := 54) rfl) (List.mem_of_getElem? (i := 55) rfl) (List.mem_of_getElem? (i := 0) rfl) (List.mem_of_getElem? (i := 56) rfl)) rfl rfl rfl (by decide +kernel) ⟨Nat.le_of_ble_eq_true rfl, Nat.le_of_ble_eq_true rfl⟩) hK hP hD hS hZ rfl hl.1 rfl (Nat.le_of_ble_eq_true rfl) ⟨Nat.zero_le _, Nat.zero_le _⟩ dX2_compress_318 (fun r_5 _ H locs hw hP hD hS => ?_)
        have hw : r_5 = (tn (xa) ((13 : Int32))) := hw
        subst hw
        have hP : va_P D vwCl (wm r cI cJ hz tl lv mn vs cb hs su sc1 ro be tp bs sz lw mi) H := hP
        have hD : va_D A (wm r cI cJ hz tl lv mn vs cb hs su sc1 ro be tp bs sz lw mi) := hD
        refine lv_ixor hx hb dX2_compress_321 ?_
        refine lv_iload_n hx hb dX2_compress_322 rfl (lv_at hl 2 rfl) ?_
        refine lv_bipush (v := ((22 : Int32))) hx hb dX2_compress_323 (by decide) ?_
        refine kcs_i (As := [.int xa, .int ((22 : Int32))]) (rest := [.int ((tn (xa) ((2 : Int32))) ^^^ (tn (xa) ((13 : Int32))))]) ⟨hx, hb, hml, hown, hts⟩ (m_turn l D A r cI cJ (wm r cI cJ hz tl lv mn vs cb hs su sc1 ro be tp bs sz lw mi) ((xa)) (((22 : Int32)))) (cwS 2 hts (gMS (List.mem_of_getElem? (i := 54) rfl) (List.mem_of_getElem? (i := 55) rfl) (List.mem_of_getElem? (i := 0) rfl) (List.mem_of_getElem? (i := 56) rfl)) rfl rfl rfl (by decide +kernel) ⟨Nat.le_of_ble_eq_true rfl, Nat.le_of_ble_eq_true rfl⟩) hK hP hD hS hZ rfl hl.1 rfl (Nat.le_of_ble_eq_true rfl) ⟨Nat.zero_le _, Nat.zero_le _⟩ dX2_compress_325 (fun r_6 _ H locs hw hP hD hS => ?_)
        have hw : r_6 = (tn (xa) ((22 : Int32))) := hw
        subst hw
        have hP : va_P D vwCl (wm r cI cJ hz tl lv mn vs cb hs su sc1 ro be tp bs sz lw mi) H := hP
        have hD : va_D A (wm r cI cJ hz tl lv mn vs cb hs su sc1 ro be tp bs sz lw mi) := hD
        refine lv_ixor hx hb dX2_compress_328 ?_
        refine lv_iload_n hx hb dX2_compress_329 rfl (lv_at hl 2 rfl) ?_
        refine lv_iload_n hx hb dX2_compress_330 rfl (lv_at hl 3 rfl) ?_
        refine lv_iand hx hb dX2_compress_331 ?_
        refine lv_iload_n hx hb dX2_compress_332 rfl (lv_at hl 2 rfl) ?_
        refine lv_iload hx hb dX2_compress_333 (lv_at hl 4 rfl) ?_
        refine lv_iand hx hb dX2_compress_335 ?_
        refine lv_ixor hx hb dX2_compress_336 ?_
        refine lv_iload_n hx hb dX2_compress_337 rfl (lv_at hl 3 rfl) ?_
        refine lv_iload hx hb dX2_compress_338 (lv_at hl 4 rfl) ?_
        refine lv_iand hx hb dX2_compress_340 ?_
        refine lv_ixor hx hb dX2_compress_341 ?_
        refine lv_iadd hx hb dX2_compress_342 ?_
        refine lv_istore (lv' := [(12, .int ((((tn (xa) ((2 : Int32))) ^^^ (tn (xa) ((13 : Int32)))) ^^^ (tn (xa) ((22 : Int32)))) + ((((xa) &&& (xb)) ^^^ ((xa) &&& (xc))) ^^^ ((xb) &&& (xc))))), (11, .int (((((xh) + (((tn (xe) ((6 : Int32))) ^^^ (tn (xe) ((11 : Int32)))) ^^^ (tn (xe) ((25 : Int32))))) + (((xe) &&& (xf)) ^^^ (((xe) ^^^ ((-1 : Int32))) &&& (xg)))) + (ro (i))) + (sc1 (i)))), (0, .ref (r 0)), (2, .int xa), (3, .int xb), (4, .int xc), (5, .int xd), (6, .int xe), (7, .int xf), (8, .int xg), (9, .int xh), (10, .int (nI i))]) hx hb dX2_compress_343 hl (by decide) rfl (fun ls hl => ?_)
        refine lv_iload hx hb dX2_compress_345 (lv_at hl 9 rfl) ?_
        refine lv_istore (lv' := [(9, .int xg), (12, .int ((((tn (xa) ((2 : Int32))) ^^^ (tn (xa) ((13 : Int32)))) ^^^ (tn (xa) ((22 : Int32)))) + ((((xa) &&& (xb)) ^^^ ((xa) &&& (xc))) ^^^ ((xb) &&& (xc))))), (11, .int (((((xh) + (((tn (xe) ((6 : Int32))) ^^^ (tn (xe) ((11 : Int32)))) ^^^ (tn (xe) ((25 : Int32))))) + (((xe) &&& (xf)) ^^^ (((xe) ^^^ ((-1 : Int32))) &&& (xg)))) + (ro (i))) + (sc1 (i)))), (0, .ref (r 0)), (2, .int xa), (3, .int xb), (4, .int xc), (5, .int xd), (6, .int xe), (7, .int xf), (8, .int xg), (10, .int (nI i))]) hx hb dX2_compress_347 hl (by decide) rfl (fun ls hl => ?_)
        refine lv_iload hx hb dX2_compress_349 (lv_at hl 9 rfl) ?_
        refine lv_istore (lv' := [(8, .int xf), (9, .int xg), (12, .int ((((tn (xa) ((2 : Int32))) ^^^ (tn (xa) ((13 : Int32)))) ^^^ (tn (xa) ((22 : Int32)))) + ((((xa) &&& (xb)) ^^^ ((xa) &&& (xc))) ^^^ ((xb) &&& (xc))))), (11, .int (((((xh) + (((tn (xe) ((6 : Int32))) ^^^ (tn (xe) ((11 : Int32)))) ^^^ (tn (xe) ((25 : Int32))))) + (((xe) &&& (xf)) ^^^ (((xe) ^^^ ((-1 : Int32))) &&& (xg)))) + (ro (i))) + (sc1 (i)))), (0, .ref (r 0)), (2, .int xa), (3, .int xb), (4, .int xc), (5, .int xd), (6, .int xe), (7, .int xf), (10, .int (nI i))]) hx hb dX2_compress_351 hl (by decide) rfl (fun ls hl => ?_)
        refine lv_iload hx hb dX2_compress_353 (lv_at hl 9 rfl) ?_
        refine lv_istore (lv' := [(7, .int xe), (8, .int xf), (9, .int xg), (12, .int ((((tn (xa) ((2 : Int32))) ^^^ (tn (xa) ((13 : Int32)))) ^^^ (tn (xa) ((22 : Int32)))) + ((((xa) &&& (xb)) ^^^ ((xa) &&& (xc))) ^^^ ((xb) &&& (xc))))), (11, .int (((((xh) + (((tn (xe) ((6 : Int32))) ^^^ (tn (xe) ((11 : Int32)))) ^^^ (tn (xe) ((25 : Int32))))) + (((xe) &&& (xf)) ^^^ (((xe) ^^^ ((-1 : Int32))) &&& (xg)))) + (ro (i))) + (sc1 (i)))), (0, .ref (r 0)), (2, .int xa), (3, .int xb), (4, .int xc), (5, .int xd), (6, .int xe), (10, .int (nI i))]) hx hb dX2_compress_355 hl (by decide) rfl (fun ls hl => ?_)
        refine lv_iload hx hb dX2_compress_357 (lv_at hl 9 rfl) ?_
        refine lv_iload hx hb dX2_compress_359 (lv_at hl 4 rfl) ?_
        refine lv_iadd hx hb dX2_compress_361 ?_
        refine lv_istore (lv' := [(6, .int ((xd) + (((((xh) + (((tn (xe) ((6 : Int32))) ^^^ (tn (xe) ((11 : Int32)))) ^^^ (tn (xe) ((25 : Int32))))) + (((xe) &&& (xf)) ^^^ (((xe) ^^^ ((-1 : Int32))) &&& (xg)))) + (ro (i))) + (sc1 (i))))), (7, .int xe), (8, .int xf), (9, .int xg), (12, .int ((((tn (xa) ((2 : Int32))) ^^^ (tn (xa) ((13 : Int32)))) ^^^ (tn (xa) ((22 : Int32)))) + ((((xa) &&& (xb)) ^^^ ((xa) &&& (xc))) ^^^ ((xb) &&& (xc))))), (11, .int (((((xh) + (((tn (xe) ((6 : Int32))) ^^^ (tn (xe) ((11 : Int32)))) ^^^ (tn (xe) ((25 : Int32))))) + (((xe) &&& (xf)) ^^^ (((xe) ^^^ ((-1 : Int32))) &&& (xg)))) + (ro (i))) + (sc1 (i)))), (0, .ref (r 0)), (2, .int xa), (3, .int xb), (4, .int xc), (5, .int xd), (10, .int (nI i))]) hx hb dX2_compress_362 hl (by decide) rfl (fun ls hl => ?_)
        refine lv_iload hx hb dX2_compress_364 (lv_at hl 9 rfl) ?_
        refine lv_istore (lv' := [(5, .int xc), (6, .int ((xd) + (((((xh) + (((tn (xe) ((6 : Int32))) ^^^ (tn (xe) ((11 : Int32)))) ^^^ (tn (xe) ((25 : Int32))))) + (((xe) &&& (xf)) ^^^ (((xe) ^^^ ((-1 : Int32))) &&& (xg)))) + (ro (i))) + (sc1 (i))))), (7, .int xe), (8, .int xf), (9, .int xg), (12, .int ((((tn (xa) ((2 : Int32))) ^^^ (tn (xa) ((13 : Int32)))) ^^^ (tn (xa) ((22 : Int32)))) + ((((xa) &&& (xb)) ^^^ ((xa) &&& (xc))) ^^^ ((xb) &&& (xc))))), (11, .int (((((xh) + (((tn (xe) ((6 : Int32))) ^^^ (tn (xe) ((11 : Int32)))) ^^^ (tn (xe) ((25 : Int32))))) + (((xe) &&& (xf)) ^^^ (((xe) ^^^ ((-1 : Int32))) &&& (xg)))) + (ro (i))) + (sc1 (i)))), (0, .ref (r 0)), (2, .int xa), (3, .int xb), (4, .int xc), (10, .int (nI i))]) hx hb dX2_compress_366 hl (by decide) rfl (fun ls hl => ?_)
        refine lv_iload_n hx hb dX2_compress_368 rfl (lv_at hl 9 rfl) ?_
        refine lv_istore (lv' := [(4, .int xb), (5, .int xc), (6, .int ((xd) + (((((xh) + (((tn (xe) ((6 : Int32))) ^^^ (tn (xe) ((11 : Int32)))) ^^^ (tn (xe) ((25 : Int32))))) + (((xe) &&& (xf)) ^^^ (((xe) ^^^ ((-1 : Int32))) &&& (xg)))) + (ro (i))) + (sc1 (i))))), (7, .int xe), (8, .int xf), (9, .int xg), (12, .int ((((tn (xa) ((2 : Int32))) ^^^ (tn (xa) ((13 : Int32)))) ^^^ (tn (xa) ((22 : Int32)))) + ((((xa) &&& (xb)) ^^^ ((xa) &&& (xc))) ^^^ ((xb) &&& (xc))))), (11, .int (((((xh) + (((tn (xe) ((6 : Int32))) ^^^ (tn (xe) ((11 : Int32)))) ^^^ (tn (xe) ((25 : Int32))))) + (((xe) &&& (xf)) ^^^ (((xe) ^^^ ((-1 : Int32))) &&& (xg)))) + (ro (i))) + (sc1 (i)))), (0, .ref (r 0)), (2, .int xa), (3, .int xb), (10, .int (nI i))]) hx hb dX2_compress_369 hl (by decide) rfl (fun ls hl => ?_)
        refine lv_iload_n hx hb dX2_compress_371 rfl (lv_at hl 9 rfl) ?_
        refine lv_istore_n (lv' := [(3, .int xa), (4, .int xb), (5, .int xc), (6, .int ((xd) + (((((xh) + (((tn (xe) ((6 : Int32))) ^^^ (tn (xe) ((11 : Int32)))) ^^^ (tn (xe) ((25 : Int32))))) + (((xe) &&& (xf)) ^^^ (((xe) ^^^ ((-1 : Int32))) &&& (xg)))) + (ro (i))) + (sc1 (i))))), (7, .int xe), (8, .int xf), (9, .int xg), (12, .int ((((tn (xa) ((2 : Int32))) ^^^ (tn (xa) ((13 : Int32)))) ^^^ (tn (xa) ((22 : Int32)))) + ((((xa) &&& (xb)) ^^^ ((xa) &&& (xc))) ^^^ ((xb) &&& (xc))))), (11, .int (((((xh) + (((tn (xe) ((6 : Int32))) ^^^ (tn (xe) ((11 : Int32)))) ^^^ (tn (xe) ((25 : Int32))))) + (((xe) &&& (xf)) ^^^ (((xe) ^^^ ((-1 : Int32))) &&& (xg)))) + (ro (i))) + (sc1 (i)))), (0, .ref (r 0)), (2, .int xa), (10, .int (nI i))]) hx hb dX2_compress_372 rfl hl (by decide) rfl (fun ls hl => ?_)
        refine lv_iload hx hb dX2_compress_373 (lv_at hl 8 rfl) ?_
        refine lv_iload hx hb dX2_compress_375 (lv_at hl 7 rfl) ?_
        refine lv_iadd hx hb dX2_compress_377 ?_
        refine lv_istore_n (lv' := [(2, .int ((((((xh) + (((tn (xe) ((6 : Int32))) ^^^ (tn (xe) ((11 : Int32)))) ^^^ (tn (xe) ((25 : Int32))))) + (((xe) &&& (xf)) ^^^ (((xe) ^^^ ((-1 : Int32))) &&& (xg)))) + (ro (i))) + (sc1 (i))) + ((((tn (xa) ((2 : Int32))) ^^^ (tn (xa) ((13 : Int32)))) ^^^ (tn (xa) ((22 : Int32)))) + ((((xa) &&& (xb)) ^^^ ((xa) &&& (xc))) ^^^ ((xb) &&& (xc)))))), (3, .int xa), (4, .int xb), (5, .int xc), (6, .int ((xd) + (((((xh) + (((tn (xe) ((6 : Int32))) ^^^ (tn (xe) ((11 : Int32)))) ^^^ (tn (xe) ((25 : Int32))))) + (((xe) &&& (xf)) ^^^ (((xe) ^^^ ((-1 : Int32))) &&& (xg)))) + (ro (i))) + (sc1 (i))))), (7, .int xe), (8, .int xf), (9, .int xg), (12, .int ((((tn (xa) ((2 : Int32))) ^^^ (tn (xa) ((13 : Int32)))) ^^^ (tn (xa) ((22 : Int32)))) + ((((xa) &&& (xb)) ^^^ ((xa) &&& (xc))) ^^^ ((xb) &&& (xc))))), (11, .int (((((xh) + (((tn (xe) ((6 : Int32))) ^^^ (tn (xe) ((11 : Int32)))) ^^^ (tn (xe) ((25 : Int32))))) + (((xe) &&& (xf)) ^^^ (((xe) ^^^ ((-1 : Int32))) &&& (xg)))) + (ro (i))) + (sc1 (i)))), (0, .ref (r 0)), (10, .int (nI i))]) hx hb dX2_compress_378 rfl hl (by decide) rfl (fun ls hl => ?_)
        refine lv_iinc (v := (nI (i + 1))) (lv' := [(10, .int (nI (i + 1))), (2, .int ((((((xh) + (((tn (xe) ((6 : Int32))) ^^^ (tn (xe) ((11 : Int32)))) ^^^ (tn (xe) ((25 : Int32))))) + (((xe) &&& (xf)) ^^^ (((xe) ^^^ ((-1 : Int32))) &&& (xg)))) + (ro (i))) + (sc1 (i))) + ((((tn (xa) ((2 : Int32))) ^^^ (tn (xa) ((13 : Int32)))) ^^^ (tn (xa) ((22 : Int32)))) + ((((xa) &&& (xb)) ^^^ ((xa) &&& (xc))) ^^^ ((xb) &&& (xc)))))), (3, .int xa), (4, .int xb), (5, .int xc), (6, .int ((xd) + (((((xh) + (((tn (xe) ((6 : Int32))) ^^^ (tn (xe) ((11 : Int32)))) ^^^ (tn (xe) ((25 : Int32))))) + (((xe) &&& (xf)) ^^^ (((xe) ^^^ ((-1 : Int32))) &&& (xg)))) + (ro (i))) + (sc1 (i))))), (7, .int xe), (8, .int xf), (9, .int xg), (12, .int ((((tn (xa) ((2 : Int32))) ^^^ (tn (xa) ((13 : Int32)))) ^^^ (tn (xa) ((22 : Int32)))) + ((((xa) &&& (xb)) ^^^ ((xa) &&& (xc))) ^^^ ((xb) &&& (xc))))), (11, .int (((((xh) + (((tn (xe) ((6 : Int32))) ^^^ (tn (xe) ((11 : Int32)))) ^^^ (tn (xe) ((25 : Int32))))) + (((xe) &&& (xf)) ^^^ (((xe) ^^^ ((-1 : Int32))) &&& (xg)))) + (ro (i))) + (sc1 (i)))), (0, .ref (r 0))]) hx hb dX2_compress_379 hl (k := 11) rfl (kn_inc _ _ 1 rfl) (by decide) rfl (fun ls hl => ?_)
        refine lv_goto (tgt := 245) hx hb dX2_compress_382 (by decide) ?_
        exact ih hlt _ _ _ ⟨_, _, _, _, _, _, _, _, rds_s2 hI_0 (h3 i hlt), hP, hD, hS, (lv_sub hl [11, 1, 2, 3, 4, 5, 6, 7, 8, 0] rfl)⟩
    · have c_84 : (16 + i) < 64 := kn_nle c_84 (by omega) (by omega)
      have hlt : i < 48 := by omega
      refine lv_aload_n hx hb dX2_compress_87 rfl (lv_at hl 0 rfl) ?_
      refine va_get (D := D) (ci := 2) (v := .ref (r 3)) (C := RX2) (T := TX2) (N := 16) hx hb hts hin_2 hown hK hP 0 rfl rfl 3 (by decide) lk_39 (fun _ h9 => h9) rfl dX2_compress_88 ?_
      refine lv_iload_n hx hb dX2_compress_91 rfl (lv_at hl 2 rfl) ?_
      refine lv_bipush (v := (nI (15))) hx hb dX2_compress_92 (by decide) ?_
      refine lv_isub hx hb dX2_compress_94 ?_
      refine kp_i (y := (nI (i + 1))) (kn_sub (by omega)) ?_
      refine kb_iald hx hb hK hP 3 0 rfl rfl (i + 1) (rfl) (by omega) (by decide) dX2_compress_95 ?_
      refine lv_istore_n (lv' := [(3, .int (sc1 (i + 1))), (0, .ref (r 0)), (1, .int (nI f)), (2, .int (nI (16 + i)))]) hx hb dX2_compress_96 rfl hl (by decide) rfl (fun ls hl => ?_)
      refine lv_aload_n hx hb dX2_compress_97 rfl (lv_at hl 1 rfl) ?_
      refine va_get (D := D) (ci := 2) (v := .ref (r 3)) (C := RX2) (T := TX2) (N := 16) hx hb hts hin_2 hown hK hP 0 rfl rfl 3 (by decide) lk_39 (fun _ h9 => h9) rfl dX2_compress_98 ?_
      refine lv_iload_n hx hb dX2_compress_101 rfl (lv_at hl 3 rfl) ?_
      refine lv_iconst (v := (nI (2))) hx hb dX2_compress_102 (by decide) ?_
      refine lv_isub hx hb dX2_compress_103 ?_
      refine kp_i (y := (nI (i + 14))) (kn_sub (by omega)) ?_
      refine kb_iald hx hb hK hP 3 0 rfl rfl (i + 14) (rfl) (by omega) (by decide) dX2_compress_104 ?_
      refine lv_istore (lv' := [(4, .int (sc1 (i + 14))), (3, .int (sc1 (i + 1))), (0, .ref (r 0)), (1, .int (nI f)), (2, .int (nI (16 + i)))]) hx hb dX2_compress_105 hl (by decide) rfl (fun ls hl => ?_)
      refine lv_aload_n hx hb dX2_compress_107 rfl (lv_at hl 2 rfl) ?_
      refine va_get (D := D) (ci := 2) (v := .ref (r 3)) (C := RX2) (T := TX2) (N := 16) hx hb hts hin_2 hown hK hP 0 rfl rfl 3 (by decide) lk_39 (fun _ h9 => h9) rfl dX2_compress_108 ?_
      refine lv_iload_n hx hb dX2_compress_111 rfl (lv_at hl 4 rfl) ?_
      refine lv_aload_n hx hb dX2_compress_112 rfl (lv_at hl 2 rfl) ?_
      refine va_get (D := D) (ci := 2) (v := .ref (r 3)) (C := RX2) (T := TX2) (N := 16) hx hb hts hin_2 hown hK hP 0 rfl rfl 3 (by decide) lk_39 (fun _ h9 => h9) rfl dX2_compress_113 ?_
      refine lv_iload_n hx hb dX2_compress_116 rfl (lv_at hl 4 rfl) ?_
      refine lv_bipush (v := (nI (16))) hx hb dX2_compress_117 (by decide) ?_
      refine lv_isub hx hb dX2_compress_119 ?_
      refine kp_i (y := (nI (i))) (kn_sub (by omega)) ?_
      refine kb_iald hx hb hK hP 3 0 rfl rfl (i) (rfl) (by omega) (by decide) dX2_compress_120 ?_
      refine lv_iload_n hx hb dX2_compress_121 rfl (lv_at hl 1 rfl) ?_
      refine lv_bipush (v := ((7 : Int32))) hx hb dX2_compress_122 (by decide) ?_
      refine kcs_i (As := [.int (sc1 (i + 1)), .int ((7 : Int32))]) (rest := [.int (sc1 (i)), .int (nI (16 + i)), .ref (r 3)]) ⟨hx, hb, hml, hown, hts⟩ (m_turn l D A r cI cJ (wm r cI cJ hz tl lv mn vs cb hs su sc1 ro be tp bs sz lw mi) ((sc1 (i + 1))) (((7 : Int32)))) (cwS 2 hts (gMS (List.mem_of_getElem? (i := 54) rfl) (List.mem_of_getElem? (i := 55) rfl) (List.mem_of_getElem? (i := 0) rfl) (List.mem_of_getElem? (i := 56) rfl)) rfl rfl rfl (by decide +kernel) ⟨Nat.le_of_ble_eq_true rfl, Nat.le_of_ble_eq_true rfl⟩) hK hP hD hS hZ rfl hl.1 rfl (Nat.le_of_ble_eq_true rfl) ⟨Nat.zero_le _, Nat.zero_le _⟩ dX2_compress_124 (fun r_7 _ H locs hw hP hD hS => ?_)
      have hw : r_7 = (tn (sc1 (i + 1)) ((7 : Int32))) := hw
      subst hw
      have hP : va_P D vwCl (wm r cI cJ hz tl lv mn vs cb hs su sc1 ro be tp bs sz lw mi) H := hP
      have hD : va_D A (wm r cI cJ hz tl lv mn vs cb hs su sc1 ro be tp bs sz lw mi) := hD
      refine lv_iload_n hx hb dX2_compress_127 rfl (lv_at hl 1 rfl) ?_
      refine lv_bipush (v := ((18 : Int32))) hx hb dX2_compress_128 (by decide) ?_
      refine kcs_i (As := [.int (sc1 (i + 1)), .int ((18 : Int32))]) (rest := [.int (tn (sc1 (i + 1)) ((7 : Int32))), .int (sc1 (i)), .int (nI (16 + i)), .ref (r 3)]) ⟨hx, hb, hml, hown, hts⟩ (m_turn l D A r cI cJ (wm r cI cJ hz tl lv mn vs cb hs su sc1 ro be tp bs sz lw mi) ((sc1 (i + 1))) (((18 : Int32)))) (cwS 2 hts (gMS (List.mem_of_getElem? (i := 54) rfl) (List.mem_of_getElem? (i := 55) rfl) (List.mem_of_getElem? (i := 0) rfl) (List.mem_of_getElem? (i := 56) rfl)) rfl rfl rfl (by decide +kernel) ⟨Nat.le_of_ble_eq_true rfl, Nat.le_of_ble_eq_true rfl⟩) hK hP hD hS hZ rfl hl.1 rfl (Nat.le_of_ble_eq_true rfl) ⟨Nat.zero_le _, Nat.zero_le _⟩ dX2_compress_130 (fun r_8 _ H locs hw hP hD hS => ?_)
      have hw : r_8 = (tn (sc1 (i + 1)) ((18 : Int32))) := hw
      subst hw
      have hP : va_P D vwCl (wm r cI cJ hz tl lv mn vs cb hs su sc1 ro be tp bs sz lw mi) H := hP
      have hD : va_D A (wm r cI cJ hz tl lv mn vs cb hs su sc1 ro be tp bs sz lw mi) := hD
      refine lv_ixor hx hb dX2_compress_133 ?_
      refine lv_iload_n hx hb dX2_compress_134 rfl (lv_at hl 1 rfl) ?_
      refine lv_iconst (v := ((3 : Int32))) hx hb dX2_compress_135 (by decide) ?_
      refine lv_iushr hx hb dX2_compress_136 rfl ?_
      refine lv_ixor hx hb dX2_compress_137 ?_
      refine lv_iadd hx hb dX2_compress_138 ?_
      refine lv_aload_n hx hb dX2_compress_139 rfl (lv_at hl 2 rfl) ?_
      refine va_get (D := D) (ci := 2) (v := .ref (r 3)) (C := RX2) (T := TX2) (N := 16) hx hb hts hin_2 hown hK hP 0 rfl rfl 3 (by decide) lk_39 (fun _ h9 => h9) rfl dX2_compress_140 ?_
      refine lv_iload_n hx hb dX2_compress_143 rfl (lv_at hl 4 rfl) ?_
      refine lv_bipush (v := (nI (7))) hx hb dX2_compress_144 (by decide) ?_
      refine lv_isub hx hb dX2_compress_146 ?_
      refine kp_i (y := (nI (i + 9))) (kn_sub (by omega)) ?_
      refine kb_iald hx hb hK hP 3 0 rfl rfl (i + 9) (rfl) (by omega) (by decide) dX2_compress_147 ?_
      refine lv_iadd hx hb dX2_compress_148 ?_
      refine lv_iload hx hb dX2_compress_149 (lv_at hl 0 rfl) ?_
      refine lv_bipush (v := ((17 : Int32))) hx hb dX2_compress_151 (by decide) ?_
      refine kcs_i (As := [.int (sc1 (i + 14)), .int ((17 : Int32))]) (rest := [.int (((sc1 (i)) + (((tn (sc1 (i + 1)) ((7 : Int32))) ^^^ (tn (sc1 (i + 1)) ((18 : Int32)))) ^^^ ((((sc1 (i + 1))).toUInt32 >>> ((((3 : Int32))).toUInt32 &&& Int32.toUInt32 31)).toInt32))) + (sc1 (i + 9))), .int (nI (16 + i)), .ref (r 3)]) ⟨hx, hb, hml, hown, hts⟩ (m_turn l D A r cI cJ (wm r cI cJ hz tl lv mn vs cb hs su sc1 ro be tp bs sz lw mi) ((sc1 (i + 14))) (((17 : Int32)))) (cwS 2 hts (gMS (List.mem_of_getElem? (i := 54) rfl) (List.mem_of_getElem? (i := 55) rfl) (List.mem_of_getElem? (i := 0) rfl) (List.mem_of_getElem? (i := 56) rfl)) rfl rfl rfl (by decide +kernel) ⟨Nat.le_of_ble_eq_true rfl, Nat.le_of_ble_eq_true rfl⟩) hK hP hD hS hZ rfl hl.1 rfl (Nat.le_of_ble_eq_true rfl) ⟨Nat.zero_le _, Nat.zero_le _⟩ dX2_compress_153 (fun r_9 _ H locs hw hP hD hS => ?_)
      have hw : r_9 = (tn (sc1 (i + 14)) ((17 : Int32))) := hw
      subst hw
      have hP : va_P D vwCl (wm r cI cJ hz tl lv mn vs cb hs su sc1 ro be tp bs sz lw mi) H := hP
      have hD : va_D A (wm r cI cJ hz tl lv mn vs cb hs su sc1 ro be tp bs sz lw mi) := hD
      refine lv_iload hx hb dX2_compress_156 (lv_at hl 0 rfl) ?_
      refine lv_bipush (v := ((19 : Int32))) hx hb dX2_compress_158 (by decide) ?_
      refine kcs_i (As := [.int (sc1 (i + 14)), .int ((19 : Int32))]) (rest := [.int (tn (sc1 (i + 14)) ((17 : Int32))), .int (((sc1 (i)) + (((tn (sc1 (i + 1)) ((7 : Int32))) ^^^ (tn (sc1 (i + 1)) ((18 : Int32)))) ^^^ ((((sc1 (i + 1))).toUInt32 >>> ((((3 : Int32))).toUInt32 &&& Int32.toUInt32 31)).toInt32))) + (sc1 (i + 9))), .int (nI (16 + i)), .ref (r 3)]) ⟨hx, hb, hml, hown, hts⟩ (m_turn l D A r cI cJ (wm r cI cJ hz tl lv mn vs cb hs su sc1 ro be tp bs sz lw mi) ((sc1 (i + 14))) (((19 : Int32)))) (cwS 2 hts (gMS (List.mem_of_getElem? (i := 54) rfl) (List.mem_of_getElem? (i := 55) rfl) (List.mem_of_getElem? (i := 0) rfl) (List.mem_of_getElem? (i := 56) rfl)) rfl rfl rfl (by decide +kernel) ⟨Nat.le_of_ble_eq_true rfl, Nat.le_of_ble_eq_true rfl⟩) hK hP hD hS hZ rfl hl.1 rfl (Nat.le_of_ble_eq_true rfl) ⟨Nat.zero_le _, Nat.zero_le _⟩ dX2_compress_160 (fun r_10 _ H locs hw hP hD hS => ?_)
      have hw : r_10 = (tn (sc1 (i + 14)) ((19 : Int32))) := hw
      subst hw
      have hP : va_P D vwCl (wm r cI cJ hz tl lv mn vs cb hs su sc1 ro be tp bs sz lw mi) H := hP
      have hD : va_D A (wm r cI cJ hz tl lv mn vs cb hs su sc1 ro be tp bs sz lw mi) := hD
      refine lv_ixor hx hb dX2_compress_163 ?_
      refine lv_iload hx hb dX2_compress_164 (lv_at hl 0 rfl) ?_
      refine lv_bipush (v := ((10 : Int32))) hx hb dX2_compress_166 (by decide) ?_
      refine lv_iushr hx hb dX2_compress_168 rfl ?_
      refine lv_ixor hx hb dX2_compress_169 ?_
      refine lv_iadd hx hb dX2_compress_170 ?_
      refine kb_iast hx hb hK hP hD hS 3 0 rfl rfl (16 + i) (rfl) (by omega) (by decide) dX2_compress_171 (fun H locs hP hD hS => ?_)
      have hP : va_P D vwCl (wm r cI cJ hz tl lv mn vs cb hs su (upd sc1 (16 + i) (((((sc1 (i)) + (((tn (sc1 (i + 1)) ((7 : Int32))) ^^^ (tn (sc1 (i + 1)) ((18 : Int32)))) ^^^ ((((sc1 (i + 1))).toUInt32 >>> ((((3 : Int32))).toUInt32 &&& Int32.toUInt32 31)).toInt32))) + (sc1 (i + 9))) + (((tn (sc1 (i + 14)) ((17 : Int32))) ^^^ (tn (sc1 (i + 14)) ((19 : Int32)))) ^^^ ((((sc1 (i + 14))).toUInt32 >>> ((((10 : Int32))).toUInt32 &&& Int32.toUInt32 31)).toInt32))))) ro be tp bs sz lw mi) H := hP
      have hD : va_D A (wm r cI cJ hz tl lv mn vs cb hs su (upd sc1 (16 + i) (((((sc1 (i)) + (((tn (sc1 (i + 1)) ((7 : Int32))) ^^^ (tn (sc1 (i + 1)) ((18 : Int32)))) ^^^ ((((sc1 (i + 1))).toUInt32 >>> ((((3 : Int32))).toUInt32 &&& Int32.toUInt32 31)).toInt32))) + (sc1 (i + 9))) + (((tn (sc1 (i + 14)) ((17 : Int32))) ^^^ (tn (sc1 (i + 14)) ((19 : Int32)))) ^^^ ((((sc1 (i + 14))).toUInt32 >>> ((((10 : Int32))).toUInt32 &&& Int32.toUInt32 31)).toInt32))))) ro be tp bs sz lw mi) := hD
      refine lv_iinc (v := (nI (16 + (i + 1)))) (lv' := [(2, .int (nI (16 + (i + 1)))), (4, .int (sc1 (i + 14))), (3, .int (sc1 (i + 1))), (0, .ref (r 0)), (1, .int (nI f))]) hx hb dX2_compress_172 hl (k := 4) rfl (kn_inc _ _ 1 (by omega)) (by decide) rfl (fun ls hl => ?_)
      refine lv_goto (tgt := 81) hx hb dX2_compress_175 (by decide) ?_
      exact ih hlt _ _ _ ⟨_, swl_back hI_0 rfl, hP, hD, hS, (lv_sub hl [3, 4, 0] rfl)⟩
  · have c_5 : i < 16 := kn_nle c_5 (by omega) (by omega)
    have hlt : i < 16 := c_5
    refine lv_aload_n hx hb dX2_compress_8 rfl (lv_at hl 0 rfl) ?_
    refine va_get (D := D) (ci := 2) (v := .ref (r 3)) (C := RX2) (T := TX2) (N := 16) hx hb hts hin_2 hown hK hP 0 rfl rfl 3 (by decide) lk_39 (fun _ h9 => h9) rfl dX2_compress_9 ?_
    refine lv_iload_n hx hb dX2_compress_12 rfl (lv_at hl 2 rfl) ?_
    refine lv_aload_n hx hb dX2_compress_13 rfl (lv_at hl 0 rfl) ?_
    refine va_get (D := D) (ci := 2) (v := .ref (r 1)) (C := RX2) (T := TX2) (N := 16) hx hb hts hin_2 hown hK hP 0 rfl rfl 0 (by decide) lk_22 (fun _ h9 => h9) rfl dX2_compress_14 ?_
    refine lv_iload_n hx hb dX2_compress_17 rfl (lv_at hl 1 rfl) ?_
    refine lv_iconst (v := (nI (4))) hx hb dX2_compress_18 (by decide) ?_
    refine lv_iload_n hx hb dX2_compress_19 rfl (lv_at hl 2 rfl) ?_
    refine lv_imul hx hb dX2_compress_20 ?_
    refine kp_i (pk_mul _ _) ?_
    refine lv_iadd hx hb dX2_compress_21 ?_
    refine kp_i (nI_add _ _) ?_
    refine kb_iald hx hb hK hP 1 0 rfl rfl (f + (4 * i)) (rfl) (by omega) (by decide) dX2_compress_22 ?_
    refine lv_bipush (v := ((24 : Int32))) hx hb dX2_compress_23 (by decide) ?_
    refine lv_ishl hx hb dX2_compress_25 ?_
    refine lv_aload_n hx hb dX2_compress_26 rfl (lv_at hl 0 rfl) ?_
    refine va_get (D := D) (ci := 2) (v := .ref (r 1)) (C := RX2) (T := TX2) (N := 16) hx hb hts hin_2 hown hK hP 0 rfl rfl 0 (by decide) lk_22 (fun _ h9 => h9) rfl dX2_compress_27 ?_
    refine lv_iload_n hx hb dX2_compress_30 rfl (lv_at hl 1 rfl) ?_
    refine lv_iconst (v := (nI (4))) hx hb dX2_compress_31 (by decide) ?_
    refine lv_iload_n hx hb dX2_compress_32 rfl (lv_at hl 2 rfl) ?_
    refine lv_imul hx hb dX2_compress_33 ?_
    refine kp_i (pk_mul _ _) ?_
    refine lv_iadd hx hb dX2_compress_34 ?_
    refine kp_i (nI_add _ _) ?_
    refine lv_iconst (v := (nI (1))) hx hb dX2_compress_35 (by decide) ?_
    refine lv_iadd hx hb dX2_compress_36 ?_
    refine kp_i (nI_add _ _) ?_
    refine kb_iald hx hb hK hP 1 0 rfl rfl ((f + (4 * i)) + 1) (rfl) (by omega) (by decide) dX2_compress_37 ?_
    refine lv_bipush (v := ((16 : Int32))) hx hb dX2_compress_38 (by decide) ?_
    refine lv_ishl hx hb dX2_compress_40 ?_
    refine lv_ior hx hb dX2_compress_41 ?_
    refine lv_aload_n hx hb dX2_compress_42 rfl (lv_at hl 0 rfl) ?_
    refine va_get (D := D) (ci := 2) (v := .ref (r 1)) (C := RX2) (T := TX2) (N := 16) hx hb hts hin_2 hown hK hP 0 rfl rfl 0 (by decide) lk_22 (fun _ h9 => h9) rfl dX2_compress_43 ?_
    refine lv_iload_n hx hb dX2_compress_46 rfl (lv_at hl 1 rfl) ?_
    refine lv_iconst (v := (nI (4))) hx hb dX2_compress_47 (by decide) ?_
    refine lv_iload_n hx hb dX2_compress_48 rfl (lv_at hl 2 rfl) ?_
    refine lv_imul hx hb dX2_compress_49 ?_
    refine kp_i (pk_mul _ _) ?_
    refine lv_iadd hx hb dX2_compress_50 ?_
    refine kp_i (nI_add _ _) ?_
    refine lv_iconst (v := (nI (2))) hx hb dX2_compress_51 (by decide) ?_
    refine lv_iadd hx hb dX2_compress_52 ?_
    refine kp_i (nI_add _ _) ?_
    refine kb_iald hx hb hK hP 1 0 rfl rfl ((f + (4 * i)) + 2) (rfl) (by omega) (by decide) dX2_compress_53 ?_
    refine lv_bipush (v := ((8 : Int32))) hx hb dX2_compress_54 (by decide) ?_
    refine lv_ishl hx hb dX2_compress_56 ?_
    refine lv_ior hx hb dX2_compress_57 ?_
    refine lv_aload_n hx hb dX2_compress_58 rfl (lv_at hl 0 rfl) ?_
    refine va_get (D := D) (ci := 2) (v := .ref (r 1)) (C := RX2) (T := TX2) (N := 16) hx hb hts hin_2 hown hK hP 0 rfl rfl 0 (by decide) lk_22 (fun _ h9 => h9) rfl dX2_compress_59 ?_
    refine lv_iload_n hx hb dX2_compress_62 rfl (lv_at hl 1 rfl) ?_
    refine lv_iconst (v := (nI (4))) hx hb dX2_compress_63 (by decide) ?_
    refine lv_iload_n hx hb dX2_compress_64 rfl (lv_at hl 2 rfl) ?_
    refine lv_imul hx hb dX2_compress_65 ?_
    refine kp_i (pk_mul _ _) ?_
    refine lv_iadd hx hb dX2_compress_66 ?_
    refine kp_i (nI_add _ _) ?_
    refine lv_iconst (v := (nI (3))) hx hb dX2_compress_67 (by decide) ?_
    refine lv_iadd hx hb dX2_compress_68 ?_
    refine kp_i (nI_add _ _) ?_
    refine kb_iald hx hb hK hP 1 0 rfl rfl ((f + (4 * i)) + 3) (rfl) (by omega) (by decide) dX2_compress_69 ?_
    refine lv_ior hx hb dX2_compress_70 ?_
    refine kb_iast hx hb hK hP hD hS 3 0 rfl rfl (i) (rfl) (by omega) (by decide) dX2_compress_71 (fun H locs hP hD hS => ?_)
    have hP : va_P D vwCl (wm r cI cJ hz tl lv mn vs cb hs su (upd sc1 (i) ((((((hs (f + (4 * i))) <<< (((24 : Int32)) &&& 31)) ||| ((hs ((f + (4 * i)) + 1)) <<< (((16 : Int32)) &&& 31))) ||| ((hs ((f + (4 * i)) + 2)) <<< (((8 : Int32)) &&& 31))) ||| (hs ((f + (4 * i)) + 3))))) ro be tp bs sz lw mi) H := hP
    have hD : va_D A (wm r cI cJ hz tl lv mn vs cb hs su (upd sc1 (i) ((((((hs (f + (4 * i))) <<< (((24 : Int32)) &&& 31)) ||| ((hs ((f + (4 * i)) + 1)) <<< (((16 : Int32)) &&& 31))) ||| ((hs ((f + (4 * i)) + 2)) <<< (((8 : Int32)) &&& 31))) ||| (hs ((f + (4 * i)) + 3))))) ro be tp bs sz lw mi) := hD
    refine lv_iinc (v := (nI (i + 1))) (lv' := [(2, .int (nI (i + 1))), (0, .ref (r 0)), (1, .int (nI f))]) hx hb dX2_compress_72 hl (k := 2) rfl (kn_inc _ _ 1 rfl) (by decide) rfl (fun ls hl => ?_)
    refine lv_goto (tgt := 2) hx hb dX2_compress_75 (by decide) ?_
    exact ih hlt _ _ _ ⟨_, upd_s hI_0 (wdm_eq h2 hlt), hP, hD, hS, (lv_sub hl [1, 2, 0] rfl)⟩
