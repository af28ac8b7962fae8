set_option maxHeartbeats 4000000 in
set_option maxRecDepth 100000 in
theorem c_widthAbove (l : Launch) (D : va_G) (A : Nat → Prop) (q : Nat → Nat) (cB cI : ClassId) (ws : va_W) (w : Nat) (h1 : w < 256) : Ki (S := Unit) l yX1_widthAbove wsX1_widthAbove { frames := 0, cells := 0, slots := 0, locals := 0 } D vwCl [(cB, .byte), (cI, .int)] A (zk q) [.int (nI w)] ws (fun r _ => r = (nI ((w + 1) / 2))) (fun _ => ws) := by
  refine Met.ofW (cc := cX1_widthAbove) (maxL := 1) (ret := (some .int)) (by decide) rfl ?_
  intro p e s m args below meth c s₁ B hml hv
  obtain ⟨rfl, hP, hK, hD, hZ⟩ := hv
  have hx := B.exec
  have hb := B.bytes
  have hr := B.returns
  have hts := atoms_spec (ws := wsX1_widthAbove) B.pre
  have hown : s.vm.findClass RX1 = some m.cls := findClass_of_methodNamed B.named
  have hlocks := B.notSynchronized
  have hS : va_S A s.heap s.heap [] := va_S.rf
  have hl := lv_entry ([.int (nI w)]) (n := 1) (Nat.le_of_ble_eq_true rfl)
  rw [lg_entry_eq]
  generalize (lg_sl ([.int (nI w)]) ++ List.replicate (1 - (lg_sl ([.int (nI w)])).length) Slot.unset).toArray = ls at hl ⊢
  have hl : lv_has ls 1 [(0, .int (nI w))] := hl
  refine lv_iload_n hx hb dX1_widthAbove_0 rfl (lv_at hl 0 rfl) ?_
  refine lv_iconst (v := (nI (1))) hx hb dX1_widthAbove_1 (by decide) ?_
  refine lv_iadd hx hb dX1_widthAbove_2 ?_
  refine kp_i (nI_add _ _) ?_
  refine lv_iconst (v := (nI (1))) hx hb dX1_widthAbove_3 (by decide) ?_
  refine lv_ishr hx hb dX1_widthAbove_4 ?_
  refine kp_i (y := (nI ((w + 1) / 2))) (nt_hf (by omega)) ?_
  exact kr_i (()) hx hb hr hlocks hK hP hD hS (rfl) dX1_widthAbove_5

set_option maxHeartbeats 4000000 in
set_option maxRecDepth 100000 in
theorem c_hasOneBeside (l : Launch) (D : va_G) (A : Nat → Prop) (q : Nat → Nat) (cB cI : ClassId) (ws : va_W) (x : Nat) (w : Nat) (h1 : x < 256) (h2 : w < 256) : Ki (S := Unit) l yX1_hasOneBeside wsX1_hasOneBeside { frames := 0, cells := 0, slots := 0, locals := 0 } D vwCl [(cB, .byte), (cI, .int)] A (zk q) [.int (nI x), .int (nI w)] ws (fun r _ => r = (bz (decide (xo x < w)))) (fun _ => ws) := by
  refine Met.ofW (cc := cX1_hasOneBeside) (maxL := 2) (ret := (some .boolean)) (by decide) rfl ?_
  intro p e s m args below meth c s₁ B hml hv
  obtain ⟨rfl, hP, hK, hD, hZ⟩ := hv
  have hx := B.exec
  have hb := B.bytes
  have hr := B.returns
  have hts := atoms_spec (ws := wsX1_hasOneBeside) B.pre
  have hown : s.vm.findClass RX1 = some m.cls := findClass_of_methodNamed B.named
  have hlocks := B.notSynchronized
  have hS : va_S A s.heap s.heap [] := va_S.rf
  have hl := lv_entry ([.int (nI x), .int (nI w)]) (n := 2) (Nat.le_of_ble_eq_true rfl)
  rw [lg_entry_eq]
  generalize (lg_sl ([.int (nI x), .int (nI w)]) ++ List.replicate (2 - (lg_sl ([.int (nI x), .int (nI w)])).length) Slot.unset).toArray = ls at hl ⊢
  have hl : lv_has ls 2 [(0, .int (nI x)), (1, .int (nI w))] := hl
  have hxo := xo_le x
  refine lv_iload_n hx hb dX1_hasOneBeside_0 rfl (lv_at hl 0 rfl) ?_
  refine lv_iconst (v := (nI (1))) hx hb dX1_hasOneBeside_1 (by decide) ?_
  refine lv_ixor hx hb dX1_hasOneBeside_2 ?_
  refine kp_i (y := (nI (xo x))) (nt_xo x h1) ?_
  refine lv_iload_n hx hb dX1_hasOneBeside_3 rfl (lv_at hl 1 rfl) ?_
  refine lv_icmp_ge (tgt := 11) hx hb dX1_hasOneBeside_4 (by decide) (fun c_4 => ?_) (fun c_4 => ?_)
  · have c_4 : w ≤ (xo x) := kn_le c_4 (by omega) (by omega)
    refine lv_iconst (v := ((0 : Int32))) hx hb dX1_hasOneBeside_11 (by decide) ?_
    exact kr_z (()) hx hb hr hlocks hK hP hD hS (rfl) (by first | (rw [decide_eq_true (p := xo x < w) (by omega)]; rfl) | (rw [decide_eq_false (p := xo x < w) (by omega)]; rfl)) dX1_hasOneBeside_12
  · have c_4 : (xo x) < w := kn_nle c_4 (by omega) (by omega)
    refine lv_iconst (v := ((1 : Int32))) hx hb dX1_hasOneBeside_7 (by decide) ?_
    refine lv_goto (tgt := 12) hx hb dX1_hasOneBeside_8 (by decide) ?_
    exact kr_z (()) hx hb hr hlocks hK hP hD hS (rfl) (by first | (rw [decide_eq_true (p := xo x < w) (by omega)]; rfl) | (rw [decide_eq_false (p := xo x < w) (by omega)]; rfl)) dX1_hasOneBeside_12

set_option maxHeartbeats 4000000 in
set_option maxRecDepth 100000 in
theorem c_nodeBeside (l : Launch) (D : va_G) (A : Nat → Prop) (q : Nat → Nat) (cB cI : ClassId) (ws : va_W) (t : Nat) (x : Nat) (h1 : t < 8) (h2 : x < 256) : Ki (S := Unit) l yX1_nodeBeside wsX1_nodeBeside { frames := 0, cells := 0, slots := 0, locals := 0 } D vwCl [(cB, .byte), (cI, .int)] A (zk q) [.int (nI t), .int (nI x)] ws (fun r _ => r = (nI (lsv t + xo x))) (fun _ => ws) := by
  refine Met.ofW (cc := cX1_nodeBeside) (maxL := 2) (ret := (some .int)) (by decide) rfl ?_
  intro p e s m args below meth c s₁ B hml hv
  obtain ⟨rfl, hP, hK, hD, hZ⟩ := hv
  have hx := B.exec
  have hb := B.bytes
  have hr := B.returns
  have hts := atoms_spec (ws := wsX1_nodeBeside) B.pre
  have hown : s.vm.findClass RX1 = some m.cls := findClass_of_methodNamed B.named
  have hlocks := B.notSynchronized
  have hS : va_S A s.heap s.heap [] := va_S.rf
  have lk_63 := hts (.fieldLink RX1 63 "RootDesk" "LEVEL_START" "[I") (by decide +kernel)
  have hl := lv_entry ([.int (nI t), .int (nI x)]) (n := 2) (Nat.le_of_ble_eq_true rfl)
  rw [lg_entry_eq]
  generalize (lg_sl ([.int (nI t), .int (nI x)]) ++ List.replicate (2 - (lg_sl ([.int (nI t), .int (nI x)])).length) Slot.unset).toArray = ls at hl ⊢
  have hl : lv_has ls 2 [(0, .int (nI t)), (1, .int (nI x))] := hl
  refine kz_get hx hb hZ hS 0 rfl hown lk_63 dX1_nodeBeside_0 ?_
  refine lv_iload_n hx hb dX1_nodeBeside_3 rfl (lv_at hl 0 rfl) ?_
  refine kz_ld hx hb hZ hS 0 rfl (t) (rfl) (by omega) (by decide) dX1_nodeBeside_4 ?_
  refine lv_iload_n hx hb dX1_nodeBeside_5 rfl (lv_at hl 1 rfl) ?_
  refine lv_iconst (v := (nI (1))) hx hb dX1_nodeBeside_6 (by decide) ?_
  refine lv_ixor hx hb dX1_nodeBeside_7 ?_
  refine kp_i (y := (nI (xo x))) (nt_xo x h2) ?_
  refine lv_iadd hx hb dX1_nodeBeside_8 ?_
  refine kp_i (nI_add _ _) ?_
  exact kr_i (()) hx hb hr hlocks hK hP hD hS (rfl) dX1_nodeBeside_9

set_option maxHeartbeats 4000000 in
set_option maxRecDepth 100000 in
theorem c_isLeaf (l : Launch) (D : va_G) (A : Nat → Prop) (q : Nat → Nat) (cB cI : ClassId) (tl lv lb ln : Nat) (tp : Nat → Int32) (ll : Nat → Nat) (id ms sc st : Nat → Int32) (x : Int32) : Ki (S := Unit) l yX1_isLeaf wsX1_isLeaf { frames := 0, cells := 0, slots := 0, locals := 0 } D vwCl [(cB, .byte), (cI, .int)] A (zk q) [.ref (q 0), .int x] (wk q cB cI tl lv lb ln tp ll id ms sc st) (fun r _ => r = (bz (lf (x) lv))) (fun _ => (wk q cB cI tl lv lb ln tp ll id ms sc st)) := by
  refine Met.ofW (cc := cX1_isLeaf) (maxL := 2) (ret := (some .boolean)) (by decide) rfl ?_
  intro p e s m args below meth c s₁ B hml hv
  obtain ⟨rfl, hP, hK, hD, hZ⟩ := hv
  have hx := B.exec
  have hb := B.bytes
  have hr := B.returns
  have hts := atoms_spec (ws := wsX1_isLeaf) B.pre
  have hown : s.vm.findClass RX1 = some m.cls := findClass_of_methodNamed B.named
  have hlocks := B.notSynchronized
  have hS : va_S A s.heap s.heap [] := va_S.rf
  have hin_1 : ∀ w ∈ u_ws RX1 TX1 7, w ∈ wsX1_isLeaf := by decide +kernel
  have lk_31 := hts (.fieldLink RX1 31 "RootDesk" "leaves" "I") (by decide +kernel)
  have hl := lv_entry ([.ref (q 0), .int x]) (n := 2) (Nat.le_of_ble_eq_true rfl)
  rw [lg_entry_eq]
  generalize (lg_sl ([.ref (q 0), .int x]) ++ List.replicate (2 - (lg_sl ([.ref (q 0), .int x])).length) Slot.unset).toArray = ls at hl ⊢
  have hl : lv_has ls 2 [(0, .ref (q 0)), (1, .int x)] := hl
  refine lv_iload_n hx hb dX1_isLeaf_0 rfl (lv_at hl 1 rfl) ?_
  refine lv_if_lt (tgt := 16) hx hb dX1_isLeaf_1 (by decide) (fun c_1 => ?_) (fun c_1 => ?_)
  · refine lv_iconst (v := ((0 : Int32))) hx hb dX1_isLeaf_16 (by decide) ?_
    exact kr_z (()) hx hb hr hlocks hK hP hD hS (rfl) (by first | exact lf_c c_1 c_9 | exact lf_b c_9 | exact lf_a c_1) dX1_isLeaf_17
  · refine lv_iload_n hx hb dX1_isLeaf_4 rfl (lv_at hl 1 rfl) ?_
    refine lv_aload_n hx hb dX1_isLeaf_5 rfl (lv_at hl 0 rfl) ?_
    refine va_get (D := D) (ci := 1) (v := .int (nI lv)) (C := RX1) (T := TX1) (N := 7) hx hb hts hin_1 hown hK hP 0 rfl rfl 3 (by decide) lk_31 (fun _ h9 => h9) rfl dX1_isLeaf_6 ?_
    refine lv_icmp_ge (tgt := 16) hx hb dX1_isLeaf_9 (by decide) (fun c_9 => ?_) (fun c_9 => ?_)
    · refine lv_iconst (v := ((0 : Int32))) hx hb dX1_isLeaf_16 (by decide) ?_
      exact kr_z (()) hx hb hr hlocks hK hP hD hS (rfl) (by first | exact lf_c c_1 c_9 | exact lf_b c_9 | exact lf_a c_1) dX1_isLeaf_17
    · refine lv_iconst (v := ((1 : Int32))) hx hb dX1_isLeaf_12 (by decide) ?_
      refine lv_goto (tgt := 17) hx hb dX1_isLeaf_13 (by decide) ?_
      exact kr_z (()) hx hb hr hlocks hK hP hD hS (rfl) (by first | exact lf_c c_1 c_9 | exact lf_b c_9 | exact lf_a c_1) dX1_isLeaf_17

set_option maxHeartbeats 4000000 in
set_option maxRecDepth 100000 in
theorem c_eightBytes (l : Launch) (D : va_G) (A : Nat → Prop) (q : Nat → Nat) (cB cI : ClassId) (tl lv lb ln : Nat) (tp : Nat → Int32) (ll : Nat → Nat) (id ms sc st : Nat → Int32) (k : Nat) (x : Int32) (h1 : k < 203) : Kl (S := Unit) l yX1_eightBytes wsX1_eightBytes { frames := 0, cells := 0, slots := 0, locals := 0 } D vwCl [(cB, .byte), (cI, .int)] A (zk q) [.ref (q 0), .int (nI k), .int x] (wk q cB cI tl lv lb ln tp ll id ms sc st) (fun r _ => r = (e8 (nd id k) (x))) (fun _ => (wk q cB cI tl lv lb ln tp ll id ms sc st)) := by
  refine Met.ofW (cc := cX1_eightBytes) (maxL := 4) (ret := (some .long)) (by decide) rfl ?_
  intro p e s m args below meth c s₁ B hml hv
  obtain ⟨rfl, hP, hK, hD, hZ⟩ := hv
  have hx := B.exec
  have hb := B.bytes
  have hr := B.returns
  have hts := atoms_spec (ws := wsX1_eightBytes) B.pre
  have hown : s.vm.findClass RX1 = some m.cls := findClass_of_methodNamed B.named
  have hlocks := B.notSynchronized
  have hS : va_S A s.heap s.heap [] := va_S.rf
  have hin_1 : ∀ w ∈ u_ws RX1 TX1 7, w ∈ wsX1_eightBytes := by decide +kernel
  have lk_17 := hts (.fieldLink RX1 17 "RootDesk" "ids" "[I") (by decide +kernel)
  have hl := lv_entry ([.ref (q 0), .int (nI k), .int x]) (n := 4) (Nat.le_of_ble_eq_true rfl)
  rw [lg_entry_eq]
  generalize (lg_sl ([.ref (q 0), .int (nI k), .int x]) ++ List.replicate (4 - (lg_sl ([.ref (q 0), .int (nI k), .int x])).length) Slot.unset).toArray = ls at hl ⊢
  have hl : lv_has ls 4 [(0, .ref (q 0)), (1, .int (nI k)), (2, .int x)] := hl
  refine lv_iload_n hx hb dX1_eightBytes_0 rfl (lv_at hl 2 rfl) ?_
  refine lv_if_lt (tgt := 9) hx hb dX1_eightBytes_1 (by decide) (fun c_1 => ?_) (fun c_1 => ?_)
  · refine lv_lconst (v := 0) hx hb dX1_eightBytes_9 (by decide) ?_
    exact kr_l (()) hx hb hr hlocks hK hP hD hS (by first | exact e8_hi c_6 | exact e8_lo c_1) dX1_eightBytes_10
  · refine lv_iload_n hx hb dX1_eightBytes_4 rfl (lv_at hl 2 rfl) ?_
    refine lv_iconst (v := ((3 : Int32))) hx hb dX1_eightBytes_5 (by decide) ?_
    refine lv_icmp_le (tgt := 11) hx hb dX1_eightBytes_6 (by decide) (fun c_6 => ?_) (fun c_6 => ?_)
    · obtain ⟨j, hj, rfl⟩ := nI_of2 (n := 3) (M := 3) (by decide) c_1 c_6
      refine lv_iload_n hx hb dX1_eightBytes_11 rfl (lv_at hl 1 rfl) ?_
      refine lv_bipush (v := (nI (8))) hx hb dX1_eightBytes_12 (by decide) ?_
      refine lv_imul hx hb dX1_eightBytes_14 ?_
      refine kp_i (pk_mul _ _) ?_
      refine lv_iconst (v := (nI (2))) hx hb dX1_eightBytes_15 (by decide) ?_
      refine lv_iload_n hx hb dX1_eightBytes_16 rfl (lv_at hl 2 rfl) ?_
      refine lv_imul hx hb dX1_eightBytes_17 ?_
      refine kp_i (pk_mul _ _) ?_
      refine lv_iadd hx hb dX1_eightBytes_18 ?_
      refine kp_i (nI_add _ _) ?_
      refine lv_istore_n (lv' := [(3, .int (nI ((k * 8) + (2 * j)))), (0, .ref (q 0)), (1, .int (nI k)), (2, .int (nI j))]) hx hb dX1_eightBytes_19 rfl hl (by decide) rfl (fun ls hl => ?_)
      refine lv_aload_n hx hb dX1_eightBytes_20 rfl (lv_at hl 1 rfl) ?_
      refine va_get (D := D) (ci := 1) (v := .ref (q 3)) (C := RX1) (T := TX1) (N := 7) hx hb hts hin_1 hown hK hP 0 rfl rfl 5 (by decide) lk_17 (fun _ h9 => h9) rfl dX1_eightBytes_21 ?_
      refine lv_iload_n hx hb dX1_eightBytes_24 rfl (lv_at hl 0 rfl) ?_
      refine kb_iald hx hb hK hP 3 1 rfl rfl ((k * 8) + (2 * j)) (rfl) (by omega) (by decide) dX1_eightBytes_25 ?_
      refine lv_i2l hx hb dX1_eightBytes_26 rfl ?_
      refine lv_bipush (v := ((32 : Int32))) hx hb dX1_eightBytes_27 (by decide) ?_
      refine lv_lshl hx hb dX1_eightBytes_29 rfl ?_
      refine lv_aload_n hx hb dX1_eightBytes_30 rfl (lv_at hl 1 rfl) ?_
      refine va_get (D := D) (ci := 1) (v := .ref (q 3)) (C := RX1) (T := TX1) (N := 7) hx hb hts hin_1 hown hK hP 0 rfl rfl 5 (by decide) lk_17 (fun _ h9 => h9) rfl dX1_eightBytes_31 ?_
      refine lv_iload_n hx hb dX1_eightBytes_34 rfl (lv_at hl 0 rfl) ?_
      refine lv_iconst (v := (nI (1))) hx hb dX1_eightBytes_35 (by decide) ?_
      refine lv_iadd hx hb dX1_eightBytes_36 ?_
      refine kp_i (nI_add _ _) ?_
      refine kb_iald hx hb hK hP 3 1 rfl rfl (((k * 8) + (2 * j)) + 1) (rfl) (by omega) (by decide) dX1_eightBytes_37 ?_
      refine lv_i2l hx hb dX1_eightBytes_38 rfl ?_
      refine lv_ldc2 (v := 4294967295) hx hb hown (hts (.constantLong RX1 105 (4294967295)) (by decide +kernel)) dX1_eightBytes_39 ?_
      refine lv_land hx hb dX1_eightBytes_42 ?_
      refine lv_lor hx hb dX1_eightBytes_43 ?_
      exact kr_l (()) hx hb hr hlocks hK hP hD hS (e8_nd hj) dX1_eightBytes_44
    · refine lv_lconst (v := 0) hx hb dX1_eightBytes_9 (by decide) ?_
      exact kr_l (()) hx hb hr hlocks hK hP hD hS (by first | exact e8_hi c_6 | exact e8_lo c_1) dX1_eightBytes_10

set_option maxHeartbeats 4000000 in
set_option maxRecDepth 100000 in
theorem c_rootLevel (l : Launch) (D : va_G) (A : Nat → Prop) (q : Nat → Nat) (cB cI : ClassId) (tl lv lb ln : Nat) (tp : Nat → Int32) (ll : Nat → Nat) (id ms sc st : Nat → Int32) (h1 : lv ≤ 100) : Ki (S := Unit) l yX1_rootLevel wsX1_rootLevel { frames := 1, cells := 0, slots := 0, locals := 20 } D vwCl [(cB, .byte), (cI, .int)] A (zk q) [.ref (q 0)] (wk q cB cI tl lv lb ln tp ll id ms sc st) (fun r _ => r = (nI (rl lv))) (fun _ => (wk q cB cI tl lv lb ln tp ll id ms sc st)) := by
  refine Met.ofW (cc := cX1_rootLevel) (maxL := 3) (ret := (some .int)) (by decide) rfl ?_
  intro p e s m args below meth c s₁ B hml hv
  obtain ⟨rfl, hP, hK, hD, hZ⟩ := hv
  have hx := B.exec
  have hb := B.bytes
  have hr := B.returns
  have hts := atoms_spec (ws := wsX1_rootLevel) B.pre
  have hown : s.vm.findClass RX1 = some m.cls := findClass_of_methodNamed B.named
  have hlocks := B.notSynchronized
  have hS : va_S A s.heap s.heap [] := va_S.rf
  have hin_1 : ∀ w ∈ u_ws RX1 TX1 7, w ∈ wsX1_rootLevel := by decide +kernel
  have lk_31 := hts (.fieldLink RX1 31 "RootDesk" "leaves" "I") (by decide +kernel)
  have hl := lv_entry ([.ref (q 0)]) (n := 3) (Nat.le_of_ble_eq_true rfl)
  rw [lg_entry_eq]
  generalize (lg_sl ([.ref (q 0)]) ++ List.replicate (3 - (lg_sl ([.ref (q 0)])).length) Slot.unset).toArray = ls at hl ⊢
  have hl : lv_has ls 3 [(0, .ref (q 0))] := hl
  refine lv_iconst (v := (nI (0))) hx hb dX1_rootLevel_0 (by decide) ?_
  refine lv_istore_n (lv' := [(1, .int (nI 0)), (0, .ref (q 0))]) hx hb dX1_rootLevel_1 rfl hl (by decide) rfl (fun ls hl => ?_)
  refine lv_aload_n hx hb dX1_rootLevel_2 rfl (lv_at hl 1 rfl) ?_
  refine va_get (D := D) (ci := 1) (v := .int (nI lv)) (C := RX1) (T := TX1) (N := 7) hx hb hts hin_1 hown hK hP 0 rfl rfl 3 (by decide) lk_31 (fun _ h9 => h9) rfl dX1_rootLevel_3 ?_
  refine lv_istore_n (lv' := [(2, .int (nI lv)), (1, .int (nI 0)), (0, .ref (q 0))]) hx hb dX1_rootLevel_6 rfl hl (by decide) rfl (fun ls hl => ?_)
  refine kp_lp (hd := 7) (nn := rl lv) (fun (i : Nat) (H : Heap) (locs : List Loc) (ls : Array Slot) => va_P D vwCl (wk q cB cI tl lv lb ln tp ll id ms sc st) H ∧ va_D A (wk q cB cI tl lv lb ln tp ll id ms sc st) ∧ va_S A s.heap H locs ∧ lv_has ls 3 [(0, .ref (q 0)), (1, .int (nI i)), (2, .int (nI (wdl lv i)))]) ?_ 0 (by omega) _ _ _ ⟨hP, hD, hS, (lv_sub hl [2, 1, 0] rfl)⟩
  intro i hiN H locs ls hI ih
  obtain ⟨hP, hD, hS, hl⟩ := hI
  have hwi := wdl_le lv i
  have hr8 := rl_lt lv
  refine lv_iload_n hx hb dX1_rootLevel_7 rfl (lv_at hl 2 rfl) ?_
  refine lv_iconst (v := (nI (1))) hx hb dX1_rootLevel_8 (by decide) ?_
  refine lv_icmp_le (tgt := 31) hx hb dX1_rootLevel_9 (by decide) (fun c_9 => ?_) (fun c_9 => ?_)
  · have c_9 : (wdl lv i) ≤ 1 := kn_le c_9 (by omega) (by omega)
    have e9 : rl lv = i := (rl_at (by omega) hiN c_9).symm
    subst e9
    refine lv_iload_n hx hb dX1_rootLevel_31 rfl (lv_at hl 1 rfl) ?_
    exact kr_i (()) hx hb hr hlocks hK hP hD hS (rfl) dX1_rootLevel_32
  · have c_9 : 1 < (wdl lv i) := kn_nle c_9 (by omega) (by omega)
    have hlt : i < rl lv := rl_nat (by omega) hiN c_9
    refine lv_iload_n hx hb dX1_rootLevel_12 rfl (lv_at hl 1 rfl) ?_
    refine lv_iconst (v := (nI (1))) hx hb dX1_rootLevel_13 (by decide) ?_
    refine lv_iadd hx hb dX1_rootLevel_14 ?_
    refine kp_i (nI_add _ _) ?_
    refine lv_bipush (v := (nI (8))) hx hb dX1_rootLevel_15 (by decide) ?_
    refine lv_icmp_ge (tgt := 31) hx hb dX1_rootLevel_17 (by decide) (fun c_17 => absurd (kn_le c_17 (by omega) (by omega)) (by omega)) (fun c_17 => ?_)
    have c_17 : (i + 1) < 8 := kn_nle c_17 (by omega) (by omega)
    refine lv_iload_n hx hb dX1_rootLevel_20 rfl (lv_at hl 2 rfl) ?_
    refine kcs_i (As := [.int (nI (wdl lv i))]) (rest := []) ⟨hx, hb, hml, hown, hts⟩ (c_widthAbove l D A q cB cI (wk q cB cI tl lv lb ln tp ll id ms sc st) (wdl lv i) (by omega)) (cwS 1 hts gX1_rootLevel_X1_widthAbove rfl rfl rfl (by decide +kernel) ⟨Nat.le_of_ble_eq_true rfl, Nat.le_of_ble_eq_true rfl⟩) hK hP hD hS hZ rfl hl.1 rfl (Nat.le_of_ble_eq_true rfl) ⟨Nat.zero_le _, Nat.zero_le _⟩ dX1_rootLevel_21 (fun r_1 _ H locs hw hP hD hS => ?_)
    have hw : r_1 = (nI (((wdl lv i) + 1) / 2)) := hw
    subst hw
    have hP : va_P D vwCl (wk q cB cI tl lv lb ln tp ll id ms sc st) H := hP
    have hD : va_D A (wk q cB cI tl lv lb ln tp ll id ms sc st) := hD
    refine lv_istore_n (lv' := [(2, .int (nI (((wdl lv i) + 1) / 2))), (0, .ref (q 0)), (1, .int (nI i))]) hx hb dX1_rootLevel_24 rfl hl (by decide) rfl (fun ls hl => ?_)
    refine lv_iinc (v := (nI (i + 1))) (lv' := [(1, .int (nI (i + 1))), (2, .int (nI (((wdl lv i) + 1) / 2))), (0, .ref (q 0))]) hx hb dX1_rootLevel_25 hl (k := 2) rfl (kn_inc _ _ 1 rfl) (by decide) rfl (fun ls hl => ?_)
    refine lv_goto (tgt := 7) hx hb dX1_rootLevel_28 (by decide) ?_
    exact ih hlt _ _ _ ⟨hP, hD, hS, (lv_sub hl [2, 0, 1] rfl)⟩

set_option maxHeartbeats 4000000 in
set_option maxRecDepth 100000 in
theorem c_copyId (l : Launch) (D : va_G) (A : Nat → Prop) (q : Nat → Nat) (cB cI : ClassId) (tl lv lb ln : Nat) (tp : Nat → Int32) (ll : Nat → Nat) (id ms sc st : Nat → Int32) (f : Nat) (t : Nat) (h1 : f < 203) (h2 : t < 203) (h3 : f ≠ t) : Kv (S := Unit) l yX1_copyId wsX1_copyId { frames := 0, cells := 0, slots := 0, locals := 0 } D vwCl [(cB, .byte), (cI, .int)] A (zk q) [.ref (q 0), .int (nI f), .int (nI t)] (wk q cB cI tl lv lb ln tp ll id ms sc st) (fun _ => True) (fun _ => (wk q cB cI tl lv lb ln tp ll (pn id t (nd id f)) ms sc st)) := by
  refine Met.ofW (cc := cX1_copyId) (maxL := 4) (ret := none) (by decide) rfl ?_
  intro p e s m args below meth c s₁ B hml hv
  obtain ⟨rfl, hP, hK, hD, hZ⟩ := hv
  have hx := B.exec
  have hb := B.bytes
  have hr := B.returns
  have hts := atoms_spec (ws := wsX1_copyId) B.pre
  have hown : s.vm.findClass RX1 = some m.cls := findClass_of_methodNamed B.named
  have hlocks := B.notSynchronized
  have hS : va_S A s.heap s.heap [] := va_S.rf
  have hin_1 : ∀ w ∈ u_ws RX1 TX1 7, w ∈ wsX1_copyId := by decide +kernel
  have lk_17 := hts (.fieldLink RX1 17 "RootDesk" "ids" "[I") (by decide +kernel)
  have hl := lv_entry ([.ref (q 0), .int (nI f), .int (nI t)]) (n := 4) (Nat.le_of_ble_eq_true rfl)
  rw [lg_entry_eq]
  generalize (lg_sl ([.ref (q 0), .int (nI f), .int (nI t)]) ++ List.replicate (4 - (lg_sl ([.ref (q 0), .int (nI f), .int (nI t)])).length) Slot.unset).toArray = ls at hl ⊢
  have hl : lv_has ls 4 [(0, .ref (q 0)), (1, .int (nI f)), (2, .int (nI t))] := hl
  rw [← cat_0 id (t * 8) (nd id f)] at hP hD
  refine lv_iconst (v := (nI (0))) hx hb dX1_copyId_0 (by decide) ?_
  refine lv_istore_n (lv' := [(3, .int (nI 0)), (0, .ref (q 0)), (1, .int (nI f)), (2, .int (nI t))]) hx hb dX1_copyId_1 rfl hl (by decide) rfl (fun ls hl => ?_)
  refine kp_lp (hd := 2) (nn := 8) (fun (i : Nat) (H : Heap) (locs : List Loc) (ls : Array Slot) => va_P D vwCl (wk q cB cI tl lv lb ln tp ll (cat id (t * 8) (nd id f) i) ms sc st) H ∧ va_D A (wk q cB cI tl lv lb ln tp ll (cat id (t * 8) (nd id f) i) ms sc st) ∧ va_S A s.heap H locs ∧ lv_has ls 4 [(0, .ref (q 0)), (1, .int (nI f)), (2, .int (nI t)), (3, .int (nI i))]) ?_ 0 (by omega) _ _ _ ⟨hP, hD, hS, (lv_sub hl [1, 2, 3, 0] rfl)⟩
  intro i hiN H locs ls hI ih
  obtain ⟨hP, hD, hS, hl⟩ := hI
  refine lv_iload_n hx hb dX1_copyId_2 rfl (lv_at hl 3 rfl) ?_
  refine lv_bipush (v := (nI (8))) hx hb dX1_copyId_3 (by decide) ?_
  refine lv_icmp_ge (tgt := 36) hx hb dX1_copyId_5 (by decide) (fun c_5 => ?_) (fun c_5 => ?_)
  · have c_5 : 8 ≤ i := kn_le c_5 (by omega) (by omega)
    have e9 : 8 = i := by omega
    subst e9
    exact kr_v (()) hx hb hr hlocks hK hP hD hS (trivial) dX1_copyId_36
  · have c_5 : i < 8 := kn_nle c_5 (by omega) (by omega)
    have hlt : i < 8 := c_5
    refine lv_aload_n hx hb dX1_copyId_8 rfl (lv_at hl 0 rfl) ?_
    refine va_get (D := D) (ci := 1) (v := .ref (q 3)) (C := RX1) (T := TX1) (N := 7) hx hb hts hin_1 hown hK hP 0 rfl rfl 5 (by decide) lk_17 (fun _ h9 => h9) rfl dX1_copyId_9 ?_
    refine lv_iload_n hx hb dX1_copyId_12 rfl (lv_at hl 2 rfl) ?_
    refine lv_bipush (v := (nI (8))) hx hb dX1_copyId_13 (by decide) ?_
    refine lv_imul hx hb dX1_copyId_15 ?_
    refine kp_i (pk_mul _ _) ?_
    refine lv_iload_n hx hb dX1_copyId_16 rfl (lv_at hl 3 rfl) ?_
    refine lv_iadd hx hb dX1_copyId_17 ?_
    refine kp_i (nI_add _ _) ?_
    refine lv_aload_n hx hb dX1_copyId_18 rfl (lv_at hl 0 rfl) ?_
    refine va_get (D := D) (ci := 1) (v := .ref (q 3)) (C := RX1) (T := TX1) (N := 7) hx hb hts hin_1 hown hK hP 0 rfl rfl 5 (by decide) lk_17 (fun _ h9 => h9) rfl dX1_copyId_19 ?_
    refine lv_iload_n hx hb dX1_copyId_22 rfl (lv_at hl 1 rfl) ?_
    refine lv_bipush (v := (nI (8))) hx hb dX1_copyId_23 (by decide) ?_
    refine lv_imul hx hb dX1_copyId_25 ?_
    refine kp_i (pk_mul _ _) ?_
    refine lv_iload_n hx hb dX1_copyId_26 rfl (lv_at hl 3 rfl) ?_
    refine lv_iadd hx hb dX1_copyId_27 ?_
    refine kp_i (nI_add _ _) ?_
    refine kb_iald hx hb hK hP 3 1 rfl rfl ((f * 8) + i) (rfl) (by omega) (by decide) dX1_copyId_28 ?_
    refine kb_iast hx hb hK hP hD hS 3 1 rfl rfl ((t * 8) + i) (rfl) (by omega) (by decide) dX1_copyId_29 (fun H locs hP hD hS => ?_)
    have hP : va_P D vwCl (wk q cB cI tl lv lb ln tp ll (upd (cat id (t * 8) (nd id f) i) ((t * 8) + i) (((cat id (t * 8) (nd id f) i) ((f * 8) + i)))) ms sc st) H := hP
    have hD : va_D A (wk q cB cI tl lv lb ln tp ll (upd (cat id (t * 8) (nd id f) i) ((t * 8) + i) (((cat id (t * 8) (nd id f) i) ((f * 8) + i)))) ms sc st) := hD
    rw [cat_s _ _ _ _ (cp_at h3 hlt)] at hP hD
    have hP : va_P D vwCl (wk q cB cI tl lv lb ln tp ll (cat id (t * 8) (nd id f) (i + 1)) ms sc st) H := hP
    have hD : va_D A (wk q cB cI tl lv lb ln tp ll (cat id (t * 8) (nd id f) (i + 1)) ms sc st) := hD
    refine lv_iinc (v := (nI (i + 1))) (lv' := [(3, .int (nI (i + 1))), (0, .ref (q 0)), (1, .int (nI f)), (2, .int (nI t))]) hx hb dX1_copyId_30 hl (k := 3) rfl (kn_inc _ _ 1 rfl) (by decide) rfl (fun ls hl => ?_)
    refine lv_goto (tgt := 2) hx hb dX1_copyId_33 (by decide) ?_
    exact ih hlt _ _ _ ⟨hP, hD, hS, (lv_sub hl [1, 2, 3, 0] rfl)⟩

set_option maxHeartbeats 4000000 in
set_option maxRecDepth 100000 in
theorem c_sameIds (l : Launch) (D : va_G) (A : Nat → Prop) (q : Nat → Nat) (cB cI : ClassId) (tl lv lb ln : Nat) (tp : Nat → Int32) (ll : Nat → Nat) (id ms sc st : Nat → Int32) (f : Nat) (t : Nat) (h1 : f < 203) (h2 : t < 203) : Ki (S := Unit) l yX1_sameIds wsX1_sameIds { frames := 0, cells := 0, slots := 0, locals := 0 } D vwCl [(cB, .byte), (cI, .int)] A (zk q) [.ref (q 0), .int (nI f), .int (nI t)] (wk q cB cI tl lv lb ln tp ll id ms sc st) (fun r _ => r = (bz (sm (nd id f) (nd id t) 8))) (fun _ => (wk q cB cI tl lv lb ln tp ll id ms sc st)) := by
  refine Met.ofW (cc := cX1_sameIds) (maxL := 4) (ret := (some .boolean)) (by decide) rfl ?_
  intro p e s m args below meth c s₁ B hml hv
  obtain ⟨rfl, hP, hK, hD, hZ⟩ := hv
  have hx := B.exec
  have hb := B.bytes
  have hr := B.returns
  have hts := atoms_spec (ws := wsX1_sameIds) B.pre
  have hown : s.vm.findClass RX1 = some m.cls := findClass_of_methodNamed B.named
  have hlocks := B.notSynchronized
  have hS : va_S A s.heap s.heap [] := va_S.rf
  have hin_1 : ∀ w ∈ u_ws RX1 TX1 7, w ∈ wsX1_sameIds := by decide +kernel
  have lk_17 := hts (.fieldLink RX1 17 "RootDesk" "ids" "[I") (by decide +kernel)
  have hl := lv_entry ([.ref (q 0), .int (nI f), .int (nI t)]) (n := 4) (Nat.le_of_ble_eq_true rfl)
  rw [lg_entry_eq]
  generalize (lg_sl ([.ref (q 0), .int (nI f), .int (nI t)]) ++ List.replicate (4 - (lg_sl ([.ref (q 0), .int (nI f), .int (nI t)])).length) Slot.unset).toArray = ls at hl ⊢
  have hl : lv_has ls 4 [(0, .ref (q 0)), (1, .int (nI f)), (2, .int (nI t))] := hl
  refine lv_iconst (v := (nI (0))) hx hb dX1_sameIds_0 (by decide) ?_
  refine lv_istore_n (lv' := [(3, .int (nI 0)), (0, .ref (q 0)), (1, .int (nI f)), (2, .int (nI t))]) hx hb dX1_sameIds_1 rfl hl (by decide) rfl (fun ls hl => ?_)
  refine kp_lp (hd := 2) (nn := 8) (fun (i : Nat) (H : Heap) (locs : List Loc) (ls : Array Slot) => (sm (nd id f) (nd id t) i = true) ∧ va_P D vwCl (wk q cB cI tl lv lb ln tp ll id ms sc st) H ∧ va_D A (wk q cB cI tl lv lb ln tp ll id ms sc st) ∧ va_S A s.heap H locs ∧ lv_has ls 4 [(0, .ref (q 0)), (1, .int (nI f)), (2, .int (nI t)), (3, .int (nI i))]) ?_ 0 (by omega) _ _ _ ⟨rfl, hP, hD, hS, (lv_sub hl [1, 2, 3, 0] rfl)⟩
  intro i hiN H locs ls hI ih
  obtain ⟨hI_0, hP, hD, hS, hl⟩ := hI
  refine lv_iload_n hx hb dX1_sameIds_2 rfl (lv_at hl 3 rfl) ?_
  refine lv_bipush (v := (nI (8))) hx hb dX1_sameIds_3 (by decide) ?_
  refine lv_icmp_ge (tgt := 41) hx hb dX1_sameIds_5 (by decide) (fun c_5 => ?_) (fun c_5 => ?_)
  · have c_5 : 8 ≤ i := kn_le c_5 (by omega) (by omega)
    have e9 : 8 = i := by omega
    subst e9
    refine lv_iconst (v := ((1 : Int32))) hx hb dX1_sameIds_41 (by decide) ?_
    exact kr_z (()) hx hb hr hlocks hK hP hD hS (rfl) (by rw [hI_0]; rfl) dX1_sameIds_42
  · have c_5 : i < 8 := kn_nle c_5 (by omega) (by omega)
    have hlt : i < 8 := c_5
    refine lv_aload_n hx hb dX1_sameIds_8 rfl (lv_at hl 0 rfl) ?_
    refine va_get (D := D) (ci := 1) (v := .ref (q 3)) (C := RX1) (T := TX1) (N := 7) hx hb hts hin_1 hown hK hP 0 rfl rfl 5 (by decide) lk_17 (fun _ h9 => h9) rfl dX1_sameIds_9 ?_
    refine lv_iload_n hx hb dX1_sameIds_12 rfl (lv_at hl 1 rfl) ?_
    refine lv_bipush (v := (nI (8))) hx hb dX1_sameIds_13 (by decide) ?_
    refine lv_imul hx hb dX1_sameIds_15 ?_
    refine kp_i (pk_mul _ _) ?_
    refine lv_iload_n hx hb dX1_sameIds_16 rfl (lv_at hl 3 rfl) ?_
    refine lv_iadd hx hb dX1_sameIds_17 ?_
    refine kp_i (nI_add _ _) ?_
    refine kb_iald hx hb hK hP 3 1 rfl rfl ((f * 8) + i) (rfl) (by omega) (by decide) dX1_sameIds_18 ?_
    refine lv_aload_n hx hb dX1_sameIds_19 rfl (lv_at hl 0 rfl) ?_
    refine va_get (D := D) (ci := 1) (v := .ref (q 3)) (C := RX1) (T := TX1) (N := 7) hx hb hts hin_1 hown hK hP 0 rfl rfl 5 (by decide) lk_17 (fun _ h9 => h9) rfl dX1_sameIds_20 ?_
    refine lv_iload_n hx hb dX1_sameIds_23 rfl (lv_at hl 2 rfl) ?_
    refine lv_bipush (v := (nI (8))) hx hb dX1_sameIds_24 (by decide) ?_
    refine lv_imul hx hb dX1_sameIds_26 ?_
    refine kp_i (pk_mul _ _) ?_
    refine lv_iload_n hx hb dX1_sameIds_27 rfl (lv_at hl 3 rfl) ?_
    refine lv_iadd hx hb dX1_sameIds_28 ?_
    refine kp_i (nI_add _ _) ?_
    refine kb_iald hx hb hK hP 3 1 rfl rfl ((t * 8) + i) (rfl) (by omega) (by decide) dX1_sameIds_29 ?_
    refine lv_icmp_eq (tgt := 35) hx hb dX1_sameIds_30 (by decide) (fun c_30 => ?_) (fun c_30 => ?_)
    · refine lv_iinc (v := (nI (i + 1))) (lv' := [(3, .int (nI (i + 1))), (0, .ref (q 0)), (1, .int (nI f)), (2, .int (nI t))]) hx hb dX1_sameIds_35 hl (k := 3) rfl (kn_inc _ _ 1 rfl) (by decide) rfl (fun ls hl => ?_)
      refine lv_goto (tgt := 2) hx hb dX1_sameIds_38 (by decide) ?_
      exact ih hlt _ _ _ ⟨sm_s hI_0 c_30, hP, hD, hS, (lv_sub hl [1, 2, 3, 0] rfl)⟩
    · refine lv_iconst (v := ((0 : Int32))) hx hb dX1_sameIds_33 (by decide) ?_
      exact kr_z (()) hx hb hr hlocks hK hP hD hS (rfl) (sm_no hlt c_30) dX1_sameIds_34

set_option maxHeartbeats 4000000 in
set_option maxRecDepth 100000 in
theorem c_makeLeafId (l : Launch) (D : va_G) (A : Nat → Prop) (q : Nat → Nat) (cB cI : ClassId) (tl lv lb ln : Nat) (tp : Nat → Int32) (ll : Nat → Nat) (id ms sc st : Nat → Int32) (k : Nat) (h1 : k < 203) (h2 : tl ≤ 150) : Kv (S := (Nat × (Nat → Int32) × (Nat → Int32) × (Nat → Int32))) l yX1_makeLeafId wsX1_makeLeafId { frames := 3, cells := 0, slots := 0, locals := 78 } D vwCl [(cB, .byte), (cI, .int)] A (zk q) [.ref (q 0), .int (nI k)] (wk q cB cI tl lv lb ln tp ll id ms sc st) (fun _ => True) (fun u => (wk q cB cI tl lv lb u.1 tp ll (pn id k (lfh tp tl)) u.2.1 u.2.2.1 u.2.2.2)) := by
  refine Met.ofW (cc := cX1_makeLeafId) (maxL := 2) (ret := none) (by decide) rfl ?_
  intro p e s m args below meth c s₁ B hml hv
  obtain ⟨rfl, hP, hK, hD, hZ⟩ := hv
  have hx := B.exec
  have hb := B.bytes
  have hr := B.returns
  have hts := atoms_spec (ws := wsX1_makeLeafId) B.pre
  have hown : s.vm.findClass RX1 = some m.cls := findClass_of_methodNamed B.named
  have hlocks := B.notSynchronized
  have hS : va_S A s.heap s.heap [] := va_S.rf
  have hin_1 : ∀ w ∈ u_ws RX1 TX1 7, w ∈ wsX1_makeLeafId := by decide +kernel
  have lk_9 := hts (.fieldLink RX1 9 "RootDesk" "tape" "[B") (by decide +kernel)
  have lk_17 := hts (.fieldLink RX1 17 "RootDesk" "ids" "[I") (by decide +kernel)
  have lk_23 := hts (.fieldLink RX1 23 "RootDesk" "digest" "LRootDesk$Digest;") (by decide +kernel)
  have lk_27 := hts (.fieldLink RX1 27 "RootDesk" "tapeLength" "I") (by decide +kernel)
  have hl := lv_entry ([.ref (q 0), .int (nI k)]) (n := 2) (Nat.le_of_ble_eq_true rfl)
  rw [lg_entry_eq]
  generalize (lg_sl ([.ref (q 0), .int (nI k)]) ++ List.replicate (2 - (lg_sl ([.ref (q 0), .int (nI k)])).length) Slot.unset).toArray = ls at hl ⊢
  have hl : lv_has ls 2 [(0, .ref (q 0)), (1, .int (nI k))] := hl
  refine lv_aload_n hx hb dX1_makeLeafId_0 rfl (lv_at hl 0 rfl) ?_
  refine va_get (D := D) (ci := 1) (v := .ref (q 4)) (C := RX1) (T := TX1) (N := 7) hx hb hts hin_1 hown hK hP 0 rfl rfl 6 (by decide) lk_23 (fun _ h9 => h9) rfl dX1_makeLeafId_1 ?_
  refine kc_v (As := []) (rest := []) ⟨hx, hb, hml, hown, hts⟩ (c_D_begin l D A q cB cI tl lv lb ln tp ll id ms sc st) (cwV 0 hts gX1_makeLeafId_X0_begin rfl rfl rfl (by decide +kernel) ⟨Nat.le_of_ble_eq_true rfl, Nat.le_of_ble_eq_true rfl⟩) (va_recv hK hP (ci := 0) (q0 := 4) rfl rfl) hK hP hD hS hZ rfl hl.1 rfl (Nat.le_of_ble_eq_true rfl) ⟨Nat.zero_le _, Nat.zero_le _⟩ dX1_makeLeafId_4 (fun _ H locs _ hP hD hS => ?_)
  have hP : va_P D vwCl (wk q cB cI tl lv lb 0 tp ll id ms sc st) H := hP
  have hD : va_D A (wk q cB cI tl lv lb 0 tp ll id ms sc st) := hD
  refine lv_aload_n hx hb dX1_makeLeafId_7 rfl (lv_at hl 0 rfl) ?_
  refine va_get (D := D) (ci := 1) (v := .ref (q 4)) (C := RX1) (T := TX1) (N := 7) hx hb hts hin_1 hown hK hP 0 rfl rfl 6 (by decide) lk_23 (fun _ h9 => h9) rfl dX1_makeLeafId_8 ?_
  refine lv_iconst (v := ((0 : Int32))) hx hb dX1_makeLeafId_11 (by decide) ?_
  refine kc_v (As := [.int ((0 : Int32))]) (rest := []) ⟨hx, hb, hml, hown, hts⟩ (c_D_takeByte l D A q cB cI tl lv lb 0 tp ll id ms sc st (((0 : Int32))) (by omega)) (cwV 1 hts gX1_makeLeafId_X0_takeByte rfl rfl rfl (by decide +kernel) ⟨Nat.le_of_ble_eq_true rfl, Nat.le_of_ble_eq_true rfl⟩) (va_recv hK hP (ci := 0) (q0 := 4) rfl rfl) hK hP hD hS hZ rfl hl.1 rfl (Nat.le_of_ble_eq_true rfl) ⟨Nat.zero_le _, Nat.zero_le _⟩ dX1_makeLeafId_12 (fun _ H locs _ hP hD hS => ?_)
  have hP : va_P D vwCl (wk q cB cI tl lv lb (0 + 1) tp ll id (upd ms 0 ((((0 : Int32))).toInt8.toInt32)) sc st) H := hP
  have hD : va_D A (wk q cB cI tl lv lb (0 + 1) tp ll id (upd ms 0 ((((0 : Int32))).toInt8.toInt32)) sc st) := hD
  refine lv_aload_n hx hb dX1_makeLeafId_15 rfl (lv_at hl 0 rfl) ?_
  refine va_get (D := D) (ci := 1) (v := .ref (q 4)) (C := RX1) (T := TX1) (N := 7) hx hb hts hin_1 hown hK hP 0 rfl rfl 6 (by decide) lk_23 (fun _ h9 => h9) rfl dX1_makeLeafId_16 ?_
  refine lv_aload_n hx hb dX1_makeLeafId_19 rfl (lv_at hl 0 rfl) ?_
  refine va_get (D := D) (ci := 1) (v := .ref (q 1)) (C := RX1) (T := TX1) (N := 7) hx hb hts hin_1 hown hK hP 0 rfl rfl 0 (by decide) lk_9 (fun _ h9 => h9) rfl dX1_makeLeafId_20 ?_
  refine lv_aload_n hx hb dX1_makeLeafId_23 rfl (lv_at hl 0 rfl) ?_
  refine va_get (D := D) (ci := 1) (v := .int (nI tl)) (C := RX1) (T := TX1) (N := 7) hx hb hts hin_1 hown hK hP 0 rfl rfl 1 (by decide) lk_27 (fun _ h9 => h9) rfl dX1_makeLeafId_24 ?_
  refine kc_v (As := [.ref (q 1), .int (nI tl)]) (rest := []) ⟨hx, hb, hml, hown, hts⟩ (c_D_takeBytes l D A q cB cI tl lv lb (0 + 1) tp ll id (upd ms 0 ((((0 : Int32))).toInt8.toInt32)) sc st tl (by omega) (by omega)) (cwV 2 hts gX1_makeLeafId_X0_takeBytes rfl rfl rfl (by decide +kernel) ⟨Nat.le_of_ble_eq_true rfl, Nat.le_of_ble_eq_true rfl⟩) (va_recv hK hP (ci := 0) (q0 := 4) rfl rfl) hK hP hD hS hZ rfl hl.1 rfl (Nat.le_of_ble_eq_true rfl) ⟨Nat.zero_le _, Nat.zero_le _⟩ dX1_makeLeafId_27 (fun _ H locs _ hP hD hS => ?_)
  have hP : va_P D vwCl (wk q cB cI tl lv lb ((0 + 1) + tl) tp ll id (cat (upd ms 0 ((((0 : Int32))).toInt8.toInt32)) (0 + 1) (fun j => (tp j).toInt8.toInt32) tl) sc st) H := hP
  have hD : va_D A (wk q cB cI tl lv lb ((0 + 1) + tl) tp ll id (cat (upd ms 0 ((((0 : Int32))).toInt8.toInt32)) (0 + 1) (fun j => (tp j).toInt8.toInt32) tl) sc st) := hD
  refine lv_aload_n hx hb dX1_makeLeafId_30 rfl (lv_at hl 0 rfl) ?_
  refine va_get (D := D) (ci := 1) (v := .ref (q 4)) (C := RX1) (T := TX1) (N := 7) hx hb hts hin_1 hown hK hP 0 rfl rfl 6 (by decide) lk_23 (fun _ h9 => h9) rfl dX1_makeLeafId_31 ?_
  refine lv_aload_n hx hb dX1_makeLeafId_34 rfl (lv_at hl 0 rfl) ?_
  refine va_get (D := D) (ci := 1) (v := .ref (q 3)) (C := RX1) (T := TX1) (N := 7) hx hb hts hin_1 hown hK hP 0 rfl rfl 5 (by decide) lk_17 (fun _ h9 => h9) rfl dX1_makeLeafId_35 ?_
  refine lv_iload_n hx hb dX1_makeLeafId_38 rfl (lv_at hl 1 rfl) ?_
  refine lv_bipush (v := (nI (8))) hx hb dX1_makeLeafId_39 (by decide) ?_
  refine lv_imul hx hb dX1_makeLeafId_41 ?_
  refine kp_i (pk_mul _ _) ?_
  refine kc_v (As := [.ref (q 3), .int (nI (k * 8))]) (rest := []) ⟨hx, hb, hml, hown, hts⟩ (c_D_finishInto l D A q cB cI tl lv lb ((0 + 1) + tl) tp ll id (cat (upd ms 0 ((((0 : Int32))).toInt8.toInt32)) (0 + 1) (fun j => (tp j).toInt8.toInt32) tl) sc st (k * 8) (by omega) (pl_fit (by omega))) (cwV 2 hts gX1_makeLeafId_X0_finishInto rfl rfl rfl (by decide +kernel) ⟨Nat.le_of_ble_eq_true rfl, Nat.le_of_ble_eq_true rfl⟩) (va_recv hK hP (ci := 0) (q0 := 4) rfl rfl) hK hP hD hS hZ rfl hl.1 rfl (Nat.le_of_ble_eq_true rfl) ⟨Nat.zero_le _, Nat.zero_le _⟩ dX1_makeLeafId_42 (fun u_4 H locs _ hP hD hS => ?_)
  have hP : va_P D vwCl (wk q cB cI tl lv lb u_4.1 tp ll (cat id (k * 8) (hm (cat (upd ms 0 ((((0 : Int32))).toInt8.toInt32)) (0 + 1) (fun j => (tp j).toInt8.toInt32) tl) ((0 + 1) + tl)) 8) u_4.2.1 u_4.2.2.1 u_4.2.2.2) H := hP
  have hD : va_D A (wk q cB cI tl lv lb u_4.1 tp ll (cat id (k * 8) (hm (cat (upd ms 0 ((((0 : Int32))).toInt8.toInt32)) (0 + 1) (fun j => (tp j).toInt8.toInt32) tl) ((0 + 1) + tl)) 8) u_4.2.1 u_4.2.2.1 u_4.2.2.2) := hD
  rw [leaf_eq] at hP hD
  have hP : va_P D vwCl (wk q cB cI tl lv lb u_4.1 tp ll (pn id k (lfh tp tl)) u_4.2.1 u_4.2.2.1 u_4.2.2.2) H := hP
  have hD : va_D A (wk q cB cI tl lv lb u_4.1 tp ll (pn id k (lfh tp tl)) u_4.2.1 u_4.2.2.1 u_4.2.2.2) := hD
  exact kr_v (u_4) hx hb hr hlocks hK hP hD hS (trivial) dX1_makeLeafId_45

set_option maxHeartbeats 4000000 in
set_option maxRecDepth 100000 in
theorem c_join (l : Launch) (D : va_G) (A : Nat → Prop) (q : Nat → Nat) (cB cI : ClassId) (tl lv lb ln : Nat) (tp : Nat → Int32) (ll : Nat → Nat) (id ms sc st : Nat → Int32) (a : Nat) (b : Nat) (k : Nat) (h1 : a < 203) (h2 : b < 203) (h3 : k < 203) : Kv (S := (Nat × (Nat → Int32) × (Nat → Int32) × (Nat → Int32))) l yX1_join wsX1_join { frames := 3, cells := 0, slots := 0, locals := 78 } D vwCl [(cB, .byte), (cI, .int)] A (zk q) [.ref (q 0), .int (nI a), .int (nI b), .int (nI k)] (wk q cB cI tl lv lb ln tp ll id ms sc st) (fun _ => True) (fun u => (wk q cB cI tl lv lb u.1 tp ll (pn id k (ndh (nd id a) (nd id b))) u.2.1 u.2.2.1 u.2.2.2)) := by
  refine Met.ofW (cc := cX1_join) (maxL := 4) (ret := none) (by decide) rfl ?_
  intro p e s m args below meth c s₁ B hml hv
  obtain ⟨rfl, hP, hK, hD, hZ⟩ := hv
  have hx := B.exec
  have hb := B.bytes
  have hr := B.returns
  have hts := atoms_spec (ws := wsX1_join) B.pre
  have hown : s.vm.findClass RX1 = some m.cls := findClass_of_methodNamed B.named
  have hlocks := B.notSynchronized
  have hS : va_S A s.heap s.heap [] := va_S.rf
  have hin_1 : ∀ w ∈ u_ws RX1 TX1 7, w ∈ wsX1_join := by decide +kernel
  have lk_17 := hts (.fieldLink RX1 17 "RootDesk" "ids" "[I") (by decide +kernel)
  have lk_23 := hts (.fieldLink RX1 23 "RootDesk" "digest" "LRootDesk$Digest;") (by decide +kernel)
  have hl := lv_entry ([.ref (q 0), .int (nI a), .int (nI b), .int (nI k)]) (n := 4) (Nat.le_of_ble_eq_true rfl)
  rw [lg_entry_eq]
  generalize (lg_sl ([.ref (q 0), .int (nI a), .int (nI b), .int (nI k)]) ++ List.replicate (4 - (lg_sl ([.ref (q 0), .int (nI a), .int (nI b), .int (nI k)])).length) Slot.unset).toArray = ls at hl ⊢
  have hl : lv_has ls 4 [(0, .ref (q 0)), (1, .int (nI a)), (2, .int (nI b)), (3, .int (nI k))] := hl
  refine lv_aload_n hx hb dX1_join_0 rfl (lv_at hl 0 rfl) ?_
  refine va_get (D := D) (ci := 1) (v := .ref (q 4)) (C := RX1) (T := TX1) (N := 7) hx hb hts hin_1 hown hK hP 0 rfl rfl 6 (by decide) lk_23 (fun _ h9 => h9) rfl dX1_join_1 ?_
  refine kc_v (As := []) (rest := []) ⟨hx, hb, hml, hown, hts⟩ (c_D_begin l D A q cB cI tl lv lb ln tp ll id ms sc st) (cwV 0 hts gX1_join_X0_begin rfl rfl rfl (by decide +kernel) ⟨Nat.le_of_ble_eq_true rfl, Nat.le_of_ble_eq_true rfl⟩) (va_recv hK hP (ci := 0) (q0 := 4) rfl rfl) hK hP hD hS hZ rfl hl.1 rfl (Nat.le_of_ble_eq_true rfl) ⟨Nat.zero_le _, Nat.zero_le _⟩ dX1_join_4 (fun _ H locs _ hP hD hS => ?_)
  have hP : va_P D vwCl (wk q cB cI tl lv lb 0 tp ll id ms sc st) H := hP
  have hD : va_D A (wk q cB cI tl lv lb 0 tp ll id ms sc st) := hD
  refine lv_aload_n hx hb dX1_join_7 rfl (lv_at hl 0 rfl) ?_
  refine va_get (D := D) (ci := 1) (v := .ref (q 4)) (C := RX1) (T := TX1) (N := 7) hx hb hts hin_1 hown hK hP 0 rfl rfl 6 (by decide) lk_23 (fun _ h9 => h9) rfl dX1_join_8 ?_
  refine lv_iconst (v := ((1 : Int32))) hx hb dX1_join_11 (by decide) ?_
  refine kc_v (As := [.int ((1 : Int32))]) (rest := []) ⟨hx, hb, hml, hown, hts⟩ (c_D_takeByte l D A q cB cI tl lv lb 0 tp ll id ms sc st (((1 : Int32))) (by omega)) (cwV 1 hts gX1_join_X0_takeByte rfl rfl rfl (by decide +kernel) ⟨Nat.le_of_ble_eq_true rfl, Nat.le_of_ble_eq_true rfl⟩) (va_recv hK hP (ci := 0) (q0 := 4) rfl rfl) hK hP hD hS hZ rfl hl.1 rfl (Nat.le_of_ble_eq_true rfl) ⟨Nat.zero_le _, Nat.zero_le _⟩ dX1_join_12 (fun _ H locs _ hP hD hS => ?_)
  have hP : va_P D vwCl (wk q cB cI tl lv lb (0 + 1) tp ll id (upd ms 0 ((((1 : Int32))).toInt8.toInt32)) sc st) H := hP
  have hD : va_D A (wk q cB cI tl lv lb (0 + 1) tp ll id (upd ms 0 ((((1 : Int32))).toInt8.toInt32)) sc st) := hD
  refine lv_aload_n hx hb dX1_join_15 rfl (lv_at hl 0 rfl) ?_
  refine va_get (D := D) (ci := 1) (v := .ref (q 4)) (C := RX1) (T := TX1) (N := 7) hx hb hts hin_1 hown hK hP 0 rfl rfl 6 (by decide) lk_23 (fun _ h9 => h9) rfl dX1_join_16 ?_
  refine lv_aload_n hx hb dX1_join_19 rfl (lv_at hl 0 rfl) ?_
  refine va_get (D := D) (ci := 1) (v := .ref (q 3)) (C := RX1) (T := TX1) (N := 7) hx hb hts hin_1 hown hK hP 0 rfl rfl 5 (by decide) lk_17 (fun _ h9 => h9) rfl dX1_join_20 ?_
  refine lv_iload_n hx hb dX1_join_23 rfl (lv_at hl 1 rfl) ?_
  refine lv_bipush (v := (nI (8))) hx hb dX1_join_24 (by decide) ?_
  refine lv_imul hx hb dX1_join_26 ?_
  refine kp_i (pk_mul _ _) ?_
  refine kc_v (As := [.ref (q 3), .int (nI (a * 8))]) (rest := []) ⟨hx, hb, hml, hown, hts⟩ (c_D_takeId l D A q cB cI tl lv lb (0 + 1) tp ll id (upd ms 0 ((((1 : Int32))).toInt8.toInt32)) sc st (a * 8) (by omega) (by omega)) (cwV 2 hts gX1_join_X0_takeId rfl rfl rfl (by decide +kernel) ⟨Nat.le_of_ble_eq_true rfl, Nat.le_of_ble_eq_true rfl⟩) (va_recv hK hP (ci := 0) (q0 := 4) rfl rfl) hK hP hD hS hZ rfl hl.1 rfl (Nat.le_of_ble_eq_true rfl) ⟨Nat.zero_le _, Nat.zero_le _⟩ dX1_join_27 (fun _ H locs _ hP hD hS => ?_)
  have hP : va_P D vwCl (wk q cB cI tl lv lb ((0 + 1) + 32) tp ll id (cat (upd ms 0 ((((1 : Int32))).toInt8.toInt32)) (0 + 1) (fun j => wb (id ((a * 8) + j / 4)) (j % 4)) 32) sc st) H := hP
  have hD : va_D A (wk q cB cI tl lv lb ((0 + 1) + 32) tp ll id (cat (upd ms 0 ((((1 : Int32))).toInt8.toInt32)) (0 + 1) (fun j => wb (id ((a * 8) + j / 4)) (j % 4)) 32) sc st) := hD
  refine lv_aload_n hx hb dX1_join_30 rfl (lv_at hl 0 rfl) ?_
  refine va_get (D := D) (ci := 1) (v := .ref (q 4)) (C := RX1) (T := TX1) (N := 7) hx hb hts hin_1 hown hK hP 0 rfl rfl 6 (by decide) lk_23 (fun _ h9 => h9) rfl dX1_join_31 ?_
  refine lv_aload_n hx hb dX1_join_34 rfl (lv_at hl 0 rfl) ?_
  refine va_get (D := D) (ci := 1) (v := .ref (q 3)) (C := RX1) (T := TX1) (N := 7) hx hb hts hin_1 hown hK hP 0 rfl rfl 5 (by decide) lk_17 (fun _ h9 => h9) rfl dX1_join_35 ?_
  refine lv_iload_n hx hb dX1_join_38 rfl (lv_at hl 2 rfl) ?_
  refine lv_bipush (v := (nI (8))) hx hb dX1_join_39 (by decide) ?_
  refine lv_imul hx hb dX1_join_41 ?_
  refine kp_i (pk_mul _ _) ?_
  refine kc_v (As := [.ref (q 3), .int (nI (b * 8))]) (rest := []) ⟨hx, hb, hml, hown, hts⟩ (c_D_takeId l D A q cB cI tl lv lb ((0 + 1) + 32) tp ll id (cat (upd ms 0 ((((1 : Int32))).toInt8.toInt32)) (0 + 1) (fun j => wb (id ((a * 8) + j / 4)) (j % 4)) 32) sc st (b * 8) (by omega) (by omega)) (cwV 2 hts gX1_join_X0_takeId rfl rfl rfl (by decide +kernel) ⟨Nat.le_of_ble_eq_true rfl, Nat.le_of_ble_eq_true rfl⟩) (va_recv hK hP (ci := 0) (q0 := 4) rfl rfl) hK hP hD hS hZ rfl hl.1 rfl (Nat.le_of_ble_eq_true rfl) ⟨Nat.zero_le _, Nat.zero_le _⟩ dX1_join_42 (fun _ H locs _ hP hD hS => ?_)
  have hP : va_P D vwCl (wk q cB cI tl lv lb (((0 + 1) + 32) + 32) tp ll id (cat (cat (upd ms 0 ((((1 : Int32))).toInt8.toInt32)) (0 + 1) (fun j => wb (id ((a * 8) + j / 4)) (j % 4)) 32) ((0 + 1) + 32) (fun j => wb (id ((b * 8) + j / 4)) (j % 4)) 32) sc st) H := hP
  have hD : va_D A (wk q cB cI tl lv lb (((0 + 1) + 32) + 32) tp ll id (cat (cat (upd ms 0 ((((1 : Int32))).toInt8.toInt32)) (0 + 1) (fun j => wb (id ((a * 8) + j / 4)) (j % 4)) 32) ((0 + 1) + 32) (fun j => wb (id ((b * 8) + j / 4)) (j % 4)) 32) sc st) := hD
  refine lv_aload_n hx hb dX1_join_45 rfl (lv_at hl 0 rfl) ?_
  refine va_get (D := D) (ci := 1) (v := .ref (q 4)) (C := RX1) (T := TX1) (N := 7) hx hb hts hin_1 hown hK hP 0 rfl rfl 6 (by decide) lk_23 (fun _ h9 => h9) rfl dX1_join_46 ?_
  refine lv_aload_n hx hb dX1_join_49 rfl (lv_at hl 0 rfl) ?_
  refine va_get (D := D) (ci := 1) (v := .ref (q 3)) (C := RX1) (T := TX1) (N := 7) hx hb hts hin_1 hown hK hP 0 rfl rfl 5 (by decide) lk_17 (fun _ h9 => h9) rfl dX1_join_50 ?_
  refine lv_iload_n hx hb dX1_join_53 rfl (lv_at hl 3 rfl) ?_
  refine lv_bipush (v := (nI (8))) hx hb dX1_join_54 (by decide) ?_
  refine lv_imul hx hb dX1_join_56 ?_
  refine kp_i (pk_mul _ _) ?_
  refine kc_v (As := [.ref (q 3), .int (nI (k * 8))]) (rest := []) ⟨hx, hb, hml, hown, hts⟩ (c_D_finishInto l D A q cB cI tl lv lb (((0 + 1) + 32) + 32) tp ll id (cat (cat (upd ms 0 ((((1 : Int32))).toInt8.toInt32)) (0 + 1) (fun j => wb (id ((a * 8) + j / 4)) (j % 4)) 32) ((0 + 1) + 32) (fun j => wb (id ((b * 8) + j / 4)) (j % 4)) 32) sc st (k * 8) (by omega) (by decide)) (cwV 2 hts gX1_join_X0_finishInto rfl rfl rfl (by decide +kernel) ⟨Nat.le_of_ble_eq_true rfl, Nat.le_of_ble_eq_true rfl⟩) (va_recv hK hP (ci := 0) (q0 := 4) rfl rfl) hK hP hD hS hZ rfl hl.1 rfl (Nat.le_of_ble_eq_true rfl) ⟨Nat.zero_le _, Nat.zero_le _⟩ dX1_join_57 (fun u_5 H locs _ hP hD hS => ?_)
  have hP : va_P D vwCl (wk q cB cI tl lv lb u_5.1 tp ll (cat id (k * 8) (hm (cat (cat (upd ms 0 ((((1 : Int32))).toInt8.toInt32)) (0 + 1) (fun j => wb (id ((a * 8) + j / 4)) (j % 4)) 32) ((0 + 1) + 32) (fun j => wb (id ((b * 8) + j / 4)) (j % 4)) 32) (((0 + 1) + 32) + 32)) 8) u_5.2.1 u_5.2.2.1 u_5.2.2.2) H := hP
  have hD : va_D A (wk q cB cI tl lv lb u_5.1 tp ll (cat id (k * 8) (hm (cat (cat (upd ms 0 ((((1 : Int32))).toInt8.toInt32)) (0 + 1) (fun j => wb (id ((a * 8) + j / 4)) (j % 4)) 32) ((0 + 1) + 32) (fun j => wb (id ((b * 8) + j / 4)) (j % 4)) 32) (((0 + 1) + 32) + 32)) 8) u_5.2.1 u_5.2.2.1 u_5.2.2.2) := hD
  rw [node_eq] at hP hD
  have hP : va_P D vwCl (wk q cB cI tl lv lb u_5.1 tp ll (pn id k (ndh (nd id a) (nd id b))) u_5.2.1 u_5.2.2.1 u_5.2.2.2) H := hP
  have hD : va_D A (wk q cB cI tl lv lb u_5.1 tp ll (pn id k (ndh (nd id a) (nd id b))) u_5.2.1 u_5.2.2.1 u_5.2.2.2) := hD
  exact kr_v (u_5) hx hb hr hlocks hK hP hD hS (trivial) dX1_join_60
