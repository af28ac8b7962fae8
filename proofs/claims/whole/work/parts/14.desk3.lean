set_option maxHeartbeats 4000000 in
set_option maxRecDepth 100000 in
theorem c_put_y (l : Launch) (D : va_G) (A : Nat → Prop) (q : Nat → Nat) (cB cI : ClassId) (tl lv lb ln : Nat) (tp : Nat → Int32) (ll : Nat → Nat) (id ms sc st : Nat → Int32) (v : Int64) (n : Nat) (h1 : 1 ≤ n) (h2 : n ≤ 8) (h3 : tl + n ≤ 150) : Ki (S := Unit) l yX1_put wsX1_put { frames := 0, cells := 0, slots := 0, locals := 0 } D vwCl [(cB, .byte), (cI, .int)] A (zk q) [.ref (q 0), .long v, .int (nI n)] (wk q cB cI tl lv lb ln tp ll id ms sc st) (fun r _ => r = ((1 : Int32))) (fun _ => (wk q cB cI (tl + n) lv lb ln (cat tp tl (pb v n) n) ll id ms sc st)) := by
  refine Met.ofW (cc := cX1_put) (maxL := 5) (ret := (some .boolean)) (by decide) rfl ?_
  intro p e s m args below meth c s₁ B hml hv
  obtain ⟨rfl, hP, hK, hD, hZ⟩ := hv
  have hx := B.exec
  have hb := B.bytes
  have hr := B.returns
  have hts := atoms_spec (ws := wsX1_put) B.pre
  have hown : s.vm.findClass RX1 = some m.cls := findClass_of_methodNamed B.named
  have hlocks := B.notSynchronized
  have hS : va_S A s.heap s.heap [] := va_S.rf
  have hin_1 : ∀ w ∈ u_ws RX1 TX1 7, w ∈ wsX1_put := by decide +kernel
  have lk_9 := hts (.fieldLink RX1 9 "RootDesk" "tape" "[B") (by decide +kernel)
  have lk_27 := hts (.fieldLink RX1 27 "RootDesk" "tapeLength" "I") (by decide +kernel)
  have hl := lv_entry ([.ref (q 0), .long v, .int (nI n)]) (n := 5) (Nat.le_of_ble_eq_true rfl)
  rw [lg_entry_eq]
  generalize (lg_sl ([.ref (q 0), .long v, .int (nI n)]) ++ List.replicate (5 - (lg_sl ([.ref (q 0), .long v, .int (nI n)])).length) Slot.unset).toArray = ls at hl ⊢
  have hl : lv_has ls 5 [(0, .ref (q 0)), (1, .long v), (3, .int (nI n))] := hl
  rw [← cat_0 tp tl (pb v n)] at hP hD
  refine lv_iload_n hx hb dX1_put_0 rfl (lv_at hl 2 rfl) ?_
  refine lv_iconst (v := (nI (1))) hx hb dX1_put_1 (by decide) ?_
  refine lv_icmp_lt (tgt := 23) hx hb dX1_put_2 (by decide) (fun c_2 => absurd (kn_lt c_2 (by omega) (by omega)) (by omega)) (fun c_2 => ?_)
  have c_2 : 1 ≤ n := kn_nlt c_2 (by omega) (by omega)
  refine lv_iload_n hx hb dX1_put_5 rfl (lv_at hl 2 rfl) ?_
  refine lv_bipush (v := (nI (8))) hx hb dX1_put_6 (by decide) ?_
  refine lv_icmp_gt (tgt := 23) hx hb dX1_put_8 (by decide) (fun c_8 => absurd (kn_lt c_8 (by omega) (by omega)) (by omega)) (fun c_8 => ?_)
  have c_8 : n ≤ 8 := kn_nlt c_8 (by omega) (by omega)
  refine lv_aload_n hx hb dX1_put_11 rfl (lv_at hl 0 rfl) ?_
  refine va_get (D := D) (ci := 1) (v := .int (nI tl)) (C := RX1) (T := TX1) (N := 7) hx hb hts hin_1 hown hK hP 0 rfl rfl 1 (by decide) lk_27 (fun _ h9 => h9) rfl dX1_put_12 ?_
  refine lv_iload_n hx hb dX1_put_15 rfl (lv_at hl 2 rfl) ?_
  refine lv_iadd hx hb dX1_put_16 ?_
  refine kp_i (nI_add _ _) ?_
  refine lv_sipush (v := (nI (150))) hx hb dX1_put_17 (by decide) ?_
  refine lv_icmp_le (tgt := 25) hx hb dX1_put_20 (by decide) (fun c_20 => ?_) (fun c_20 => absurd (kn_nle c_20 (by omega) (by omega)) (by omega))
  have c_20 : (tl + n) ≤ 150 := kn_le c_20 (by omega) (by omega)
  refine lv_iconst (v := (nI (0))) hx hb dX1_put_25 (by decide) ?_
  refine lv_istore (lv' := [(4, .int (nI 0)), (0, .ref (q 0)), (1, .long v), (3, .int (nI n))]) hx hb dX1_put_26 hl (by decide) rfl (fun ls hl => ?_)
  refine kp_lp (hd := 28) (nn := n) (fun (i : Nat) (H : Heap) (locs : List Loc) (ls : Array Slot) => va_P D vwCl (wk q cB cI tl lv lb ln (cat tp tl (pb v n) i) ll id ms sc st) H ∧ va_D A (wk q cB cI tl lv lb ln (cat tp tl (pb v n) i) ll id ms sc st) ∧ va_S A s.heap H locs ∧ lv_has ls 5 [(0, .ref (q 0)), (1, .long v), (3, .int (nI n)), (4, .int (nI i))]) ?_ 0 (by omega) _ _ _ ⟨hP, hD, hS, (lv_sub hl [1, 2, 3, 0] rfl)⟩
  intro i hiN H locs ls hI ih
  obtain ⟨hP, hD, hS, hl⟩ := hI
  refine lv_iload hx hb dX1_put_28 (lv_at hl 3 rfl) ?_
  refine lv_iload_n hx hb dX1_put_30 rfl (lv_at hl 2 rfl) ?_
  refine lv_icmp_ge (tgt := 65) hx hb dX1_put_31 (by decide) (fun c_31 => ?_) (fun c_31 => ?_)
  · have c_31 : n ≤ i := kn_le c_31 (by omega) (by omega)
    have e9 : n = i := by omega
    subst e9
    refine lv_aload_n hx hb dX1_put_65 rfl (lv_at hl 0 rfl) ?_
    refine lv_dup hx hb dX1_put_66 rfl ?_
    refine va_get (D := D) (ci := 1) (v := .int (nI tl)) (C := RX1) (T := TX1) (N := 7) hx hb hts hin_1 hown hK hP 0 rfl rfl 1 (by decide) lk_27 (fun _ h9 => h9) rfl dX1_put_67 ?_
    refine lv_iload_n hx hb dX1_put_70 rfl (lv_at hl 2 rfl) ?_
    refine lv_iadd hx hb dX1_put_71 ?_
    refine kp_i (nI_add _ _) ?_
    refine va_put (D := D) (ci := 1) (v := .int (nI (tl + n))) (ty := .int) (C := RX1) (T := TX1) (N := 7) hx hb hts hin_1 tyX1 tyX1_ok nmX1 hown hK hP hD hS 0 rfl rfl 1 (by decide) lk_27 (fun _ h9 => h9) rfl (by decide +kernel) rfl rfl (Nat.le_of_ble_eq_true rfl) dX1_put_72 (fun H locs hP hD hS => ?_)
    have hP : va_P D vwCl (wk q cB cI (tl + n) lv lb ln (cat tp tl (pb v n) n) ll id ms sc st) H := hP
    have hD : va_D A (wk q cB cI (tl + n) lv lb ln (cat tp tl (pb v n) n) ll id ms sc st) := hD
    refine lv_iconst (v := ((1 : Int32))) hx hb dX1_put_75 (by decide) ?_
    exact kr_z (()) hx hb hr hlocks hK hP hD hS (rfl) (rfl) dX1_put_76
  · have c_31 : i < n := kn_nle c_31 (by omega) (by omega)
    have hlt : i < n := c_31
    refine lv_aload_n hx hb dX1_put_34 rfl (lv_at hl 0 rfl) ?_
    refine va_get (D := D) (ci := 1) (v := .ref (q 1)) (C := RX1) (T := TX1) (N := 7) hx hb hts hin_1 hown hK hP 0 rfl rfl 0 (by decide) lk_9 (fun _ h9 => h9) rfl dX1_put_35 ?_
    refine lv_aload_n hx hb dX1_put_38 rfl (lv_at hl 0 rfl) ?_
    refine va_get (D := D) (ci := 1) (v := .int (nI tl)) (C := RX1) (T := TX1) (N := 7) hx hb hts hin_1 hown hK hP 0 rfl rfl 1 (by decide) lk_27 (fun _ h9 => h9) rfl dX1_put_39 ?_
    refine lv_iload hx hb dX1_put_42 (lv_at hl 3 rfl) ?_
    refine lv_iadd hx hb dX1_put_44 ?_
    refine kp_i (nI_add _ _) ?_
    refine lv_lload_n hx hb dX1_put_45 rfl (lv_at hl 1 rfl) ?_
    refine lv_bipush (v := (nI (8))) hx hb dX1_put_46 (by decide) ?_
    refine lv_iload_n hx hb dX1_put_48 rfl (lv_at hl 2 rfl) ?_
    refine lv_iconst (v := (nI (1))) hx hb dX1_put_49 (by decide) ?_
    refine lv_isub hx hb dX1_put_50 ?_
    refine kp_i (pk_sub (by omega)) ?_
    refine lv_iload hx hb dX1_put_51 (lv_at hl 3 rfl) ?_
    refine lv_isub hx hb dX1_put_53 ?_
    refine kp_i (pk_sub (by omega)) ?_
    refine lv_imul hx hb dX1_put_54 ?_
    refine kp_i (pk_mul _ _) ?_
    refine lv_lushr hx hb dX1_put_55 rfl ?_
    refine lv_l2i hx hb dX1_put_56 rfl ?_
    refine lv_i2b hx hb dX1_put_57 rfl ?_
    refine kb_bast hx hb hK hP hD hS 1 0 rfl rfl (tl + i) (rfl) (by omega) (by decide) (pk_vb _) dX1_put_58 (fun H locs hP hD hS => ?_)
    have hP : va_P D vwCl (wk q cB cI tl lv lb ln (upd (cat tp tl (pb v n) i) (tl + i) (((((((((v)).toUInt64 >>> (((nI (8 * ((n - 1) - i)))).toInt64.toUInt64 &&& Int64.toUInt64 63)).toInt64)).toInt32)).toInt8.toInt32))) ll id ms sc st) H := hP
    have hD : va_D A (wk q cB cI tl lv lb ln (upd (cat tp tl (pb v n) i) (tl + i) (((((((((v)).toUInt64 >>> (((nI (8 * ((n - 1) - i)))).toInt64.toUInt64 &&& Int64.toUInt64 63)).toInt64)).toInt32)).toInt8.toInt32))) ll id ms sc st) := hD
    rw [cat_s tp tl (pb v n) i (x := (((v.toUInt64 >>> ((nI (8 * (n - 1 - i))).toInt64.toUInt64 &&& Int64.toUInt64 63)).toInt64).toInt32).toInt8.toInt32) rfl] at hP hD
    have hP : va_P D vwCl (wk q cB cI tl lv lb ln (cat tp tl (pb v n) (i + 1)) ll id ms sc st) H := hP
    have hD : va_D A (wk q cB cI tl lv lb ln (cat tp tl (pb v n) (i + 1)) ll id ms sc st) := hD
    refine lv_iinc (v := (nI (i + 1))) (lv' := [(4, .int (nI (i + 1))), (0, .ref (q 0)), (1, .long v), (3, .int (nI n))]) hx hb dX1_put_59 hl (k := 3) rfl (kn_inc _ _ 1 rfl) (by decide) rfl (fun ls hl => ?_)
    refine lv_goto (tgt := 28) hx hb dX1_put_62 (by decide) ?_
    exact ih hlt _ _ _ ⟨hP, hD, hS, (lv_sub hl [1, 2, 3, 0] rfl)⟩

set_option maxHeartbeats 4000000 in
set_option maxRecDepth 100000 in
theorem c_put_n (l : Launch) (D : va_G) (A : Nat → Prop) (q : Nat → Nat) (cB cI : ClassId) (tl lv lb ln : Nat) (tp : Nat → Int32) (ll : Nat → Nat) (id ms sc st : Nat → Int32) (v : Int64) (x : Int32) (h1 : tl ≤ 150) (h2 : ∀ n : Nat, 1 ≤ n → n ≤ 8 → x = nI n → 150 < tl + n) : Ki (S := Unit) l yX1_put wsX1_put { frames := 0, cells := 0, slots := 0, locals := 0 } D vwCl [(cB, .byte), (cI, .int)] A (zk q) [.ref (q 0), .long v, .int x] (wk q cB cI tl lv lb ln tp ll id ms sc st) (fun r _ => r = ((0 : Int32))) (fun _ => (wk q cB cI tl lv lb ln tp ll id ms sc st)) := by
  refine Met.ofW (cc := cX1_put) (maxL := 5) (ret := (some .boolean)) (by decide) rfl ?_
  intro p e s m args below meth c s₁ B hml hv
  obtain ⟨rfl, hP, hK, hD, hZ⟩ := hv
  have hx := B.exec
  have hb := B.bytes
  have hr := B.returns
  have hts := atoms_spec (ws := wsX1_put) B.pre
  have hown : s.vm.findClass RX1 = some m.cls := findClass_of_methodNamed B.named
  have hlocks := B.notSynchronized
  have hS : va_S A s.heap s.heap [] := va_S.rf
  have hin_1 : ∀ w ∈ u_ws RX1 TX1 7, w ∈ wsX1_put := by decide +kernel
  have lk_27 := hts (.fieldLink RX1 27 "RootDesk" "tapeLength" "I") (by decide +kernel)
  have hl := lv_entry ([.ref (q 0), .long v, .int x]) (n := 5) (Nat.le_of_ble_eq_true rfl)
  rw [lg_entry_eq]
  generalize (lg_sl ([.ref (q 0), .long v, .int x]) ++ List.replicate (5 - (lg_sl ([.ref (q 0), .long v, .int x])).length) Slot.unset).toArray = ls at hl ⊢
  have hl : lv_has ls 5 [(0, .ref (q 0)), (1, .long v), (3, .int x)] := hl
  refine lv_iload_n hx hb dX1_put_0 rfl (lv_at hl 2 rfl) ?_
  refine lv_iconst (v := ((1 : Int32))) hx hb dX1_put_1 (by decide) ?_
  refine lv_icmp_lt (tgt := 23) hx hb dX1_put_2 (by decide) (fun c_2 => ?_) (fun c_2 => ?_)
  · refine lv_iconst (v := ((0 : Int32))) hx hb dX1_put_23 (by decide) ?_
    exact kr_z (()) hx hb hr hlocks hK hP hD hS (rfl) (rfl) dX1_put_24
  · refine lv_iload_n hx hb dX1_put_5 rfl (lv_at hl 2 rfl) ?_
    refine lv_bipush (v := ((8 : Int32))) hx hb dX1_put_6 (by decide) ?_
    refine lv_icmp_gt (tgt := 23) hx hb dX1_put_8 (by decide) (fun c_8 => ?_) (fun c_8 => ?_)
    · refine lv_iconst (v := ((0 : Int32))) hx hb dX1_put_23 (by decide) ?_
      exact kr_z (()) hx hb hr hlocks hK hP hD hS (rfl) (rfl) dX1_put_24
    · obtain ⟨n, hn1, hn8, rfl⟩ := put_n c_2 c_8
      have h3 := h2 n hn1 hn8 rfl
      refine lv_aload_n hx hb dX1_put_11 rfl (lv_at hl 0 rfl) ?_
      refine va_get (D := D) (ci := 1) (v := .int (nI tl)) (C := RX1) (T := TX1) (N := 7) hx hb hts hin_1 hown hK hP 0 rfl rfl 1 (by decide) lk_27 (fun _ h9 => h9) rfl dX1_put_12 ?_
      refine lv_iload_n hx hb dX1_put_15 rfl (lv_at hl 2 rfl) ?_
      refine lv_iadd hx hb dX1_put_16 ?_
      refine kp_i (nI_add _ _) ?_
      refine lv_sipush (v := (nI (150))) hx hb dX1_put_17 (by decide) ?_
      refine lv_icmp_le (tgt := 25) hx hb dX1_put_20 (by decide) (fun c_20 => absurd (kn_le c_20 (by omega) (by omega)) (by omega)) (fun c_20 => ?_)
      have c_20 : 150 < (tl + n) := kn_nle c_20 (by omega) (by omega)
      refine lv_iconst (v := ((0 : Int32))) hx hb dX1_put_23 (by decide) ?_
      exact kr_z (()) hx hb hr hlocks hK hP hD hS (rfl) (rfl) dX1_put_24

set_option maxHeartbeats 4000000 in
set_option maxRecDepth 100000 in
theorem c_hash (l : Launch) (D : va_G) (A : Nat → Prop) (q : Nat → Nat) (cB cI : ClassId) (tl lv lb ln : Nat) (tp : Nat → Int32) (ll : Nat → Nat) (id ms sc st : Nat → Int32) (x : Int32) (h1 : tl ≤ 150) : Kl (S := (Nat × (Nat → Int32) × (Nat → Int32) × (Nat → Int32))) l yX1_hash wsX1_hash { frames := 3, cells := 0, slots := 0, locals := 78 } D vwCl [(cB, .byte), (cI, .int)] A (zk q) [.ref (q 0), .int x] (wk q cB cI tl lv lb ln tp ll id ms sc st) (fun r _ => r = e8 (hsh tp tl) x) (fun u => (wk q cB cI tl lv lb u.1 tp ll (pn id 202 (hsh tp tl)) u.2.1 u.2.2.1 u.2.2.2)) := by
  refine Met.ofW (cc := cX1_hash) (maxL := 2) (ret := (some .long)) (by decide) rfl ?_
  intro p e s m args below meth c s₁ B hml hv
  obtain ⟨rfl, hP, hK, hD, hZ⟩ := hv
  have hx := B.exec
  have hb := B.bytes
  have hr := B.returns
  have hts := atoms_spec (ws := wsX1_hash) B.pre
  have hown : s.vm.findClass RX1 = some m.cls := findClass_of_methodNamed B.named
  have hlocks := B.notSynchronized
  have hS : va_S A s.heap s.heap [] := va_S.rf
  have hin_1 : ∀ w ∈ u_ws RX1 TX1 7, w ∈ wsX1_hash := by decide +kernel
  have lk_9 := hts (.fieldLink RX1 9 "RootDesk" "tape" "[B") (by decide +kernel)
  have lk_17 := hts (.fieldLink RX1 17 "RootDesk" "ids" "[I") (by decide +kernel)
  have lk_23 := hts (.fieldLink RX1 23 "RootDesk" "digest" "LRootDesk$Digest;") (by decide +kernel)
  have lk_27 := hts (.fieldLink RX1 27 "RootDesk" "tapeLength" "I") (by decide +kernel)
  have hl := lv_entry ([.ref (q 0), .int x]) (n := 2) (Nat.le_of_ble_eq_true rfl)
  rw [lg_entry_eq]
  generalize (lg_sl ([.ref (q 0), .int x]) ++ List.replicate (2 - (lg_sl ([.ref (q 0), .int x])).length) Slot.unset).toArray = ls at hl ⊢
  have hl : lv_has ls 2 [(0, .ref (q 0)), (1, .int x)] := hl
  refine lv_aload_n hx hb dX1_hash_0 rfl (lv_at hl 0 rfl) ?_
  refine va_get (D := D) (ci := 1) (v := .ref (q 4)) (C := RX1) (T := TX1) (N := 7) hx hb hts hin_1 hown hK hP 0 rfl rfl 6 (by decide) lk_23 (fun _ h9 => h9) rfl dX1_hash_1 ?_
  refine kc_v (As := []) (rest := []) ⟨hx, hb, hml, hown, hts⟩ (c_D_begin l D A q cB cI tl lv lb ln tp ll id ms sc st) (cwV 0 hts gX1_hash_X0_begin rfl rfl rfl (by decide +kernel) ⟨Nat.le_of_ble_eq_true rfl, Nat.le_of_ble_eq_true rfl⟩) (va_recv hK hP (ci := 0) (q0 := 4) rfl rfl) hK hP hD hS hZ rfl hl.1 rfl (Nat.le_of_ble_eq_true rfl) ⟨Nat.zero_le _, Nat.zero_le _⟩ dX1_hash_4 (fun _ H locs _ hP hD hS => ?_)
  have hP : va_P D vwCl (wk q cB cI tl lv lb 0 tp ll id ms sc st) H := hP
  have hD : va_D A (wk q cB cI tl lv lb 0 tp ll id ms sc st) := hD
  refine lv_aload_n hx hb dX1_hash_7 rfl (lv_at hl 0 rfl) ?_
  refine va_get (D := D) (ci := 1) (v := .ref (q 4)) (C := RX1) (T := TX1) (N := 7) hx hb hts hin_1 hown hK hP 0 rfl rfl 6 (by decide) lk_23 (fun _ h9 => h9) rfl dX1_hash_8 ?_
  refine lv_aload_n hx hb dX1_hash_11 rfl (lv_at hl 0 rfl) ?_
  refine va_get (D := D) (ci := 1) (v := .ref (q 1)) (C := RX1) (T := TX1) (N := 7) hx hb hts hin_1 hown hK hP 0 rfl rfl 0 (by decide) lk_9 (fun _ h9 => h9) rfl dX1_hash_12 ?_
  refine lv_aload_n hx hb dX1_hash_15 rfl (lv_at hl 0 rfl) ?_
  refine va_get (D := D) (ci := 1) (v := .int (nI tl)) (C := RX1) (T := TX1) (N := 7) hx hb hts hin_1 hown hK hP 0 rfl rfl 1 (by decide) lk_27 (fun _ h9 => h9) rfl dX1_hash_16 ?_
  refine kc_v (As := [.ref (q 1), .int (nI tl)]) (rest := []) ⟨hx, hb, hml, hown, hts⟩ (c_D_takeBytes l D A q cB cI tl lv lb 0 tp ll id ms sc st tl (by omega) (by omega)) (cwV 2 hts gX1_hash_X0_takeBytes rfl rfl rfl (by decide +kernel) ⟨Nat.le_of_ble_eq_true rfl, Nat.le_of_ble_eq_true rfl⟩) (va_recv hK hP (ci := 0) (q0 := 4) rfl rfl) hK hP hD hS hZ rfl hl.1 rfl (Nat.le_of_ble_eq_true rfl) ⟨Nat.zero_le _, Nat.zero_le _⟩ dX1_hash_19 (fun _ H locs _ hP hD hS => ?_)
  have hP : va_P D vwCl (wk q cB cI tl lv lb (0 + tl) tp ll id (cat ms 0 (fun j => (tp j).toInt8.toInt32) tl) sc st) H := hP
  have hD : va_D A (wk q cB cI tl lv lb (0 + tl) tp ll id (cat ms 0 (fun j => (tp j).toInt8.toInt32) tl) sc st) := hD
  refine lv_aload_n hx hb dX1_hash_22 rfl (lv_at hl 0 rfl) ?_
  refine va_get (D := D) (ci := 1) (v := .ref (q 4)) (C := RX1) (T := TX1) (N := 7) hx hb hts hin_1 hown hK hP 0 rfl rfl 6 (by decide) lk_23 (fun _ h9 => h9) rfl dX1_hash_23 ?_
  refine lv_aload_n hx hb dX1_hash_26 rfl (lv_at hl 0 rfl) ?_
  refine va_get (D := D) (ci := 1) (v := .ref (q 3)) (C := RX1) (T := TX1) (N := 7) hx hb hts hin_1 hown hK hP 0 rfl rfl 5 (by decide) lk_17 (fun _ h9 => h9) rfl dX1_hash_27 ?_
  refine lv_sipush (v := (nI (202 * 8))) hx hb dX1_hash_30 (by decide) ?_
  refine kc_v (As := [.ref (q 3), .int (nI (202 * 8))]) (rest := []) ⟨hx, hb, hml, hown, hts⟩ (c_D_finishInto l D A q cB cI tl lv lb (0 + tl) tp ll id (cat ms 0 (fun j => (tp j).toInt8.toInt32) tl) sc st (202 * 8) (by omega) (pl_fit (by omega))) (cwV 2 hts gX1_hash_X0_finishInto rfl rfl rfl (by decide +kernel) ⟨Nat.le_of_ble_eq_true rfl, Nat.le_of_ble_eq_true rfl⟩) (va_recv hK hP (ci := 0) (q0 := 4) rfl rfl) hK hP hD hS hZ rfl hl.1 rfl (Nat.le_of_ble_eq_true rfl) ⟨Nat.zero_le _, Nat.zero_le _⟩ dX1_hash_33 (fun u_3 H locs _ hP hD hS => ?_)
  have hP : va_P D vwCl (wk q cB cI tl lv lb u_3.1 tp ll (cat id (202 * 8) (hm (cat ms 0 (fun j => (tp j).toInt8.toInt32) tl) (0 + tl)) 8) u_3.2.1 u_3.2.2.1 u_3.2.2.2) H := hP
  have hD : va_D A (wk q cB cI tl lv lb u_3.1 tp ll (cat id (202 * 8) (hm (cat ms 0 (fun j => (tp j).toInt8.toInt32) tl) (0 + tl)) 8) u_3.2.1 u_3.2.2.1 u_3.2.2.2) := hD
  rw [hash_eq] at hP hD
  have hP : va_P D vwCl (wk q cB cI tl lv lb u_3.1 tp ll (pn id 202 (hsh tp tl)) u_3.2.1 u_3.2.2.1 u_3.2.2.2) H := hP
  have hD : va_D A (wk q cB cI tl lv lb u_3.1 tp ll (pn id 202 (hsh tp tl)) u_3.2.1 u_3.2.2.1 u_3.2.2.2) := hD
  refine lv_aload_n hx hb dX1_hash_36 rfl (lv_at hl 0 rfl) ?_
  refine lv_sipush (v := (nI (202))) hx hb dX1_hash_37 (by decide) ?_
  refine lv_iload_n hx hb dX1_hash_40 rfl (lv_at hl 1 rfl) ?_
  refine kc_l (As := [.int (nI 202), .int x]) (rest := []) ⟨hx, hb, hml, hown, hts⟩ (c_eightBytes l D A q cB cI tl lv lb u_3.1 tp ll (pn id 202 (hsh tp tl)) u_3.2.1 u_3.2.2.1 u_3.2.2.2 202 ((x)) (by omega)) (cwV 2 hts gX1_hash_X1_eightBytes rfl rfl rfl (by decide +kernel) ⟨Nat.le_of_ble_eq_true rfl, Nat.le_of_ble_eq_true rfl⟩) (va_recv hK hP (ci := 1) (q0 := 0) rfl rfl) hK hP hD hS hZ rfl hl.1 rfl (Nat.le_of_ble_eq_true rfl) ⟨Nat.zero_le _, Nat.zero_le _⟩ dX1_hash_41 (fun r_4 _ H locs hw hP hD hS => ?_)
  have hw : r_4 = (e8 (nd (pn id 202 (hsh tp tl)) 202) (x)) := hw
  subst hw
  have hP : va_P D vwCl (wk q cB cI tl lv lb u_3.1 tp ll (pn id 202 (hsh tp tl)) u_3.2.1 u_3.2.2.1 u_3.2.2.2) H := hP
  have hD : va_D A (wk q cB cI tl lv lb u_3.1 tp ll (pn id 202 (hsh tp tl)) u_3.2.1 u_3.2.2.1 u_3.2.2.2) := hD
  exact kr_l (u_3) hx hb hr hlocks hK hP hD hS (e8_congr (fun j hj => pn_same _ _ _ hj) _) dX1_hash_44

set_option maxHeartbeats 4000000 in
set_option maxRecDepth 100000 in
theorem c_add_y (l : Launch) (D : va_G) (A : Nat → Prop) (q : Nat → Nat) (cB cI : ClassId) (tl lv lb ln : Nat) (tp : Nat → Int32) (ll : Nat → Nat) (id ms sc st : Nat → Int32) (h1 : lv < 100) (h2 : tl ≤ 150) (h4 : lb < 2 ^ 30) : Ki (S := (Nat × (Nat → Int32) × (Nat → Int32) × (Nat → Int32))) l yX1_add wsX1_add { frames := 6, cells := 0, slots := 0, locals := 148 } D vwCl [(cB, .byte), (cI, .int)] A (zk q) [.ref (q 0)] (wk q cB cI tl lv lb ln tp ll id ms sc st) (fun r _ => r = nI lv) (fun u => (wk q cB cI 0 (lv + 1) (lb + tl) u.1 tp (va_up ll lv tl) (rfa (lv + 1) lv (pn id lv (lfh tp tl)) (rl (lv + 1))) u.2.1 u.2.2.1 u.2.2.2)) := by
  refine Met.ofW (cc := cX1_add) (maxL := 2) (ret := (some .int)) (by decide) rfl ?_
  intro p e s m args below meth c s₁ B hml hv
  obtain ⟨rfl, hP, hK, hD, hZ⟩ := hv
  have hx := B.exec
  have hb := B.bytes
  have hr := B.returns
  have hts := atoms_spec (ws := wsX1_add) B.pre
  have hown : s.vm.findClass RX1 = some m.cls := findClass_of_methodNamed B.named
  have hlocks := B.notSynchronized
  have hS : va_S A s.heap s.heap [] := va_S.rf
  have hin_1 : ∀ w ∈ u_ws RX1 TX1 7, w ∈ wsX1_add := by decide +kernel
  have lk_13 := hts (.fieldLink RX1 13 "RootDesk" "leafLengths" "[I") (by decide +kernel)
  have lk_31 := hts (.fieldLink RX1 31 "RootDesk" "leaves" "I") (by decide +kernel)
  have hl := lv_entry ([.ref (q 0)]) (n := 2) (Nat.le_of_ble_eq_true rfl)
  rw [lg_entry_eq]
  generalize (lg_sl ([.ref (q 0)]) ++ List.replicate (2 - (lg_sl ([.ref (q 0)])).length) Slot.unset).toArray = ls at hl ⊢
  have hl : lv_has ls 2 [(0, .ref (q 0))] := hl
  refine lv_aload_n hx hb dX1_add_0 rfl (lv_at hl 0 rfl) ?_
  refine va_get (D := D) (ci := 1) (v := .int (nI lv)) (C := RX1) (T := TX1) (N := 7) hx hb hts hin_1 hown hK hP 0 rfl rfl 3 (by decide) lk_31 (fun _ h9 => h9) rfl dX1_add_1 ?_
  refine lv_bipush (v := (nI (100))) hx hb dX1_add_4 (by decide) ?_
  refine lv_icmp_lt (tgt := 11) hx hb dX1_add_6 (by decide) (fun c_6 => ?_) (fun c_6 => absurd c_6 (fun h => h (nI_lt h1 (by decide))))
  have c_6 : lv < 100 := kn_lt c_6 (by omega) (by omega)
  refine lv_aload_n hx hb dX1_add_11 rfl (lv_at hl 0 rfl) ?_
  refine va_get (D := D) (ci := 1) (v := .int (nI lv)) (C := RX1) (T := TX1) (N := 7) hx hb hts hin_1 hown hK hP 0 rfl rfl 3 (by decide) lk_31 (fun _ h9 => h9) rfl dX1_add_12 ?_
  refine lv_istore_n (lv' := [(1, .int (nI lv)), (0, .ref (q 0))]) hx hb dX1_add_15 rfl hl (by decide) rfl (fun ls hl => ?_)
  refine lv_aload_n hx hb dX1_add_16 rfl (lv_at hl 1 rfl) ?_
  refine va_get (D := D) (ci := 1) (v := .ref (q 2)) (C := RX1) (T := TX1) (N := 7) hx hb hts hin_1 hown hK hP 0 rfl rfl 2 (by decide) lk_13 (fun _ h9 => h9) rfl dX1_add_17 ?_
  refine lv_iload_n hx hb dX1_add_20 rfl (lv_at hl 0 rfl) ?_
  refine lv_iconst (v := (nI (0))) hx hb dX1_add_21 (by decide) ?_
  refine kb_iast hx hb hK hP hD hS 2 1 rfl rfl (lv) (rfl) (by omega) (by decide) dX1_add_22 (fun H locs hP hD hS => ?_)
  rw [kn_upd] at hP hD
  have hP : va_P D vwCl (wk q cB cI tl lv lb ln tp (va_up ll (lv) (0)) id ms sc st) H := hP
  have hD : va_D A (wk q cB cI tl lv lb ln tp (va_up ll (lv) (0)) id ms sc st) := hD
  refine lv_aload_n hx hb dX1_add_23 rfl (lv_at hl 1 rfl) ?_
  refine lv_dup hx hb dX1_add_24 rfl ?_
  refine va_get (D := D) (ci := 1) (v := .int (nI lv)) (C := RX1) (T := TX1) (N := 7) hx hb hts hin_1 hown hK hP 0 rfl rfl 3 (by decide) lk_31 (fun _ h9 => h9) rfl dX1_add_25 ?_
  refine lv_iconst (v := (nI (1))) hx hb dX1_add_28 (by decide) ?_
  refine lv_iadd hx hb dX1_add_29 ?_
  refine kp_i (nI_add _ _) ?_
  refine va_put (D := D) (ci := 1) (v := .int (nI (lv + 1))) (ty := .int) (C := RX1) (T := TX1) (N := 7) hx hb hts hin_1 tyX1 tyX1_ok nmX1 hown hK hP hD hS 0 rfl rfl 3 (by decide) lk_31 (fun _ h9 => h9) rfl (by decide +kernel) rfl rfl (Nat.le_of_ble_eq_true rfl) dX1_add_30 (fun H locs hP hD hS => ?_)
  have hP : va_P D vwCl (wk q cB cI tl (lv + 1) lb ln tp (va_up ll (lv) (0)) id ms sc st) H := hP
  have hD : va_D A (wk q cB cI tl (lv + 1) lb ln tp (va_up ll (lv) (0)) id ms sc st) := hD
  refine lv_aload_n hx hb dX1_add_33 rfl (lv_at hl 1 rfl) ?_
  refine lv_iload_n hx hb dX1_add_34 rfl (lv_at hl 0 rfl) ?_
  refine kc_v (As := [.int (nI lv)]) (rest := []) ⟨hx, hb, hml, hown, hts⟩ (c_moveTapeTo l D A q cB cI tl (lv + 1) lb ln tp (va_up ll (lv) (0)) id ms sc st lv (by omega) (by omega) (by omega) (by rw [va_up_self]; omega)) (cwV 1 hts gX1_add_X1_moveTapeTo rfl rfl rfl (by decide +kernel) ⟨Nat.le_of_ble_eq_true rfl, Nat.le_of_ble_eq_true rfl⟩) (va_recv hK hP (ci := 1) (q0 := 0) rfl rfl) hK hP hD hS hZ rfl hl.1 rfl (Nat.le_of_ble_eq_true rfl) ⟨Nat.zero_le _, Nat.zero_le _⟩ dX1_add_35 (fun u_1 H locs _ hP hD hS => ?_)
  have hP : va_P D vwCl (wk q cB cI 0 (lv + 1) (lb + tl - (va_up ll (lv) (0)) lv) u_1.1 tp (va_up (va_up ll (lv) (0)) lv tl) (rfa (lv + 1) lv (pn id lv (lfh tp tl)) (rl (lv + 1))) u_1.2.1 u_1.2.2.1 u_1.2.2.2) H := hP
  have hD : va_D A (wk q cB cI 0 (lv + 1) (lb + tl - (va_up ll (lv) (0)) lv) u_1.1 tp (va_up (va_up ll (lv) (0)) lv tl) (rfa (lv + 1) lv (pn id lv (lfh tp tl)) (rl (lv + 1))) u_1.2.1 u_1.2.2.1 u_1.2.2.2) := hD
  rw [va_up_self, upup, Nat.sub_zero] at hP hD
  have hP : va_P D vwCl (wk q cB cI 0 (lv + 1) (lb + tl) u_1.1 tp (va_up ll lv tl) (rfa (lv + 1) lv (pn id lv (lfh tp tl)) (rl (lv + 1))) u_1.2.1 u_1.2.2.1 u_1.2.2.2) H := hP
  have hD : va_D A (wk q cB cI 0 (lv + 1) (lb + tl) u_1.1 tp (va_up ll lv tl) (rfa (lv + 1) lv (pn id lv (lfh tp tl)) (rl (lv + 1))) u_1.2.1 u_1.2.2.1 u_1.2.2.2) := hD
  refine lv_iload_n hx hb dX1_add_38 rfl (lv_at hl 0 rfl) ?_
  exact kr_i (u_1) hx hb hr hlocks hK hP hD hS (rfl) dX1_add_39

set_option maxHeartbeats 4000000 in
set_option maxRecDepth 100000 in
theorem c_add_n (l : Launch) (D : va_G) (A : Nat → Prop) (q : Nat → Nat) (cB cI : ClassId) (tl lv lb ln : Nat) (tp : Nat → Int32) (ll : Nat → Nat) (id ms sc st : Nat → Int32) : Ki (S := Unit) l yX1_add wsX1_add { frames := 6, cells := 0, slots := 0, locals := 148 } D vwCl [(cB, .byte), (cI, .int)] A (zk q) [.ref (q 0)] (wk q cB cI tl 100 lb ln tp ll id ms sc st) (fun r _ => r = ((-1 : Int32))) (fun _ => (wk q cB cI tl 100 lb ln tp ll id ms sc st)) := by
  refine Met.ofW (cc := cX1_add) (maxL := 2) (ret := (some .int)) (by decide) rfl ?_
  intro p e s m args below meth c s₁ B hml hv
  obtain ⟨rfl, hP, hK, hD, hZ⟩ := hv
  have hx := B.exec
  have hb := B.bytes
  have hr := B.returns
  have hts := atoms_spec (ws := wsX1_add) B.pre
  have hown : s.vm.findClass RX1 = some m.cls := findClass_of_methodNamed B.named
  have hlocks := B.notSynchronized
  have hS : va_S A s.heap s.heap [] := va_S.rf
  have hin_1 : ∀ w ∈ u_ws RX1 TX1 7, w ∈ wsX1_add := by decide +kernel
  have lk_31 := hts (.fieldLink RX1 31 "RootDesk" "leaves" "I") (by decide +kernel)
  have hl := lv_entry ([.ref (q 0)]) (n := 2) (Nat.le_of_ble_eq_true rfl)
  rw [lg_entry_eq]
  generalize (lg_sl ([.ref (q 0)]) ++ List.replicate (2 - (lg_sl ([.ref (q 0)])).length) Slot.unset).toArray = ls at hl ⊢
  have hl : lv_has ls 2 [(0, .ref (q 0))] := hl
  refine lv_aload_n hx hb dX1_add_0 rfl (lv_at hl 0 rfl) ?_
  refine va_get (D := D) (ci := 1) (v := .int (nI 100)) (C := RX1) (T := TX1) (N := 7) hx hb hts hin_1 hown hK hP 0 rfl rfl 3 (by decide) lk_31 (fun _ h9 => h9) rfl dX1_add_1 ?_
  refine lv_bipush (v := (nI (100))) hx hb dX1_add_4 (by decide) ?_
  refine lv_icmp_lt (tgt := 11) hx hb dX1_add_6 (by decide) (fun c_6 => absurd c_6 (by decide)) (fun c_6 => ?_)
  have c_6 : 100 ≤ 100 := kn_nlt c_6 (by omega) (by omega)
  refine lv_iconst (v := ((-1 : Int32))) hx hb dX1_add_9 (by decide) ?_
  exact kr_i (()) hx hb hr hlocks hK hP hD hS (rfl) dX1_add_10

set_option maxHeartbeats 4000000 in
set_option maxRecDepth 100000 in
theorem c_change_y (l : Launch) (D : va_G) (A : Nat → Prop) (q : Nat → Nat) (cB cI : ClassId) (tl lv lb ln : Nat) (tp : Nat → Int32) (ll : Nat → Nat) (id ms sc st : Nat → Int32) (i : Nat) (h1 : i < lv) (h2 : lv ≤ 100) (h3 : tl ≤ 150) (h4 : ll i ≤ lb + tl) : Ki (S := (Nat × (Nat → Int32) × (Nat → Int32) × (Nat → Int32))) l yX1_change wsX1_change { frames := 6, cells := 0, slots := 0, locals := 148 } D vwCl [(cB, .byte), (cI, .int)] A (zk q) [.ref (q 0), .int (nI i)] (wk q cB cI tl lv lb ln tp ll id ms sc st) (fun r _ => r = 1) (fun u => (wk q cB cI 0 lv (lb + tl - ll i) u.1 tp (va_up ll i tl) (rfa lv i (pn id i (lfh tp tl)) (rl lv)) u.2.1 u.2.2.1 u.2.2.2)) := by
  refine Met.ofW (cc := cX1_change) (maxL := 2) (ret := (some .boolean)) (by decide) rfl ?_
  intro p e s m args below meth c s₁ B hml hv
  obtain ⟨rfl, hP, hK, hD, hZ⟩ := hv
  have hx := B.exec
  have hb := B.bytes
  have hr := B.returns
  have hts := atoms_spec (ws := wsX1_change) B.pre
  have hown : s.vm.findClass RX1 = some m.cls := findClass_of_methodNamed B.named
  have hlocks := B.notSynchronized
  have hS : va_S A s.heap s.heap [] := va_S.rf
  have hl := lv_entry ([.ref (q 0), .int (nI i)]) (n := 2) (Nat.le_of_ble_eq_true rfl)
  rw [lg_entry_eq]
  generalize (lg_sl ([.ref (q 0), .int (nI i)]) ++ List.replicate (2 - (lg_sl ([.ref (q 0), .int (nI i)])).length) Slot.unset).toArray = ls at hl ⊢
  have hl : lv_has ls 2 [(0, .ref (q 0)), (1, .int (nI i))] := hl
  refine lv_aload_n hx hb dX1_change_0 rfl (lv_at hl 0 rfl) ?_
  refine lv_iload_n hx hb dX1_change_1 rfl (lv_at hl 1 rfl) ?_
  refine kc_i (As := [.int (nI i)]) (rest := []) ⟨hx, hb, hml, hown, hts⟩ (c_isLeaf l D A q cB cI tl lv lb ln tp ll id ms sc st ((nI (i)))) (cwV 1 hts gX1_change_X1_isLeaf rfl rfl rfl (by decide +kernel) ⟨Nat.le_of_ble_eq_true rfl, Nat.le_of_ble_eq_true rfl⟩) (va_recv hK hP (ci := 1) (q0 := 0) rfl rfl) hK hP hD hS hZ rfl hl.1 rfl (Nat.le_of_ble_eq_true rfl) ⟨Nat.zero_le _, Nat.zero_le _⟩ dX1_change_2 (fun r_1 _ H locs hw hP hD hS => ?_)
  have hw : r_1 = (bz (lf (nI (i)) lv)) := hw
  subst hw
  have hP : va_P D vwCl (wk q cB cI tl lv lb ln tp ll id ms sc st) H := hP
  have hD : va_D A (wk q cB cI tl lv lb ln tp ll id ms sc st) := hD
  refine lv_if_ne (tgt := 10) hx hb dX1_change_5 (by decide) (fun c_5 => ?_) (fun c_5 => absurd (lf_n (by omega) h1) (by rw [bz_0 c_5]; exact Bool.false_ne_true))
  have c_5 : (lf (nI (i)) lv) = true := bz_1 c_5
  refine lv_aload_n hx hb dX1_change_10 rfl (lv_at hl 0 rfl) ?_
  refine lv_iload_n hx hb dX1_change_11 rfl (lv_at hl 1 rfl) ?_
  refine kc_v (As := [.int (nI i)]) (rest := []) ⟨hx, hb, hml, hown, hts⟩ (c_moveTapeTo l D A q cB cI tl lv lb ln tp ll id ms sc st i (by omega) (by omega) (by omega) (by omega)) (cwV 1 hts gX1_change_X1_moveTapeTo rfl rfl rfl (by decide +kernel) ⟨Nat.le_of_ble_eq_true rfl, Nat.le_of_ble_eq_true rfl⟩) (va_recv hK hP (ci := 1) (q0 := 0) rfl rfl) hK hP hD hS hZ rfl hl.1 rfl (Nat.le_of_ble_eq_true rfl) ⟨Nat.zero_le _, Nat.zero_le _⟩ dX1_change_12 (fun u_2 H locs _ hP hD hS => ?_)
  have hP : va_P D vwCl (wk q cB cI 0 lv (lb + tl - ll i) u_2.1 tp (va_up ll i tl) (rfa lv i (pn id i (lfh tp tl)) (rl lv)) u_2.2.1 u_2.2.2.1 u_2.2.2.2) H := hP
  have hD : va_D A (wk q cB cI 0 lv (lb + tl - ll i) u_2.1 tp (va_up ll i tl) (rfa lv i (pn id i (lfh tp tl)) (rl lv)) u_2.2.1 u_2.2.2.1 u_2.2.2.2) := hD
  refine lv_iconst (v := ((1 : Int32))) hx hb dX1_change_15 (by decide) ?_
  exact kr_z (u_2) hx hb hr hlocks hK hP hD hS (rfl) (rfl) dX1_change_16

set_option maxHeartbeats 4000000 in
set_option maxRecDepth 100000 in
theorem c_change_n (l : Launch) (D : va_G) (A : Nat → Prop) (q : Nat → Nat) (cB cI : ClassId) (tl lv lb ln : Nat) (tp : Nat → Int32) (ll : Nat → Nat) (id ms sc st : Nat → Int32) (x : Int32) (h1 : lf x lv = false) : Ki (S := Unit) l yX1_change wsX1_change { frames := 6, cells := 0, slots := 0, locals := 148 } D vwCl [(cB, .byte), (cI, .int)] A (zk q) [.ref (q 0), .int x] (wk q cB cI tl lv lb ln tp ll id ms sc st) (fun r _ => r = ((0 : Int32))) (fun _ => (wk q cB cI tl lv lb ln tp ll id ms sc st)) := by
  refine Met.ofW (cc := cX1_change) (maxL := 2) (ret := (some .boolean)) (by decide) rfl ?_
  intro p e s m args below meth c s₁ B hml hv
  obtain ⟨rfl, hP, hK, hD, hZ⟩ := hv
  have hx := B.exec
  have hb := B.bytes
  have hr := B.returns
  have hts := atoms_spec (ws := wsX1_change) B.pre
  have hown : s.vm.findClass RX1 = some m.cls := findClass_of_methodNamed B.named
  have hlocks := B.notSynchronized
  have hS : va_S A s.heap s.heap [] := va_S.rf
  have hl := lv_entry ([.ref (q 0), .int x]) (n := 2) (Nat.le_of_ble_eq_true rfl)
  rw [lg_entry_eq]
  generalize (lg_sl ([.ref (q 0), .int x]) ++ List.replicate (2 - (lg_sl ([.ref (q 0), .int x])).length) Slot.unset).toArray = ls at hl ⊢
  have hl : lv_has ls 2 [(0, .ref (q 0)), (1, .int x)] := hl
  refine lv_aload_n hx hb dX1_change_0 rfl (lv_at hl 0 rfl) ?_
  refine lv_iload_n hx hb dX1_change_1 rfl (lv_at hl 1 rfl) ?_
  refine kc_i (As := [.int x]) (rest := []) ⟨hx, hb, hml, hown, hts⟩ (c_isLeaf l D A q cB cI tl lv lb ln tp ll id ms sc st ((x))) (cwV 1 hts gX1_change_X1_isLeaf rfl rfl rfl (by decide +kernel) ⟨Nat.le_of_ble_eq_true rfl, Nat.le_of_ble_eq_true rfl⟩) (va_recv hK hP (ci := 1) (q0 := 0) rfl rfl) hK hP hD hS hZ rfl hl.1 rfl (Nat.le_of_ble_eq_true rfl) ⟨Nat.zero_le _, Nat.zero_le _⟩ dX1_change_2 (fun r_1 _ H locs hw hP hD hS => ?_)
  have hw : r_1 = (bz (lf (x) lv)) := hw
  subst hw
  have hP : va_P D vwCl (wk q cB cI tl lv lb ln tp ll id ms sc st) H := hP
  have hD : va_D A (wk q cB cI tl lv lb ln tp ll id ms sc st) := hD
  refine lv_if_ne (tgt := 10) hx hb dX1_change_5 (by decide) (fun c_5 => absurd (bz_1 c_5) (by rw [h1]; exact Bool.false_ne_true)) (fun c_5 => ?_)
  have c_5 : (lf (x) lv) = false := bz_0 c_5
  refine lv_iconst (v := ((0 : Int32))) hx hb dX1_change_8 (by decide) ?_
  exact kr_z (()) hx hb hr hlocks hK hP hD hS (rfl) (rfl) dX1_change_9

set_option maxHeartbeats 4000000 in
set_option maxRecDepth 100000 in
theorem c_drop_n (l : Launch) (D : va_G) (A : Nat → Prop) (q : Nat → Nat) (cB cI : ClassId) (tl lv lb ln : Nat) (tp : Nat → Int32) (ll : Nat → Nat) (id ms sc st : Nat → Int32) : Ki (S := Unit) l yX1_drop wsX1_drop { frames := 5, cells := 0, slots := 0, locals := 127 } D vwCl [(cB, .byte), (cI, .int)] A (zk q) [.ref (q 0)] (wk q cB cI tl 0 lb ln tp ll id ms sc st) (fun r _ => r = ((-1 : Int32))) (fun _ => (wk q cB cI tl 0 lb ln tp ll id ms sc st)) := by
  refine Met.ofW (cc := cX1_drop) (maxL := 1) (ret := (some .int)) (by decide) rfl ?_
  intro p e s m args below meth c s₁ B hml hv
  obtain ⟨rfl, hP, hK, hD, hZ⟩ := hv
  have hx := B.exec
  have hb := B.bytes
  have hr := B.returns
  have hts := atoms_spec (ws := wsX1_drop) B.pre
  have hown : s.vm.findClass RX1 = some m.cls := findClass_of_methodNamed B.named
  have hlocks := B.notSynchronized
  have hS : va_S A s.heap s.heap [] := va_S.rf
  have hin_1 : ∀ w ∈ u_ws RX1 TX1 7, w ∈ wsX1_drop := by decide +kernel
  have lk_31 := hts (.fieldLink RX1 31 "RootDesk" "leaves" "I") (by decide +kernel)
  have hl := lv_entry ([.ref (q 0)]) (n := 1) (Nat.le_of_ble_eq_true rfl)
  rw [lg_entry_eq]
  generalize (lg_sl ([.ref (q 0)]) ++ List.replicate (1 - (lg_sl ([.ref (q 0)])).length) Slot.unset).toArray = ls at hl ⊢
  have hl : lv_has ls 1 [(0, .ref (q 0))] := hl
  refine lv_aload_n hx hb dX1_drop_0 rfl (lv_at hl 0 rfl) ?_
  refine va_get (D := D) (ci := 1) (v := .int (nI 0)) (C := RX1) (T := TX1) (N := 7) hx hb hts hin_1 hown hK hP 0 rfl rfl 3 (by decide) lk_31 (fun _ h9 => h9) rfl dX1_drop_1 ?_
  refine lv_iconst (v := (nI (1))) hx hb dX1_drop_4 (by decide) ?_
  refine lv_icmp_ge (tgt := 10) hx hb dX1_drop_5 (by decide) (fun c_5 => absurd c_5 (by decide)) (fun c_5 => ?_)
  have c_5 : 0 < 1 := kn_nle c_5 (by omega) (by omega)
  refine lv_iconst (v := ((-1 : Int32))) hx hb dX1_drop_8 (by decide) ?_
  exact kr_i (()) hx hb hr hlocks hK hP hD hS (rfl) dX1_drop_9

set_option maxHeartbeats 4000000 in
set_option maxRecDepth 100000 in
theorem c_drop_z (l : Launch) (D : va_G) (A : Nat → Prop) (q : Nat → Nat) (cB cI : ClassId) (tl lv lb ln : Nat) (tp : Nat → Int32) (ll : Nat → Nat) (id ms sc st : Nat → Int32) (h4 : ll 0 ≤ lb) : Ki (S := Unit) l yX1_drop wsX1_drop { frames := 5, cells := 0, slots := 0, locals := 127 } D vwCl [(cB, .byte), (cI, .int)] A (zk q) [.ref (q 0)] (wk q cB cI tl 1 lb ln tp ll id ms sc st) (fun r _ => r = (nI (0))) (fun _ => (wk q cB cI tl 0 (lb - ll 0) ln tp ll id ms sc st)) := by
  refine Met.ofW (cc := cX1_drop) (maxL := 1) (ret := (some .int)) (by decide) rfl ?_
  intro p e s m args below meth c s₁ B hml hv
  obtain ⟨rfl, hP, hK, hD, hZ⟩ := hv
  have hx := B.exec
  have hb := B.bytes
  have hr := B.returns
  have hts := atoms_spec (ws := wsX1_drop) B.pre
  have hown : s.vm.findClass RX1 = some m.cls := findClass_of_methodNamed B.named
  have hlocks := B.notSynchronized
  have hS : va_S A s.heap s.heap [] := va_S.rf
  have hin_1 : ∀ w ∈ u_ws RX1 TX1 7, w ∈ wsX1_drop := by decide +kernel
  have lk_13 := hts (.fieldLink RX1 13 "RootDesk" "leafLengths" "[I") (by decide +kernel)
  have lk_31 := hts (.fieldLink RX1 31 "RootDesk" "leaves" "I") (by decide +kernel)
  have lk_34 := hts (.fieldLink RX1 34 "RootDesk" "leafBytes" "I") (by decide +kernel)
  have hl := lv_entry ([.ref (q 0)]) (n := 1) (Nat.le_of_ble_eq_true rfl)
  rw [lg_entry_eq]
  generalize (lg_sl ([.ref (q 0)]) ++ List.replicate (1 - (lg_sl ([.ref (q 0)])).length) Slot.unset).toArray = ls at hl ⊢
  have hl : lv_has ls 1 [(0, .ref (q 0))] := hl
  refine lv_aload_n hx hb dX1_drop_0 rfl (lv_at hl 0 rfl) ?_
  refine va_get (D := D) (ci := 1) (v := .int (nI 1)) (C := RX1) (T := TX1) (N := 7) hx hb hts hin_1 hown hK hP 0 rfl rfl 3 (by decide) lk_31 (fun _ h9 => h9) rfl dX1_drop_1 ?_
  refine lv_iconst (v := (nI (1))) hx hb dX1_drop_4 (by decide) ?_
  refine lv_icmp_ge (tgt := 10) hx hb dX1_drop_5 (by decide) (fun c_5 => ?_) (fun c_5 => absurd (by decide) c_5)
  have c_5 : 1 ≤ 1 := kn_le c_5 (by omega) (by omega)
  refine lv_aload_n hx hb dX1_drop_10 rfl (lv_at hl 0 rfl) ?_
  refine lv_dup hx hb dX1_drop_11 rfl ?_
  refine va_get (D := D) (ci := 1) (v := .int (nI 1)) (C := RX1) (T := TX1) (N := 7) hx hb hts hin_1 hown hK hP 0 rfl rfl 3 (by decide) lk_31 (fun _ h9 => h9) rfl dX1_drop_12 ?_
  refine lv_iconst (v := (nI (1))) hx hb dX1_drop_15 (by decide) ?_
  refine lv_isub hx hb dX1_drop_16 ?_
  refine kp_i (y := (nI (0))) (rfl) ?_
  refine va_put (D := D) (ci := 1) (v := .int (nI 0)) (ty := .int) (C := RX1) (T := TX1) (N := 7) hx hb hts hin_1 tyX1 tyX1_ok nmX1 hown hK hP hD hS 0 rfl rfl 3 (by decide) lk_31 (fun _ h9 => h9) rfl (by decide +kernel) rfl rfl (Nat.le_of_ble_eq_true rfl) dX1_drop_17 (fun H locs hP hD hS => ?_)
  have hP : va_P D vwCl (wk q cB cI tl 0 lb ln tp ll id ms sc st) H := hP
  have hD : va_D A (wk q cB cI tl 0 lb ln tp ll id ms sc st) := hD
  refine lv_aload_n hx hb dX1_drop_20 rfl (lv_at hl 0 rfl) ?_
  refine lv_dup hx hb dX1_drop_21 rfl ?_
  refine va_get (D := D) (ci := 1) (v := .int (nI lb)) (C := RX1) (T := TX1) (N := 7) hx hb hts hin_1 hown hK hP 0 rfl rfl 4 (by decide) lk_34 (fun _ h9 => h9) rfl dX1_drop_22 ?_
  refine lv_aload_n hx hb dX1_drop_25 rfl (lv_at hl 0 rfl) ?_
  refine va_get (D := D) (ci := 1) (v := .ref (q 2)) (C := RX1) (T := TX1) (N := 7) hx hb hts hin_1 hown hK hP 0 rfl rfl 2 (by decide) lk_13 (fun _ h9 => h9) rfl dX1_drop_26 ?_
  refine lv_aload_n hx hb dX1_drop_29 rfl (lv_at hl 0 rfl) ?_
  refine va_get (D := D) (ci := 1) (v := .int (nI 0)) (C := RX1) (T := TX1) (N := 7) hx hb hts hin_1 hown hK hP 0 rfl rfl 3 (by decide) lk_31 (fun _ h9 => h9) rfl dX1_drop_30 ?_
  refine kb_iald hx hb hK hP 2 1 rfl rfl (0) (rfl) (by omega) (by decide) dX1_drop_33 ?_
  refine lv_isub hx hb dX1_drop_34 ?_
  refine kp_i (pk_sub (by omega)) ?_
  refine va_put (D := D) (ci := 1) (v := .int (nI (lb - (ll (0))))) (ty := .int) (C := RX1) (T := TX1) (N := 7) hx hb hts hin_1 tyX1 tyX1_ok nmX1 hown hK hP hD hS 0 rfl rfl 4 (by decide) lk_34 (fun _ h9 => h9) rfl (by decide +kernel) rfl rfl (Nat.le_of_ble_eq_true rfl) dX1_drop_35 (fun H locs hP hD hS => ?_)
  have hP : va_P D vwCl (wk q cB cI tl 0 (lb - (ll (0))) ln tp ll id ms sc st) H := hP
  have hD : va_D A (wk q cB cI tl 0 (lb - (ll (0))) ln tp ll id ms sc st) := hD
  refine lv_aload_n hx hb dX1_drop_38 rfl (lv_at hl 0 rfl) ?_
  refine va_get (D := D) (ci := 1) (v := .int (nI 0)) (C := RX1) (T := TX1) (N := 7) hx hb hts hin_1 hown hK hP 0 rfl rfl 3 (by decide) lk_31 (fun _ h9 => h9) rfl dX1_drop_39 ?_
  refine lv_if_le (tgt := 55) hx hb dX1_drop_42 (by decide) (fun c_42 => ?_) (fun c_42 => absurd (by decide) c_42)
  have c_42 : 0 = 0 := kn_le0 c_42 (by omega)
  refine lv_aload_n hx hb dX1_drop_55 rfl (lv_at hl 0 rfl) ?_
  refine va_get (D := D) (ci := 1) (v := .int (nI 0)) (C := RX1) (T := TX1) (N := 7) hx hb hts hin_1 hown hK hP 0 rfl rfl 3 (by decide) lk_31 (fun _ h9 => h9) rfl dX1_drop_56 ?_
  exact kr_i (()) hx hb hr hlocks hK hP hD hS (rfl) dX1_drop_59

set_option maxHeartbeats 4000000 in
set_option maxRecDepth 100000 in
theorem c_drop_y (l : Launch) (D : va_G) (A : Nat → Prop) (q : Nat → Nat) (cB cI : ClassId) (tl lv lb ln : Nat) (tp : Nat → Int32) (ll : Nat → Nat) (id ms sc st : Nat → Int32) (n : Nat) (h2 : n + 2 ≤ 100) (h4 : ll (n + 1) ≤ lb) : Ki (S := (Nat × (Nat → Int32) × (Nat → Int32) × (Nat → Int32))) l yX1_drop wsX1_drop { frames := 5, cells := 0, slots := 0, locals := 127 } D vwCl [(cB, .byte), (cI, .int)] A (zk q) [.ref (q 0)] (wk q cB cI tl (n + 2) lb ln tp ll id ms sc st) (fun r _ => r = nI (n + 1)) (fun u => (wk q cB cI tl (n + 1) (lb - ll (n + 1)) u.1 tp ll (rfa (n + 1) n id (rl (n + 1))) u.2.1 u.2.2.1 u.2.2.2)) := by
  refine Met.ofW (cc := cX1_drop) (maxL := 1) (ret := (some .int)) (by decide) rfl ?_
  intro p e s m args below meth c s₁ B hml hv
  obtain ⟨rfl, hP, hK, hD, hZ⟩ := hv
  have hx := B.exec
  have hb := B.bytes
  have hr := B.returns
  have hts := atoms_spec (ws := wsX1_drop) B.pre
  have hown : s.vm.findClass RX1 = some m.cls := findClass_of_methodNamed B.named
  have hlocks := B.notSynchronized
  have hS : va_S A s.heap s.heap [] := va_S.rf
  have hin_1 : ∀ w ∈ u_ws RX1 TX1 7, w ∈ wsX1_drop := by decide +kernel
  have lk_13 := hts (.fieldLink RX1 13 "RootDesk" "leafLengths" "[I") (by decide +kernel)
  have lk_31 := hts (.fieldLink RX1 31 "RootDesk" "leaves" "I") (by decide +kernel)
  have lk_34 := hts (.fieldLink RX1 34 "RootDesk" "leafBytes" "I") (by decide +kernel)
  have hl := lv_entry ([.ref (q 0)]) (n := 1) (Nat.le_of_ble_eq_true rfl)
  rw [lg_entry_eq]
  generalize (lg_sl ([.ref (q 0)]) ++ List.replicate (1 - (lg_sl ([.ref (q 0)])).length) Slot.unset).toArray = ls at hl ⊢
  have hl : lv_has ls 1 [(0, .ref (q 0))] := hl
  refine lv_aload_n hx hb dX1_drop_0 rfl (lv_at hl 0 rfl) ?_
  refine va_get (D := D) (ci := 1) (v := .int (nI (n + 2))) (C := RX1) (T := TX1) (N := 7) hx hb hts hin_1 hown hK hP 0 rfl rfl 3 (by decide) lk_31 (fun _ h9 => h9) rfl dX1_drop_1 ?_
  refine lv_iconst (v := (nI (1))) hx hb dX1_drop_4 (by decide) ?_
  refine lv_icmp_ge (tgt := 10) hx hb dX1_drop_5 (by decide) (fun c_5 => ?_) (fun c_5 => absurd (kn_le (a := 1) (b := 1) (nI_le (Nat.le_refl 1) (by decide)) (by decide) (by decide)) (fun _ => c_5 (nI_le (by omega) (by omega))))
  have c_5 : 1 ≤ (n + 2) := kn_le c_5 (by omega) (by omega)
  refine lv_aload_n hx hb dX1_drop_10 rfl (lv_at hl 0 rfl) ?_
  refine lv_dup hx hb dX1_drop_11 rfl ?_
  refine va_get (D := D) (ci := 1) (v := .int (nI (n + 2))) (C := RX1) (T := TX1) (N := 7) hx hb hts hin_1 hown hK hP 0 rfl rfl 3 (by decide) lk_31 (fun _ h9 => h9) rfl dX1_drop_12 ?_
  refine lv_iconst (v := (nI (1))) hx hb dX1_drop_15 (by decide) ?_
  refine lv_isub hx hb dX1_drop_16 ?_
  refine kp_i (y := (nI (n + 1))) (kn_sub (by omega)) ?_
  refine va_put (D := D) (ci := 1) (v := .int (nI (n + 1))) (ty := .int) (C := RX1) (T := TX1) (N := 7) hx hb hts hin_1 tyX1 tyX1_ok nmX1 hown hK hP hD hS 0 rfl rfl 3 (by decide) lk_31 (fun _ h9 => h9) rfl (by decide +kernel) rfl rfl (Nat.le_of_ble_eq_true rfl) dX1_drop_17 (fun H locs hP hD hS => ?_)
  have hP : va_P D vwCl (wk q cB cI tl (n + 1) lb ln tp ll id ms sc st) H := hP
  have hD : va_D A (wk q cB cI tl (n + 1) lb ln tp ll id ms sc st) := hD
  refine lv_aload_n hx hb dX1_drop_20 rfl (lv_at hl 0 rfl) ?_
  refine lv_dup hx hb dX1_drop_21 rfl ?_
  refine va_get (D := D) (ci := 1) (v := .int (nI lb)) (C := RX1) (T := TX1) (N := 7) hx hb hts hin_1 hown hK hP 0 rfl rfl 4 (by decide) lk_34 (fun _ h9 => h9) rfl dX1_drop_22 ?_
  refine lv_aload_n hx hb dX1_drop_25 rfl (lv_at hl 0 rfl) ?_
  refine va_get (D := D) (ci := 1) (v := .ref (q 2)) (C := RX1) (T := TX1) (N := 7) hx hb hts hin_1 hown hK hP 0 rfl rfl 2 (by decide) lk_13 (fun _ h9 => h9) rfl dX1_drop_26 ?_
  refine lv_aload_n hx hb dX1_drop_29 rfl (lv_at hl 0 rfl) ?_
  refine va_get (D := D) (ci := 1) (v := .int (nI (n + 1))) (C := RX1) (T := TX1) (N := 7) hx hb hts hin_1 hown hK hP 0 rfl rfl 3 (by decide) lk_31 (fun _ h9 => h9) rfl dX1_drop_30 ?_
  refine kb_iald hx hb hK hP 2 1 rfl rfl (n + 1) (rfl) (by omega) (by decide) dX1_drop_33 ?_
  refine lv_isub hx hb dX1_drop_34 ?_
  refine kp_i (pk_sub (by omega)) ?_
  refine va_put (D := D) (ci := 1) (v := .int (nI (lb - (ll (n + 1))))) (ty := .int) (C := RX1) (T := TX1) (N := 7) hx hb hts hin_1 tyX1 tyX1_ok nmX1 hown hK hP hD hS 0 rfl rfl 4 (by decide) lk_34 (fun _ h9 => h9) rfl (by decide +kernel) rfl rfl (Nat.le_of_ble_eq_true rfl) dX1_drop_35 (fun H locs hP hD hS => ?_)
  have hP : va_P D vwCl (wk q cB cI tl (n + 1) (lb - (ll (n + 1))) ln tp ll id ms sc st) H := hP
  have hD : va_D A (wk q cB cI tl (n + 1) (lb - (ll (n + 1))) ln tp ll id ms sc st) := hD
  refine lv_aload_n hx hb dX1_drop_38 rfl (lv_at hl 0 rfl) ?_
  refine va_get (D := D) (ci := 1) (v := .int (nI (n + 1))) (C := RX1) (T := TX1) (N := 7) hx hb hts hin_1 hown hK hP 0 rfl rfl 3 (by decide) lk_31 (fun _ h9 => h9) rfl dX1_drop_39 ?_
  refine lv_if_le (tgt := 55) hx hb dX1_drop_42 (by decide) (fun c_42 => absurd (kn_le0 c_42 (by omega)) (by omega)) (fun c_42 => ?_)
  have c_42 : 0 < (n + 1) := kn_nle0 c_42 (by omega)
  refine lv_aload_n hx hb dX1_drop_45 rfl (lv_at hl 0 rfl) ?_
  refine lv_aload_n hx hb dX1_drop_46 rfl (lv_at hl 0 rfl) ?_
  refine va_get (D := D) (ci := 1) (v := .int (nI (n + 1))) (C := RX1) (T := TX1) (N := 7) hx hb hts hin_1 hown hK hP 0 rfl rfl 3 (by decide) lk_31 (fun _ h9 => h9) rfl dX1_drop_47 ?_
  refine lv_iconst (v := (nI (1))) hx hb dX1_drop_50 (by decide) ?_
  refine lv_isub hx hb dX1_drop_51 ?_
  refine kp_i (y := (nI (n))) (kn_sub (by omega)) ?_
  refine kc_v (As := [.int (nI n)]) (rest := []) ⟨hx, hb, hml, hown, hts⟩ (c_refreshAbove l D A q cB cI tl (n + 1) (lb - (ll (n + 1))) ln tp ll id ms sc st n (by omega) (by omega)) (cwV 1 hts gX1_drop_X1_refreshAbove rfl rfl rfl (by decide +kernel) ⟨Nat.le_of_ble_eq_true rfl, Nat.le_of_ble_eq_true rfl⟩) (va_recv hK hP (ci := 1) (q0 := 0) rfl rfl) hK hP hD hS hZ rfl hl.1 rfl (Nat.le_of_ble_eq_true rfl) ⟨Nat.zero_le _, Nat.zero_le _⟩ dX1_drop_52 (fun u_1 H locs _ hP hD hS => ?_)
  have hP : va_P D vwCl (wk q cB cI tl (n + 1) (lb - (ll (n + 1))) u_1.1 tp ll (rfa (n + 1) n id (rl (n + 1))) u_1.2.1 u_1.2.2.1 u_1.2.2.2) H := hP
  have hD : va_D A (wk q cB cI tl (n + 1) (lb - (ll (n + 1))) u_1.1 tp ll (rfa (n + 1) n id (rl (n + 1))) u_1.2.1 u_1.2.2.1 u_1.2.2.2) := hD
  refine lv_aload_n hx hb dX1_drop_55 rfl (lv_at hl 0 rfl) ?_
  refine va_get (D := D) (ci := 1) (v := .int (nI (n + 1))) (C := RX1) (T := TX1) (N := 7) hx hb hts hin_1 hown hK hP 0 rfl rfl 3 (by decide) lk_31 (fun _ h9 => h9) rfl dX1_drop_56 ?_
  exact kr_i (u_1) hx hb hr hlocks hK hP hD hS (rfl) dX1_drop_59

set_option maxHeartbeats 4000000 in
set_option maxRecDepth 100000 in
theorem c_root_n (l : Launch) (D : va_G) (A : Nat → Prop) (q : Nat → Nat) (cB cI : ClassId) (tl lv lb ln : Nat) (tp : Nat → Int32) (ll : Nat → Nat) (id ms sc st : Nat → Int32) (x : Int32) : Kl (S := Unit) l yX1_root wsX1_root { frames := 2, cells := 0, slots := 0, locals := 42 } D vwCl [(cB, .byte), (cI, .int)] A (zk q) [.ref (q 0), .int x] (wk q cB cI tl 0 lb ln tp ll id ms sc st) (fun r _ => r = ((0 : Int64))) (fun _ => (wk q cB cI tl 0 lb ln tp ll id ms sc st)) := by
  refine Met.ofW (cc := cX1_root) (maxL := 2) (ret := (some .long)) (by decide) rfl ?_
  intro p e s m args below meth c s₁ B hml hv
  obtain ⟨rfl, hP, hK, hD, hZ⟩ := hv
  have hx := B.exec
  have hb := B.bytes
  have hr := B.returns
  have hts := atoms_spec (ws := wsX1_root) B.pre
  have hown : s.vm.findClass RX1 = some m.cls := findClass_of_methodNamed B.named
  have hlocks := B.notSynchronized
  have hS : va_S A s.heap s.heap [] := va_S.rf
  have hin_1 : ∀ w ∈ u_ws RX1 TX1 7, w ∈ wsX1_root := by decide +kernel
  have lk_31 := hts (.fieldLink RX1 31 "RootDesk" "leaves" "I") (by decide +kernel)
  have hl := lv_entry ([.ref (q 0), .int x]) (n := 2) (Nat.le_of_ble_eq_true rfl)
  rw [lg_entry_eq]
  generalize (lg_sl ([.ref (q 0), .int x]) ++ List.replicate (2 - (lg_sl ([.ref (q 0), .int x])).length) Slot.unset).toArray = ls at hl ⊢
  have hl : lv_has ls 2 [(0, .ref (q 0)), (1, .int x)] := hl
  refine lv_aload_n hx hb dX1_root_0 rfl (lv_at hl 0 rfl) ?_
  refine va_get (D := D) (ci := 1) (v := .int (nI 0)) (C := RX1) (T := TX1) (N := 7) hx hb hts hin_1 hown hK hP 0 rfl rfl 3 (by decide) lk_31 (fun _ h9 => h9) rfl dX1_root_1 ?_
  refine lv_iconst (v := (nI (1))) hx hb dX1_root_4 (by decide) ?_
  refine lv_icmp_ge (tgt := 10) hx hb dX1_root_5 (by decide) (fun c_5 => absurd c_5 (by decide)) (fun c_5 => ?_)
  have c_5 : 0 < 1 := kn_nle c_5 (by omega) (by omega)
  refine lv_lconst (v := 0) hx hb dX1_root_8 (by decide) ?_
  exact kr_l (()) hx hb hr hlocks hK hP hD hS (rfl) dX1_root_9

set_option maxHeartbeats 4000000 in
set_option maxRecDepth 100000 in
theorem c_root_y (l : Launch) (D : va_G) (A : Nat → Prop) (q : Nat → Nat) (cB cI : ClassId) (tl lv lb ln : Nat) (tp : Nat → Int32) (ll : Nat → Nat) (id ms sc st : Nat → Int32) (x : Int32) (h1 : 0 < lv) (h2 : lv ≤ 100) : Kl (S := Unit) l yX1_root wsX1_root { frames := 2, cells := 0, slots := 0, locals := 42 } D vwCl [(cB, .byte), (cI, .int)] A (zk q) [.ref (q 0), .int x] (wk q cB cI tl lv lb ln tp ll id ms sc st) (fun r _ => r = (e8 (nd id (lsv (rl lv))) x)) (fun _ => (wk q cB cI tl lv lb ln tp ll id ms sc st)) := by
  refine Met.ofW (cc := cX1_root) (maxL := 2) (ret := (some .long)) (by decide) rfl ?_
  intro p e s m args below meth c s₁ B hml hv
  obtain ⟨rfl, hP, hK, hD, hZ⟩ := hv
  have hx := B.exec
  have hb := B.bytes
  have hr := B.returns
  have hts := atoms_spec (ws := wsX1_root) B.pre
  have hown : s.vm.findClass RX1 = some m.cls := findClass_of_methodNamed B.named
  have hlocks := B.notSynchronized
  have hS : va_S A s.heap s.heap [] := va_S.rf
  have hin_1 : ∀ w ∈ u_ws RX1 TX1 7, w ∈ wsX1_root := by decide +kernel
  have lk_31 := hts (.fieldLink RX1 31 "RootDesk" "leaves" "I") (by decide +kernel)
  have lk_63 := hts (.fieldLink RX1 63 "RootDesk" "LEVEL_START" "[I") (by decide +kernel)
  have hl := lv_entry ([.ref (q 0), .int x]) (n := 2) (Nat.le_of_ble_eq_true rfl)
  rw [lg_entry_eq]
  generalize (lg_sl ([.ref (q 0), .int x]) ++ List.replicate (2 - (lg_sl ([.ref (q 0), .int x])).length) Slot.unset).toArray = ls at hl ⊢
  have hl : lv_has ls 2 [(0, .ref (q 0)), (1, .int x)] := hl
  have hr8 := rl_lt lv
  have hfit := lsv_fit1 (rl lv) hr8
  refine lv_aload_n hx hb dX1_root_0 rfl (lv_at hl 0 rfl) ?_
  refine va_get (D := D) (ci := 1) (v := .int (nI lv)) (C := RX1) (T := TX1) (N := 7) hx hb hts hin_1 hown hK hP 0 rfl rfl 3 (by decide) lk_31 (fun _ h9 => h9) rfl dX1_root_1 ?_
  refine lv_iconst (v := (nI (1))) hx hb dX1_root_4 (by decide) ?_
  refine lv_icmp_ge (tgt := 10) hx hb dX1_root_5 (by decide) (fun c_5 => ?_) (fun c_5 => absurd (nI_le h1 (by omega)) c_5)
  have c_5 : 1 ≤ lv := kn_le c_5 (by omega) (by omega)
  refine lv_aload_n hx hb dX1_root_10 rfl (lv_at hl 0 rfl) ?_
  refine kz_get hx hb hZ hS 0 rfl hown lk_63 dX1_root_11 ?_
  refine lv_aload_n hx hb dX1_root_14 rfl (lv_at hl 0 rfl) ?_
  refine kc_i (As := []) (rest := [.ref (q 8), .ref (q 0)]) ⟨hx, hb, hml, hown, hts⟩ (c_rootLevel l D A q cB cI tl lv lb ln tp ll id ms sc st (by omega)) (cwV 0 hts gX1_root_X1_rootLevel rfl rfl rfl (by decide +kernel) ⟨Nat.le_of_ble_eq_true rfl, Nat.le_of_ble_eq_true rfl⟩) (va_recv hK hP (ci := 1) (q0 := 0) rfl rfl) hK hP hD hS hZ rfl hl.1 rfl (Nat.le_of_ble_eq_true rfl) ⟨Nat.zero_le _, Nat.zero_le _⟩ dX1_root_15 (fun r_1 _ H locs hw hP hD hS => ?_)
  have hw : r_1 = (nI (rl lv)) := hw
  subst hw
  have hP : va_P D vwCl (wk q cB cI tl lv lb ln tp ll id ms sc st) H := hP
  have hD : va_D A (wk q cB cI tl lv lb ln tp ll id ms sc st) := hD
  refine kz_ld hx hb hZ hS 0 rfl (rl lv) (rfl) (by omega) (by decide) dX1_root_18 ?_
  refine lv_iload_n hx hb dX1_root_19 rfl (lv_at hl 1 rfl) ?_
  refine kc_l (As := [.int (nI (lsv (rl lv))), .int x]) (rest := []) ⟨hx, hb, hml, hown, hts⟩ (c_eightBytes l D A q cB cI tl lv lb ln tp ll id ms sc st (lsv (rl lv)) ((x)) (by omega)) (cwV 2 hts gX1_root_X1_eightBytes rfl rfl rfl (by decide +kernel) ⟨Nat.le_of_ble_eq_true rfl, Nat.le_of_ble_eq_true rfl⟩) (va_recv hK hP (ci := 1) (q0 := 0) rfl rfl) hK hP hD hS hZ rfl hl.1 rfl (Nat.le_of_ble_eq_true rfl) ⟨Nat.zero_le _, Nat.zero_le _⟩ dX1_root_20 (fun r_2 _ H locs hw hP hD hS => ?_)
  have hw : r_2 = (e8 (nd id (lsv (rl lv))) (x)) := hw
  subst hw
  have hP : va_P D vwCl (wk q cB cI tl lv lb ln tp ll id ms sc st) H := hP
  have hD : va_D A (wk q cB cI tl lv lb ln tp ll id ms sc st) := hD
  exact kr_l (()) hx hb hr hlocks hK hP hD hS (rfl) dX1_root_23

set_option maxHeartbeats 4000000 in
set_option maxRecDepth 100000 in
theorem c_way_n (l : Launch) (D : va_G) (A : Nat → Prop) (q : Nat → Nat) (cB cI : ClassId) (tl lv lb ln : Nat) (tp : Nat → Int32) (ll : Nat → Nat) (id ms sc st : Nat → Int32) (x : Int32) (h1 : lf x lv = false) : Ki (S := Unit) l yX1_way wsX1_way { frames := 2, cells := 0, slots := 0, locals := 46 } D vwCl [(cB, .byte), (cI, .int)] A (zk q) [.ref (q 0), .int x] (wk q cB cI tl lv lb ln tp ll id ms sc st) (fun r _ => r = ((-1 : Int32))) (fun _ => (wk q cB cI tl lv lb ln tp ll id ms sc st)) := by
  refine Met.ofW (cc := cX1_way) (maxL := 3) (ret := (some .int)) (by decide) rfl ?_
  intro p e s m args below meth c s₁ B hml hv
  obtain ⟨rfl, hP, hK, hD, hZ⟩ := hv
  have hx := B.exec
  have hb := B.bytes
  have hr := B.returns
  have hts := atoms_spec (ws := wsX1_way) B.pre
  have hown : s.vm.findClass RX1 = some m.cls := findClass_of_methodNamed B.named
  have hlocks := B.notSynchronized
  have hS : va_S A s.heap s.heap [] := va_S.rf
  have hl := lv_entry ([.ref (q 0), .int x]) (n := 3) (Nat.le_of_ble_eq_true rfl)
  rw [lg_entry_eq]
  generalize (lg_sl ([.ref (q 0), .int x]) ++ List.replicate (3 - (lg_sl ([.ref (q 0), .int x])).length) Slot.unset).toArray = ls at hl ⊢
  have hl : lv_has ls 3 [(0, .ref (q 0)), (1, .int x)] := hl
  refine lv_aload_n hx hb dX1_way_0 rfl (lv_at hl 0 rfl) ?_
  refine lv_iload_n hx hb dX1_way_1 rfl (lv_at hl 1 rfl) ?_
  refine kc_i (As := [.int x]) (rest := []) ⟨hx, hb, hml, hown, hts⟩ (c_isLeaf l D A q cB cI tl lv lb ln tp ll id ms sc st ((x))) (cwV 1 hts gX1_way_X1_isLeaf rfl rfl rfl (by decide +kernel) ⟨Nat.le_of_ble_eq_true rfl, Nat.le_of_ble_eq_true rfl⟩) (va_recv hK hP (ci := 1) (q0 := 0) rfl rfl) hK hP hD hS hZ rfl hl.1 rfl (Nat.le_of_ble_eq_true rfl) ⟨Nat.zero_le _, Nat.zero_le _⟩ dX1_way_2 (fun r_1 _ H locs hw hP hD hS => ?_)
  have hw : r_1 = (bz (lf (x) lv)) := hw
  subst hw
  have hP : va_P D vwCl (wk q cB cI tl lv lb ln tp ll id ms sc st) H := hP
  have hD : va_D A (wk q cB cI tl lv lb ln tp ll id ms sc st) := hD
  refine lv_if_ne (tgt := 10) hx hb dX1_way_5 (by decide) (fun c_5 => absurd (bz_1 c_5) (by rw [h1]; exact Bool.false_ne_true)) (fun c_5 => ?_)
  have c_5 : (lf (x) lv) = false := bz_0 c_5
  refine lv_iconst (v := ((-1 : Int32))) hx hb dX1_way_8 (by decide) ?_
  exact kr_i (()) hx hb hr hlocks hK hP hD hS (rfl) dX1_way_9

set_option maxHeartbeats 4000000 in
set_option maxRecDepth 100000 in
theorem c_way_y (l : Launch) (D : va_G) (A : Nat → Prop) (q : Nat → Nat) (cB cI : ClassId) (tl lv lb ln : Nat) (tp : Nat → Int32) (ll : Nat → Nat) (id ms sc st : Nat → Int32) (i0 : Nat) (h1 : i0 < lv) (h2 : lv ≤ 100) : Ki (S := Unit) l yX1_way wsX1_way { frames := 2, cells := 0, slots := 0, locals := 46 } D vwCl [(cB, .byte), (cI, .int)] A (zk q) [.ref (q 0), .int (nI i0)] (wk q cB cI tl lv lb ln tp ll id ms sc st) (fun r _ => r = (nI (stc lv i0 8))) (fun _ => (wk q cB cI tl lv lb ln tp ll id ms sc st)) := by
  refine Met.ofW (cc := cX1_way) (maxL := 3) (ret := (some .int)) (by decide) rfl ?_
  intro p e s m args below meth c s₁ B hml hv
  obtain ⟨rfl, hP, hK, hD, hZ⟩ := hv
  have hx := B.exec
  have hb := B.bytes
  have hr := B.returns
  have hts := atoms_spec (ws := wsX1_way) B.pre
  have hown : s.vm.findClass RX1 = some m.cls := findClass_of_methodNamed B.named
  have hlocks := B.notSynchronized
  have hS : va_S A s.heap s.heap [] := va_S.rf
  have hl := lv_entry ([.ref (q 0), .int (nI i0)]) (n := 3) (Nat.le_of_ble_eq_true rfl)
  rw [lg_entry_eq]
  generalize (lg_sl ([.ref (q 0), .int (nI i0)]) ++ List.replicate (3 - (lg_sl ([.ref (q 0), .int (nI i0)])).length) Slot.unset).toArray = ls at hl ⊢
  have hl : lv_has ls 3 [(0, .ref (q 0)), (1, .int (nI i0))] := hl
  refine lv_aload_n hx hb dX1_way_0 rfl (lv_at hl 0 rfl) ?_
  refine lv_iload_n hx hb dX1_way_1 rfl (lv_at hl 1 rfl) ?_
  refine kc_i (As := [.int (nI i0)]) (rest := []) ⟨hx, hb, hml, hown, hts⟩ (c_isLeaf l D A q cB cI tl lv lb ln tp ll id ms sc st ((nI (i0)))) (cwV 1 hts gX1_way_X1_isLeaf rfl rfl rfl (by decide +kernel) ⟨Nat.le_of_ble_eq_true rfl, Nat.le_of_ble_eq_true rfl⟩) (va_recv hK hP (ci := 1) (q0 := 0) rfl rfl) hK hP hD hS hZ rfl hl.1 rfl (Nat.le_of_ble_eq_true rfl) ⟨Nat.zero_le _, Nat.zero_le _⟩ dX1_way_2 (fun r_1 _ H locs hw hP hD hS => ?_)
  have hw : r_1 = (bz (lf (nI (i0)) lv)) := hw
  subst hw
  have hP : va_P D vwCl (wk q cB cI tl lv lb ln tp ll id ms sc st) H := hP
  have hD : va_D A (wk q cB cI tl lv lb ln tp ll id ms sc st) := hD
  refine lv_if_ne (tgt := 10) hx hb dX1_way_5 (by decide) (fun c_5 => ?_) (fun c_5 => absurd (lf_n (by omega) h1) (by rw [bz_0 c_5]; exact Bool.false_ne_true))
  have c_5 : (lf (nI (i0)) lv) = true := bz_1 c_5
  refine lv_iconst (v := (nI (0))) hx hb dX1_way_10 (by decide) ?_
  refine lv_istore_n (lv' := [(2, .int (nI 0)), (0, .ref (q 0)), (1, .int (nI i0))]) hx hb dX1_way_11 rfl hl (by decide) rfl (fun ls hl => ?_)
  refine kp_lp (hd := 12) (nn := 8) (fun (i : Nat) (H : Heap) (locs : List Loc) (ls : Array Slot) => (i ≤ stc lv i0 8) ∧ va_P D vwCl (wk q cB cI tl lv lb ln tp ll id ms sc st) H ∧ va_D A (wk q cB cI tl lv lb ln tp ll id ms sc st) ∧ va_S A s.heap H locs ∧ lv_has ls 3 [(0, .ref (q 0)), (1, .int (nI i0)), (2, .int (nI i))]) ?_ 0 (by omega) _ _ _ ⟨Nat.zero_le _, hP, hD, hS, (lv_sub hl [1, 2, 0] rfl)⟩
  intro i hiN H locs ls hI ih
  obtain ⟨hI_0, hP, hD, hS, hl⟩ := hI
  refine lv_iload_n hx hb dX1_way_12 rfl (lv_at hl 2 rfl) ?_
  refine lv_bipush (v := (nI (8))) hx hb dX1_way_13 (by decide) ?_
  refine lv_icmp_ge (tgt := 33) hx hb dX1_way_15 (by decide) (fun c_15 => ?_) (fun c_15 => ?_)
  · have c_15 : 8 ≤ i := kn_le c_15 (by omega) (by omega)
    have e9 : 8 = i := by omega
    subst e9
    refine lv_iload_n hx hb dX1_way_33 rfl (lv_at hl 2 rfl) ?_
    exact kr_i (()) hx hb hr hlocks hK hP hD hS (by first | rw [hend] | exact way_8 hI_0) dX1_way_34
  · have c_15 : i < 8 := kn_nle c_15 (by omega) (by omega)
    have hlt : i < 8 := c_15
    refine lv_aload_n hx hb dX1_way_18 rfl (lv_at hl 0 rfl) ?_
    refine lv_iload_n hx hb dX1_way_19 rfl (lv_at hl 1 rfl) ?_
    refine lv_iload_n hx hb dX1_way_20 rfl (lv_at hl 2 rfl) ?_
    refine kc_i (As := [.int (nI i0), .int (nI i)]) (rest := []) ⟨hx, hb, hml, hown, hts⟩ (c_levelOfStep l D A q cB cI tl lv lb ln tp ll id ms sc st ((nI (i0))) ((nI (i))) (by omega)) (cwV 2 hts gX1_way_X1_levelOfStep rfl rfl rfl (by decide +kernel) ⟨Nat.le_of_ble_eq_true rfl, Nat.le_of_ble_eq_true rfl⟩) (va_recv hK hP (ci := 1) (q0 := 0) rfl rfl) hK hP hD hS hZ rfl hl.1 rfl (Nat.le_of_ble_eq_true rfl) ⟨Nat.zero_le _, Nat.zero_le _⟩ dX1_way_21 (fun r_2 _ H locs hw hP hD hS => ?_)
    have hP : va_P D vwCl (wk q cB cI tl lv lb ln tp ll id ms sc st) H := hP
    have hD : va_D A (wk q cB cI tl lv lb ln tp ll id ms sc st) := hD
    refine lv_if_lt (tgt := 33) hx hb dX1_way_24 (by decide) (fun c_24 => ?_) (fun c_24 => ?_)
    · have hend := way_no h1 (by omega) (by omega) hI_0 hw c_24
      refine lv_iload_n hx hb dX1_way_33 rfl (lv_at hl 2 rfl) ?_
      exact kr_i (()) hx hb hr hlocks hK hP hD hS (by first | rw [hend] | exact way_8 hI_0) dX1_way_34
    · have hnx := way_go h1 (by omega) (by omega) hw c_24
      refine lv_iinc (v := (nI (i + 1))) (lv' := [(2, .int (nI (i + 1))), (0, .ref (q 0)), (1, .int (nI i0))]) hx hb dX1_way_27 hl (k := 2) rfl (kn_inc _ _ 1 rfl) (by decide) rfl (fun ls hl => ?_)
      refine lv_goto (tgt := 12) hx hb dX1_way_30 (by decide) ?_
      exact ih hlt _ _ _ ⟨hnx, hP, hD, hS, (lv_sub hl [1, 2, 0] rfl)⟩

set_option maxHeartbeats 4000000 in
set_option maxRecDepth 100000 in
theorem c_beside (l : Launch) (D : va_G) (A : Nat → Prop) (q : Nat → Nat) (cB cI : ClassId) (tl lv lb ln : Nat) (tp : Nat → Int32) (ll : Nat → Nat) (id ms sc st : Nat → Int32) (x : Int32) (y : Int32) (z : Int32) (h1 : lv ≤ 100) : Kl (S := Unit) l yX1_beside wsX1_beside { frames := 2, cells := 0, slots := 0, locals := 46 } D vwCl [(cB, .byte), (cI, .int)] A (zk q) [.ref (q 0), .int x, .int y, .int z] (wk q cB cI tl lv lb ln tp ll id ms sc st) (fun r _ => (∃ i J t : Nat, x = nI i ∧ y = nI J ∧ i < lv ∧ J < 2 ^ 31 ∧ t < 8 ∧ hbt lv i t = true ∧ stc lv i t = J ∧ r = e8 (nd id (lsv t + xo (i / 2 ^ t))) z) ∨ (r = 0 ∧ ∀ i J t : Nat, x = nI i → y = nI J → i < lv → J < 2 ^ 31 → t < 8 → hbt lv i t = true → stc lv i t ≠ J)) (fun _ => (wk q cB cI tl lv lb ln tp ll id ms sc st)) := by
  refine Met.ofW (cc := cX1_beside) (maxL := 5) (ret := (some .long)) (by decide) rfl ?_
  intro p e s m args below meth c s₁ B hml hv
  obtain ⟨rfl, hP, hK, hD, hZ⟩ := hv
  have hx := B.exec
  have hb := B.bytes
  have hr := B.returns
  have hts := atoms_spec (ws := wsX1_beside) B.pre
  have hown : s.vm.findClass RX1 = some m.cls := findClass_of_methodNamed B.named
  have hlocks := B.notSynchronized
  have hS : va_S A s.heap s.heap [] := va_S.rf
  have hl := lv_entry ([.ref (q 0), .int x, .int y, .int z]) (n := 5) (Nat.le_of_ble_eq_true rfl)
  rw [lg_entry_eq]
  generalize (lg_sl ([.ref (q 0), .int x, .int y, .int z]) ++ List.replicate (5 - (lg_sl ([.ref (q 0), .int x, .int y, .int z])).length) Slot.unset).toArray = ls at hl ⊢
  have hl : lv_has ls 5 [(0, .ref (q 0)), (1, .int x), (2, .int y), (3, .int z)] := hl
  refine lv_aload_n hx hb dX1_beside_0 rfl (lv_at hl 0 rfl) ?_
  refine lv_iload_n hx hb dX1_beside_1 rfl (lv_at hl 1 rfl) ?_
  refine lv_iload_n hx hb dX1_beside_2 rfl (lv_at hl 2 rfl) ?_
  refine kc_i (As := [.int x, .int y]) (rest := []) ⟨hx, hb, hml, hown, hts⟩ (c_levelOfStep l D A q cB cI tl lv lb ln tp ll id ms sc st ((x)) ((y)) (by omega)) (cwV 2 hts gX1_beside_X1_levelOfStep rfl rfl rfl (by decide +kernel) ⟨Nat.le_of_ble_eq_true rfl, Nat.le_of_ble_eq_true rfl⟩) (va_recv hK hP (ci := 1) (q0 := 0) rfl rfl) hK hP hD hS hZ rfl hl.1 rfl (Nat.le_of_ble_eq_true rfl) ⟨Nat.zero_le _, Nat.zero_le _⟩ dX1_beside_3 (fun r_1 _ H locs hw hP hD hS => ?_)
  have hP : va_P D vwCl (wk q cB cI tl lv lb ln tp ll id ms sc st) H := hP
  have hD : va_D A (wk q cB cI tl lv lb ln tp ll id ms sc st) := hD
  refine lv_istore (lv' := [(4, .int r_1), (0, .ref (q 0)), (1, .int x), (2, .int y), (3, .int z)]) hx hb dX1_beside_6 hl (by decide) rfl (fun ls hl => ?_)
  refine lv_iload hx hb dX1_beside_8 (lv_at hl 0 rfl) ?_
  refine lv_if_ge (tgt := 15) hx hb dX1_beside_10 (by decide) (fun c_10 => ?_) (fun c_10 => ?_)
  · obtain ⟨i, J, t, rfl, rfl, hi, hJ, ht, hb8, hs8, rfl⟩ := los_ge hw c_10
    have hdv : i / 2 ^ t ≤ i := Nat.div_le_self _ _
    have hft := fit_x hi (by omega) ht hb8
    refine lv_aload_n hx hb dX1_beside_15 rfl (lv_at hl 1 rfl) ?_
    refine lv_iload hx hb dX1_beside_16 (lv_at hl 0 rfl) ?_
    refine lv_iload_n hx hb dX1_beside_18 rfl (lv_at hl 2 rfl) ?_
    refine lv_iload hx hb dX1_beside_19 (lv_at hl 0 rfl) ?_
    refine lv_ishr hx hb dX1_beside_21 ?_
    refine kp_i (y := (nI (i / 2 ^ t))) (nt_sh (by omega) (by omega)) ?_
    refine kcs_i (As := [.int (nI t), .int (nI (i / 2 ^ t))]) (rest := [.ref (q 0)]) ⟨hx, hb, hml, hown, hts⟩ (c_nodeBeside l D A q cB cI (wk q cB cI tl lv lb ln tp ll id ms sc st) t (i / 2 ^ t) (by omega) (by omega)) (cwS 2 hts gX1_beside_X1_nodeBeside rfl rfl rfl (by decide +kernel) ⟨Nat.le_of_ble_eq_true rfl, Nat.le_of_ble_eq_true rfl⟩) hK hP hD hS hZ rfl hl.1 rfl (Nat.le_of_ble_eq_true rfl) ⟨Nat.zero_le _, Nat.zero_le _⟩ dX1_beside_22 (fun r_2 _ H locs hw hP hD hS => ?_)
    have hw : r_2 = (nI (lsv t + xo (i / 2 ^ t))) := hw
    subst hw
    have hP : va_P D vwCl (wk q cB cI tl lv lb ln tp ll id ms sc st) H := hP
    have hD : va_D A (wk q cB cI tl lv lb ln tp ll id ms sc st) := hD
    refine lv_iload_n hx hb dX1_beside_25 rfl (lv_at hl 4 rfl) ?_
    refine kc_l (As := [.int (nI (lsv t + xo (i / 2 ^ t))), .int z]) (rest := []) ⟨hx, hb, hml, hown, hts⟩ (c_eightBytes l D A q cB cI tl lv lb ln tp ll id ms sc st (lsv t + xo (i / 2 ^ t)) ((z)) (by omega)) (cwV 2 hts gX1_beside_X1_eightBytes rfl rfl rfl (by decide +kernel) ⟨Nat.le_of_ble_eq_true rfl, Nat.le_of_ble_eq_true rfl⟩) (va_recv hK hP (ci := 1) (q0 := 0) rfl rfl) hK hP hD hS hZ rfl hl.1 rfl (Nat.le_of_ble_eq_true rfl) ⟨Nat.zero_le _, Nat.zero_le _⟩ dX1_beside_26 (fun r_3 _ H locs hw hP hD hS => ?_)
    have hw : r_3 = (e8 (nd id (lsv t + xo (i / 2 ^ t))) (z)) := hw
    subst hw
    have hP : va_P D vwCl (wk q cB cI tl lv lb ln tp ll id ms sc st) H := hP
    have hD : va_D A (wk q cB cI tl lv lb ln tp ll id ms sc st) := hD
    exact kr_l (()) hx hb hr hlocks hK hP hD hS (Or.inl ⟨i, J, t, rfl, rfl, hi, hJ, ht, hb8, hs8, rfl⟩) dX1_beside_29
  · have hno := los_lt hw c_10
    refine lv_lconst (v := 0) hx hb dX1_beside_13 (by decide) ?_
    exact kr_l (()) hx hb hr hlocks hK hP hD hS (Or.inr ⟨rfl, hno⟩) dX1_beside_14

set_option maxHeartbeats 4000000 in
set_option maxRecDepth 100000 in
theorem c_isLeft (l : Launch) (D : va_G) (A : Nat → Prop) (q : Nat → Nat) (cB cI : ClassId) (tl lv lb ln : Nat) (tp : Nat → Int32) (ll : Nat → Nat) (id ms sc st : Nat → Int32) (x : Int32) (y : Int32) (h1 : lv ≤ 100) : Ki (S := Unit) l yX1_isLeft wsX1_isLeft { frames := 2, cells := 0, slots := 0, locals := 46 } D vwCl [(cB, .byte), (cI, .int)] A (zk q) [.ref (q 0), .int x, .int y] (wk q cB cI tl lv lb ln tp ll id ms sc st) (fun r _ => (∃ i J t : Nat, x = nI i ∧ y = nI J ∧ i < lv ∧ J < 2 ^ 31 ∧ t < 8 ∧ hbt lv i t = true ∧ stc lv i t = J ∧ r = nI (i / 2 ^ t % 2)) ∨ (r = -1 ∧ ∀ i J t : Nat, x = nI i → y = nI J → i < lv → J < 2 ^ 31 → t < 8 → hbt lv i t = true → stc lv i t ≠ J)) (fun _ => (wk q cB cI tl lv lb ln tp ll id ms sc st)) := by
  refine Met.ofW (cc := cX1_isLeft) (maxL := 4) (ret := (some .int)) (by decide) rfl ?_
  intro p e s m args below meth c s₁ B hml hv
  obtain ⟨rfl, hP, hK, hD, hZ⟩ := hv
  have hx := B.exec
  have hb := B.bytes
  have hr := B.returns
  have hts := atoms_spec (ws := wsX1_isLeft) B.pre
  have hown : s.vm.findClass RX1 = some m.cls := findClass_of_methodNamed B.named
  have hlocks := B.notSynchronized
  have hS : va_S A s.heap s.heap [] := va_S.rf
  have hl := lv_entry ([.ref (q 0), .int x, .int y]) (n := 4) (Nat.le_of_ble_eq_true rfl)
  rw [lg_entry_eq]
  generalize (lg_sl ([.ref (q 0), .int x, .int y]) ++ List.replicate (4 - (lg_sl ([.ref (q 0), .int x, .int y])).length) Slot.unset).toArray = ls at hl ⊢
  have hl : lv_has ls 4 [(0, .ref (q 0)), (1, .int x), (2, .int y)] := hl
  refine lv_aload_n hx hb dX1_isLeft_0 rfl (lv_at hl 0 rfl) ?_
  refine lv_iload_n hx hb dX1_isLeft_1 rfl (lv_at hl 1 rfl) ?_
  refine lv_iload_n hx hb dX1_isLeft_2 rfl (lv_at hl 2 rfl) ?_
  refine kc_i (As := [.int x, .int y]) (rest := []) ⟨hx, hb, hml, hown, hts⟩ (c_levelOfStep l D A q cB cI tl lv lb ln tp ll id ms sc st ((x)) ((y)) (by omega)) (cwV 2 hts gX1_isLeft_X1_levelOfStep rfl rfl rfl (by decide +kernel) ⟨Nat.le_of_ble_eq_true rfl, Nat.le_of_ble_eq_true rfl⟩) (va_recv hK hP (ci := 1) (q0 := 0) rfl rfl) hK hP hD hS hZ rfl hl.1 rfl (Nat.le_of_ble_eq_true rfl) ⟨Nat.zero_le _, Nat.zero_le _⟩ dX1_isLeft_3 (fun r_1 _ H locs hw hP hD hS => ?_)
  have hP : va_P D vwCl (wk q cB cI tl lv lb ln tp ll id ms sc st) H := hP
  have hD : va_D A (wk q cB cI tl lv lb ln tp ll id ms sc st) := hD
  refine lv_istore_n (lv' := [(3, .int r_1), (0, .ref (q 0)), (1, .int x), (2, .int y)]) hx hb dX1_isLeft_6 rfl hl (by decide) rfl (fun ls hl => ?_)
  refine lv_iload_n hx hb dX1_isLeft_7 rfl (lv_at hl 0 rfl) ?_
  refine lv_if_ge (tgt := 13) hx hb dX1_isLeft_8 (by decide) (fun c_8 => ?_) (fun c_8 => ?_)
  · obtain ⟨i, J, t, rfl, rfl, hi, hJ, ht, hb8, hs8, rfl⟩ := los_ge hw c_8
    have hdv : i / 2 ^ t ≤ i := Nat.div_le_self _ _
    have hft := fit_x hi (by omega) ht hb8
    refine lv_iload_n hx hb dX1_isLeft_13 rfl (lv_at hl 2 rfl) ?_
    refine lv_iload_n hx hb dX1_isLeft_14 rfl (lv_at hl 0 rfl) ?_
    refine lv_ishr hx hb dX1_isLeft_15 ?_
    refine kp_i (y := (nI (i / 2 ^ t))) (nt_sh (by omega) (by omega)) ?_
    refine lv_iconst (v := (nI (1))) hx hb dX1_isLeft_16 (by decide) ?_
    refine lv_iand hx hb dX1_isLeft_17 ?_
    refine kp_i (y := (nI (i / 2 ^ t % 2))) (nt_od _ (by omega)) ?_
    exact kr_i (()) hx hb hr hlocks hK hP hD hS (Or.inl ⟨i, J, t, rfl, rfl, hi, hJ, ht, hb8, hs8, rfl⟩) dX1_isLeft_18
  · have hno := los_lt hw c_8
    refine lv_iconst (v := ((-1 : Int32))) hx hb dX1_isLeft_11 (by decide) ?_
    exact kr_i (()) hx hb hr hlocks hK hP hD hS (Or.inr ⟨rfl, hno⟩) dX1_isLeft_12

set_option maxHeartbeats 4000000 in
set_option maxRecDepth 100000 in
theorem c_proves_n (l : Launch) (D : va_G) (A : Nat → Prop) (q : Nat → Nat) (cB cI : ClassId) (tl lv lb ln : Nat) (tp : Nat → Int32) (ll : Nat → Nat) (id ms sc st : Nat → Int32) (x : Int32) (h1 : lf x lv = false) : Ki (S := Unit) l yX1_proves wsX1_proves { frames := 4, cells := 0, slots := 0, locals := 101 } D vwCl [(cB, .byte), (cI, .int)] A (zk q) [.ref (q 0), .int x] (wk q cB cI tl lv lb ln tp ll id ms sc st) (fun r _ => r = ((-1 : Int32))) (fun _ => (wk q cB cI tl lv lb ln tp ll id ms sc st)) := by
  refine Met.ofW (cc := cX1_proves) (maxL := 7) (ret := (some .int)) (by decide) rfl ?_
  intro p e s m args below meth c s₁ B hml hv
  obtain ⟨rfl, hP, hK, hD, hZ⟩ := hv
  have hx := B.exec
  have hb := B.bytes
  have hr := B.returns
  have hts := atoms_spec (ws := wsX1_proves) B.pre
  have hown : s.vm.findClass RX1 = some m.cls := findClass_of_methodNamed B.named
  have hlocks := B.notSynchronized
  have hS : va_S A s.heap s.heap [] := va_S.rf
  have hl := lv_entry ([.ref (q 0), .int x]) (n := 7) (Nat.le_of_ble_eq_true rfl)
  rw [lg_entry_eq]
  generalize (lg_sl ([.ref (q 0), .int x]) ++ List.replicate (7 - (lg_sl ([.ref (q 0), .int x])).length) Slot.unset).toArray = ls at hl ⊢
  have hl : lv_has ls 7 [(0, .ref (q 0)), (1, .int x)] := hl
  refine lv_aload_n hx hb dX1_proves_0 rfl (lv_at hl 0 rfl) ?_
  refine lv_iload_n hx hb dX1_proves_1 rfl (lv_at hl 1 rfl) ?_
  refine kc_i (As := [.int x]) (rest := []) ⟨hx, hb, hml, hown, hts⟩ (c_isLeaf l D A q cB cI tl lv lb ln tp ll id ms sc st ((x))) (cwV 1 hts gX1_proves_X1_isLeaf rfl rfl rfl (by decide +kernel) ⟨Nat.le_of_ble_eq_true rfl, Nat.le_of_ble_eq_true rfl⟩) (va_recv hK hP (ci := 1) (q0 := 0) rfl rfl) hK hP hD hS hZ rfl hl.1 rfl (Nat.le_of_ble_eq_true rfl) ⟨Nat.zero_le _, Nat.zero_le _⟩ dX1_proves_2 (fun r_1 _ H locs hw hP hD hS => ?_)
  have hw : r_1 = (bz (lf (x) lv)) := hw
  subst hw
  have hP : va_P D vwCl (wk q cB cI tl lv lb ln tp ll id ms sc st) H := hP
  have hD : va_D A (wk q cB cI tl lv lb ln tp ll id ms sc st) := hD
  refine lv_if_ne (tgt := 10) hx hb dX1_proves_5 (by decide) (fun c_5 => absurd (bz_1 c_5) (by rw [h1]; exact Bool.false_ne_true)) (fun c_5 => ?_)
  have c_5 : (lf (x) lv) = false := bz_0 c_5
  refine lv_iconst (v := ((-1 : Int32))) hx hb dX1_proves_8 (by decide) ?_
  exact kr_i (()) hx hb hr hlocks hK hP hD hS (rfl) dX1_proves_9

set_option maxHeartbeats 4000000 in
set_option maxRecDepth 100000 in
theorem c_proves_y (l : Launch) (D : va_G) (A : Nat → Prop) (q : Nat → Nat) (cB cI : ClassId) (tl lv lb ln : Nat) (tp : Nat → Int32) (ll : Nat → Nat) (id ms sc st : Nat → Int32) (i0 : Nat) (h1 : i0 < lv) (h2 : lv ≤ 100) (h3 : tl ≤ 150) : Ki (S := (Nat × (Nat → Int32) × (Nat → Int32) × (Nat → Int32))) l yX1_proves wsX1_proves { frames := 4, cells := 0, slots := 0, locals := 101 } D vwCl [(cB, .byte), (cI, .int)] A (zk q) [.ref (q 0), .int (nI i0)] (wk q cB cI tl lv lb ln tp ll id ms sc st) (fun r _ => r = bz (sm (pvh lv i0 id (lfh tp tl) 8) (nd id (lsv (rl lv))) 8)) (fun u => (wk q cB cI tl lv lb u.1 tp ll (pn id 202 (pvh lv i0 id (lfh tp tl) 8)) u.2.1 u.2.2.1 u.2.2.2)) := by
  refine Met.ofW (cc := cX1_proves) (maxL := 7) (ret := (some .int)) (by decide) rfl ?_
  intro p e s m args below meth c s₁ B hml hv
  obtain ⟨rfl, hP, hK, hD, hZ⟩ := hv
  have hx := B.exec
  have hb := B.bytes
  have hr := B.returns
  have hts := atoms_spec (ws := wsX1_proves) B.pre
  have hown : s.vm.findClass RX1 = some m.cls := findClass_of_methodNamed B.named
  have hlocks := B.notSynchronized
  have hS : va_S A s.heap s.heap [] := va_S.rf
  have hin_1 : ∀ w ∈ u_ws RX1 TX1 7, w ∈ wsX1_proves := by decide +kernel
  have lk_31 := hts (.fieldLink RX1 31 "RootDesk" "leaves" "I") (by decide +kernel)
  have lk_63 := hts (.fieldLink RX1 63 "RootDesk" "LEVEL_START" "[I") (by decide +kernel)
  have hl := lv_entry ([.ref (q 0), .int (nI i0)]) (n := 7) (Nat.le_of_ble_eq_true rfl)
  rw [lg_entry_eq]
  generalize (lg_sl ([.ref (q 0), .int (nI i0)]) ++ List.replicate (7 - (lg_sl ([.ref (q 0), .int (nI i0)])).length) Slot.unset).toArray = ls at hl ⊢
  have hl : lv_has ls 7 [(0, .ref (q 0)), (1, .int (nI i0))] := hl
  refine lv_aload_n hx hb dX1_proves_0 rfl (lv_at hl 0 rfl) ?_
  refine lv_iload_n hx hb dX1_proves_1 rfl (lv_at hl 1 rfl) ?_
  refine kc_i (As := [.int (nI i0)]) (rest := []) ⟨hx, hb, hml, hown, hts⟩ (c_isLeaf l D A q cB cI tl lv lb ln tp ll id ms sc st ((nI (i0)))) (cwV 1 hts gX1_proves_X1_isLeaf rfl rfl rfl (by decide +kernel) ⟨Nat.le_of_ble_eq_true rfl, Nat.le_of_ble_eq_true rfl⟩) (va_recv hK hP (ci := 1) (q0 := 0) rfl rfl) hK hP hD hS hZ rfl hl.1 rfl (Nat.le_of_ble_eq_true rfl) ⟨Nat.zero_le _, Nat.zero_le _⟩ dX1_proves_2 (fun r_1 _ H locs hw hP hD hS => ?_)
  have hw : r_1 = (bz (lf (nI (i0)) lv)) := hw
  subst hw
  have hP : va_P D vwCl (wk q cB cI tl lv lb ln tp ll id ms sc st) H := hP
  have hD : va_D A (wk q cB cI tl lv lb ln tp ll id ms sc st) := hD
  refine lv_if_ne (tgt := 10) hx hb dX1_proves_5 (by decide) (fun c_5 => ?_) (fun c_5 => absurd (lf_n (by omega) h1) (by rw [bz_0 c_5]; exact Bool.false_ne_true))
  have c_5 : (lf (nI (i0)) lv) = true := bz_1 c_5
  refine lv_aload_n hx hb dX1_proves_10 rfl (lv_at hl 0 rfl) ?_
  refine lv_sipush (v := (nI (202))) hx hb dX1_proves_11 (by decide) ?_
  refine kc_v (As := [.int (nI 202)]) (rest := []) ⟨hx, hb, hml, hown, hts⟩ (c_makeLeafId l D A q cB cI tl lv lb ln tp ll id ms sc st 202 (by decide) h3) (cwV 1 hts gX1_proves_X1_makeLeafId rfl rfl rfl (by decide +kernel) ⟨Nat.le_of_ble_eq_true rfl, Nat.le_of_ble_eq_true rfl⟩) (va_recv hK hP (ci := 1) (q0 := 0) rfl rfl) hK hP hD hS hZ rfl hl.1 rfl (Nat.le_of_ble_eq_true rfl) ⟨Nat.zero_le _, Nat.zero_le _⟩ dX1_proves_14 (fun u_2 H locs _ hP hD hS => ?_)
  have hP : va_P D vwCl (wk q cB cI tl lv lb u_2.1 tp ll (pn id 202 (lfh tp tl)) u_2.2.1 u_2.2.2.1 u_2.2.2.2) H := hP
  have hD : va_D A (wk q cB cI tl lv lb u_2.1 tp ll (pn id 202 (lfh tp tl)) u_2.2.1 u_2.2.2.1 u_2.2.2.2) := hD
  refine lv_aload_n hx hb dX1_proves_17 rfl (lv_at hl 0 rfl) ?_
  refine va_get (D := D) (ci := 1) (v := .int (nI lv)) (C := RX1) (T := TX1) (N := 7) hx hb hts hin_1 hown hK hP 0 rfl rfl 3 (by decide) lk_31 (fun _ h9 => h9) rfl dX1_proves_18 ?_
  refine lv_istore_n (lv' := [(2, .int (nI lv)), (0, .ref (q 0)), (1, .int (nI i0))]) hx hb dX1_proves_21 rfl hl (by decide) rfl (fun ls hl => ?_)
  refine lv_iconst (v := (nI (0))) hx hb dX1_proves_22 (by decide) ?_
  refine lv_istore_n (lv' := [(3, .int (nI 0)), (2, .int (nI lv)), (0, .ref (q 0)), (1, .int (nI i0))]) hx hb dX1_proves_23 rfl hl (by decide) rfl (fun ls hl => ?_)
  refine kp_lp (hd := 24) (nn := 8) (fun (i : Nat) (H : Heap) (locs : List Loc) (ls : Array Slot) => ∃ (u : Nat × (Nat → Int32) × (Nat → Int32) × (Nat → Int32)), va_P D vwCl (wk q cB cI tl lv lb u.1 tp ll (pn id 202 (pvh lv i0 id (lfh tp tl) i)) u.2.1 u.2.2.1 u.2.2.2) H ∧ va_D A (wk q cB cI tl lv lb u.1 tp ll (pn id 202 (pvh lv i0 id (lfh tp tl) i)) u.2.1 u.2.2.1 u.2.2.2) ∧ va_S A s.heap H locs ∧ lv_has ls 7 [(0, .ref (q 0)), (1, .int (nI i0)), (2, .int (nI (wdl lv i))), (3, .int (nI i))]) ?_ 0 (by omega) _ _ _ ⟨u_2, hP, hD, hS, (lv_sub hl [2, 3, 1, 0] rfl)⟩
  intro i hiN H locs ls hI ih
  obtain ⟨u, hP, hD, hS, hl⟩ := hI
  have hwi := wdl_le lv i
  have hdv : i0 / 2 ^ i ≤ i0 := Nat.div_le_self _ _
  refine lv_iload_n hx hb dX1_proves_24 rfl (lv_at hl 3 rfl) ?_
  refine lv_bipush (v := (nI (8))) hx hb dX1_proves_25 (by decide) ?_
  refine lv_icmp_ge (tgt := 111) hx hb dX1_proves_27 (by decide) (fun c_27 => ?_) (fun c_27 => ?_)
  · have c_27 : 8 ≤ i := kn_le c_27 (by omega) (by omega)
    have e9 : 8 = i := by omega
    subst e9
    have hr8 := rl_lt lv
    have hfit := lsv_fit1 (rl lv) hr8
    refine lv_aload_n hx hb dX1_proves_111 rfl (lv_at hl 0 rfl) ?_
    refine lv_sipush (v := (nI (202))) hx hb dX1_proves_112 (by decide) ?_
    refine kz_get hx hb hZ hS 0 rfl hown lk_63 dX1_proves_115 ?_
    refine lv_aload_n hx hb dX1_proves_118 rfl (lv_at hl 0 rfl) ?_
    refine kc_i (As := []) (rest := [.ref (q 8), .int (nI 202), .ref (q 0)]) ⟨hx, hb, hml, hown, hts⟩ (c_rootLevel l D A q cB cI tl lv lb u.1 tp ll (pn id 202 (pvh lv i0 id (lfh tp tl) 8)) u.2.1 u.2.2.1 u.2.2.2 (by omega)) (cwV 0 hts gX1_proves_X1_rootLevel rfl rfl rfl (by decide +kernel) ⟨Nat.le_of_ble_eq_true rfl, Nat.le_of_ble_eq_true rfl⟩) (va_recv hK hP (ci := 1) (q0 := 0) rfl rfl) hK hP hD hS hZ rfl hl.1 rfl (Nat.le_of_ble_eq_true rfl) ⟨Nat.zero_le _, Nat.zero_le _⟩ dX1_proves_119 (fun r_3 _ H locs hw hP hD hS => ?_)
    have hw : r_3 = (nI (rl lv)) := hw
    subst hw
    have hP : va_P D vwCl (wk q cB cI tl lv lb u.1 tp ll (pn id 202 (pvh lv i0 id (lfh tp tl) 8)) u.2.1 u.2.2.1 u.2.2.2) H := hP
    have hD : va_D A (wk q cB cI tl lv lb u.1 tp ll (pn id 202 (pvh lv i0 id (lfh tp tl) 8)) u.2.1 u.2.2.1 u.2.2.2) := hD
    refine kz_ld hx hb hZ hS 0 rfl (rl lv) (rfl) (by omega) (by decide) dX1_proves_122 ?_
    refine kc_i (As := [.int (nI 202), .int (nI (lsv (rl lv)))]) (rest := []) ⟨hx, hb, hml, hown, hts⟩ (c_sameIds l D A q cB cI tl lv lb u.1 tp ll (pn id 202 (pvh lv i0 id (lfh tp tl) 8)) u.2.1 u.2.2.1 u.2.2.2 202 (lsv (rl lv)) (by omega) (by omega)) (cwV 2 hts gX1_proves_X1_sameIds rfl rfl rfl (by decide +kernel) ⟨Nat.le_of_ble_eq_true rfl, Nat.le_of_ble_eq_true rfl⟩) (va_recv hK hP (ci := 1) (q0 := 0) rfl rfl) hK hP hD hS hZ rfl hl.1 rfl (Nat.le_of_ble_eq_true rfl) ⟨Nat.zero_le _, Nat.zero_le _⟩ dX1_proves_123 (fun r_4 _ H locs hw hP hD hS => ?_)
    have hw : r_4 = (bz (sm (nd (pn id 202 (pvh lv i0 id (lfh tp tl) 8)) 202) (nd (pn id 202 (pvh lv i0 id (lfh tp tl) 8)) (lsv (rl lv))) 8)) := hw
    subst hw
    have hP : va_P D vwCl (wk q cB cI tl lv lb u.1 tp ll (pn id 202 (pvh lv i0 id (lfh tp tl) 8)) u.2.1 u.2.2.1 u.2.2.2) H := hP
    have hD : va_D A (wk q cB cI tl lv lb u.1 tp ll (pn id 202 (pvh lv i0 id (lfh tp tl) 8)) u.2.1 u.2.2.1 u.2.2.2) := hD
    refine lv_if_eq (tgt := 133) hx hb dX1_proves_126 (by decide) (fun c_126 => ?_) (fun c_126 => ?_)
    · have c_126 : (sm (nd (pn id 202 (pvh lv i0 id (lfh tp tl) 8)) 202) (nd (pn id 202 (pvh lv i0 id (lfh tp tl) 8)) (lsv (rl lv))) 8) = false := bz_0 c_126
      refine lv_iconst (v := ((0 : Int32))) hx hb dX1_proves_133 (by decide) ?_
      exact kr_i (u) hx hb hr hlocks hK hP hD hS (by first | exact pv_end1 (lsv_fit2 _ hr8) c_126 | exact pv_end0 (lsv_fit2 _ hr8) c_126) dX1_proves_134
    · have c_126 : (sm (nd (pn id 202 (pvh lv i0 id (lfh tp tl) 8)) 202) (nd (pn id 202 (pvh lv i0 id (lfh tp tl) 8)) (lsv (rl lv))) 8) = true := bz_1 c_126
      refine lv_iconst (v := ((1 : Int32))) hx hb dX1_proves_129 (by decide) ?_
      refine lv_goto (tgt := 134) hx hb dX1_proves_130 (by decide) ?_
      exact kr_i (u) hx hb hr hlocks hK hP hD hS (by first | exact pv_end1 (lsv_fit2 _ hr8) c_126 | exact pv_end0 (lsv_fit2 _ hr8) c_126) dX1_proves_134
  · have c_27 : i < 8 := kn_nle c_27 (by omega) (by omega)
    have hlt : i < 8 := c_27
    refine lv_iload_n hx hb dX1_proves_30 rfl (lv_at hl 1 rfl) ?_
    refine lv_iload_n hx hb dX1_proves_31 rfl (lv_at hl 3 rfl) ?_
    refine lv_ishr hx hb dX1_proves_32 ?_
    refine kp_i (y := (nI (i0 / 2 ^ i))) (nt_sh (by omega) (by omega)) ?_
    refine lv_istore (lv' := [(4, .int (nI (i0 / 2 ^ i))), (0, .ref (q 0)), (1, .int (nI i0)), (2, .int (nI (wdl lv i))), (3, .int (nI i))]) hx hb dX1_proves_33 hl (by decide) rfl (fun ls hl => ?_)
    refine lv_iload hx hb dX1_proves_35 (lv_at hl 0 rfl) ?_
    refine lv_iload_n hx hb dX1_proves_37 rfl (lv_at hl 3 rfl) ?_
    refine kcs_i (As := [.int (nI (i0 / 2 ^ i)), .int (nI (wdl lv i))]) (rest := []) ⟨hx, hb, hml, hown, hts⟩ (c_hasOneBeside l D A q cB cI (wk q cB cI tl lv lb u.1 tp ll (pn id 202 (pvh lv i0 id (lfh tp tl) i)) u.2.1 u.2.2.1 u.2.2.2) (i0 / 2 ^ i) (wdl lv i) (by omega) (by omega)) (cwS 2 hts gX1_proves_X1_hasOneBeside rfl rfl rfl (by decide +kernel) ⟨Nat.le_of_ble_eq_true rfl, Nat.le_of_ble_eq_true rfl⟩) hK hP hD hS hZ rfl hl.1 rfl (Nat.le_of_ble_eq_true rfl) ⟨Nat.zero_le _, Nat.zero_le _⟩ dX1_proves_38 (fun r_5 _ H locs hw hP hD hS => ?_)
    have hw : r_5 = (bz (decide (xo (i0 / 2 ^ i) < (wdl lv i)))) := hw
    subst hw
    have hP : va_P D vwCl (wk q cB cI tl lv lb u.1 tp ll (pn id 202 (pvh lv i0 id (lfh tp tl) i)) u.2.1 u.2.2.1 u.2.2.2) H := hP
    have hD : va_D A (wk q cB cI tl lv lb u.1 tp ll (pn id 202 (pvh lv i0 id (lfh tp tl) i)) u.2.1 u.2.2.1 u.2.2.2) := hD
    refine lv_if_eq (tgt := 100) hx hb dX1_proves_41 (by decide) (fun c_41 => ?_) (fun c_41 => ?_)
    · have c_41 : (decide (xo (i0 / 2 ^ i) < (wdl lv i))) = false := bz_0 c_41
      have c_41 : hbt lv i0 i = false := c_41
      rw [← pv_f c_41] at hP hD
      have hP : va_P D vwCl (wk q cB cI tl lv lb u.1 tp ll (pn id 202 (pvh lv i0 id (lfh tp tl) (i + 1))) u.2.1 u.2.2.1 u.2.2.2) H := hP
      have hD : va_D A (wk q cB cI tl lv lb u.1 tp ll (pn id 202 (pvh lv i0 id (lfh tp tl) (i + 1))) u.2.1 u.2.2.1 u.2.2.2) := hD
      refine lv_iload_n hx hb dX1_proves_100 rfl (lv_at hl 3 rfl) ?_
      refine kcs_i (As := [.int (nI (wdl lv i))]) (rest := []) ⟨hx, hb, hml, hown, hts⟩ (c_widthAbove l D A q cB cI (wk q cB cI tl lv lb u.1 tp ll (pn id 202 (pvh lv i0 id (lfh tp tl) (i + 1))) u.2.1 u.2.2.1 u.2.2.2) (wdl lv i) (by omega)) (cwS 1 hts gX1_proves_X1_widthAbove rfl rfl rfl (by decide +kernel) ⟨Nat.le_of_ble_eq_true rfl, Nat.le_of_ble_eq_true rfl⟩) hK hP hD hS hZ rfl hl.1 rfl (Nat.le_of_ble_eq_true rfl) ⟨Nat.zero_le _, Nat.zero_le _⟩ dX1_proves_101 (fun r_6 _ H locs hw hP hD hS => ?_)
      have hw : r_6 = (nI (((wdl lv i) + 1) / 2)) := hw
      subst hw
      have hP : va_P D vwCl (wk q cB cI tl lv lb u.1 tp ll (pn id 202 (pvh lv i0 id (lfh tp tl) (i + 1))) u.2.1 u.2.2.1 u.2.2.2) H := hP
      have hD : va_D A (wk q cB cI tl lv lb u.1 tp ll (pn id 202 (pvh lv i0 id (lfh tp tl) (i + 1))) u.2.1 u.2.2.1 u.2.2.2) := hD
      refine lv_istore_n (lv' := [(2, .int (nI (((wdl lv i) + 1) / 2))), (4, .int (nI (i0 / 2 ^ i))), (0, .ref (q 0)), (1, .int (nI i0)), (3, .int (nI i))]) hx hb dX1_proves_104 rfl hl (by decide) rfl (fun ls hl => ?_)
      refine lv_iinc (v := (nI (i + 1))) (lv' := [(3, .int (nI (i + 1))), (2, .int (nI (((wdl lv i) + 1) / 2))), (4, .int (nI (i0 / 2 ^ i))), (0, .ref (q 0)), (1, .int (nI i0))]) hx hb dX1_proves_105 hl (k := 4) rfl (kn_inc _ _ 1 rfl) (by decide) rfl (fun ls hl => ?_)
      refine lv_goto (tgt := 24) hx hb dX1_proves_108 (by decide) ?_
      exact ih hlt _ _ _ ⟨u, hP, hD, hS, (lv_sub hl [3, 4, 1, 0] rfl)⟩
    · have c_41 : (decide (xo (i0 / 2 ^ i) < (wdl lv i))) = true := bz_1 c_41
      have c_41 : hbt lv i0 i = true := c_41
      have hft := fit_x2 h1 h2 hlt c_41
      refine lv_iload_n hx hb dX1_proves_44 rfl (lv_at hl 4 rfl) ?_
      refine lv_iload hx hb dX1_proves_45 (lv_at hl 0 rfl) ?_
      refine kcs_i (As := [.int (nI i), .int (nI (i0 / 2 ^ i))]) (rest := []) ⟨hx, hb, hml, hown, hts⟩ (c_nodeBeside l D A q cB cI (wk q cB cI tl lv lb u.1 tp ll (pn id 202 (pvh lv i0 id (lfh tp tl) i)) u.2.1 u.2.2.1 u.2.2.2) i (i0 / 2 ^ i) (by omega) (by omega)) (cwS 2 hts gX1_proves_X1_nodeBeside rfl rfl rfl (by decide +kernel) ⟨Nat.le_of_ble_eq_true rfl, Nat.le_of_ble_eq_true rfl⟩) hK hP hD hS hZ rfl hl.1 rfl (Nat.le_of_ble_eq_true rfl) ⟨Nat.zero_le _, Nat.zero_le _⟩ dX1_proves_47 (fun r_7 _ H locs hw hP hD hS => ?_)
      have hw : r_7 = (nI (lsv i + xo (i0 / 2 ^ i))) := hw
      subst hw
      have hP : va_P D vwCl (wk q cB cI tl lv lb u.1 tp ll (pn id 202 (pvh lv i0 id (lfh tp tl) i)) u.2.1 u.2.2.1 u.2.2.2) H := hP
      have hD : va_D A (wk q cB cI tl lv lb u.1 tp ll (pn id 202 (pvh lv i0 id (lfh tp tl) i)) u.2.1 u.2.2.1 u.2.2.2) := hD
      refine lv_istore (lv' := [(5, .int (nI (lsv i + xo (i0 / 2 ^ i)))), (4, .int (nI (i0 / 2 ^ i))), (0, .ref (q 0)), (1, .int (nI i0)), (2, .int (nI (wdl lv i))), (3, .int (nI i))]) hx hb dX1_proves_50 hl (by decide) rfl (fun ls hl => ?_)
      refine lv_iload hx hb dX1_proves_52 (lv_at hl 1 rfl) ?_
      refine lv_iconst (v := (nI (1))) hx hb dX1_proves_54 (by decide) ?_
      refine lv_iand hx hb dX1_proves_55 ?_
      refine kp_i (y := (nI (i0 / 2 ^ i % 2))) (nt_od _ (by omega)) ?_
      refine lv_iconst (v := (nI (1))) hx hb dX1_proves_56 (by decide) ?_
      refine lv_icmp_ne (tgt := 64) hx hb dX1_proves_57 (by decide) (fun c_57 => ?_) (fun c_57 => ?_)
      · have c_57 : (i0 / 2 ^ i % 2) ≠ 1 := kn_ne c_57 (by omega) (by omega)
        refine lv_iconst (v := ((0 : Int32))) hx hb dX1_proves_64 (by decide) ?_
        refine lv_istore (lv' := [(6, .int ((0 : Int32))), (5, .int (nI (lsv i + xo (i0 / 2 ^ i)))), (4, .int (nI (i0 / 2 ^ i))), (0, .ref (q 0)), (1, .int (nI i0)), (2, .int (nI (wdl lv i))), (3, .int (nI i))]) hx hb dX1_proves_65 hl (by decide) rfl (fun ls hl => ?_)
        refine lv_aload_n hx hb dX1_proves_67 rfl (lv_at hl 3 rfl) ?_
        refine lv_iload hx hb dX1_proves_68 (lv_at hl 0 rfl) ?_
        refine lv_if_eq (tgt := 78) hx hb dX1_proves_70 (by decide) (fun c_70 => ?_) (fun c_70 => absurd c_70 (by decide))
        refine lv_sipush (v := (nI (202))) hx hb dX1_proves_78 (by decide) ?_
        refine lv_iload hx hb dX1_proves_81 (lv_at hl 0 rfl) ?_
        refine lv_if_eq (tgt := 92) hx hb dX1_proves_83 (by decide) (fun c_83 => ?_) (fun c_83 => absurd c_83 (by decide))
        refine lv_iload hx hb dX1_proves_92 (lv_at hl 1 rfl) ?_
        refine lv_sipush (v := (nI (202))) hx hb dX1_proves_94 (by decide) ?_
        refine kc_v (As := [.int (nI 202), .int (nI (lsv i + xo (i0 / 2 ^ i))), .int (nI 202)]) (rest := []) ⟨hx, hb, hml, hown, hts⟩ (c_join l D A q cB cI tl lv lb u.1 tp ll (pn id 202 (pvh lv i0 id (lfh tp tl) i)) u.2.1 u.2.2.1 u.2.2.2 202 (lsv i + xo (i0 / 2 ^ i)) 202 (by omega) (by omega) (by decide)) (cwV 3 hts gX1_proves_X1_join rfl rfl rfl (by decide +kernel) ⟨Nat.le_of_ble_eq_true rfl, Nat.le_of_ble_eq_true rfl⟩) (va_recv hK hP (ci := 1) (q0 := 0) rfl rfl) hK hP hD hS hZ rfl hl.1 rfl (Nat.le_of_ble_eq_true rfl) ⟨Nat.zero_le _, Nat.zero_le _⟩ dX1_proves_97 (fun u_8 H locs _ hP hD hS => ?_)
        have hP : va_P D vwCl (wk q cB cI tl lv lb u_8.1 tp ll (pn (pn id 202 (pvh lv i0 id (lfh tp tl) i)) 202 (ndh (nd (pn id 202 (pvh lv i0 id (lfh tp tl) i)) 202) (nd (pn id 202 (pvh lv i0 id (lfh tp tl) i)) (lsv i + xo (i0 / 2 ^ i))))) u_8.2.1 u_8.2.2.1 u_8.2.2.2) H := hP
        have hD : va_D A (wk q cB cI tl lv lb u_8.1 tp ll (pn (pn id 202 (pvh lv i0 id (lfh tp tl) i)) 202 (ndh (nd (pn id 202 (pvh lv i0 id (lfh tp tl) i)) 202) (nd (pn id 202 (pvh lv i0 id (lfh tp tl) i)) (lsv i + xo (i0 / 2 ^ i))))) u_8.2.1 u_8.2.2.1 u_8.2.2.2) := hD
        first | rw [pv_o c_41 hft c_57] at hP hD | rw [pv_e c_41 hft c_57] at hP hD
        have hP : va_P D vwCl (wk q cB cI tl lv lb u_8.1 tp ll (pn id 202 (pvh lv i0 id (lfh tp tl) (i + 1))) u_8.2.1 u_8.2.2.1 u_8.2.2.2) H := hP
        have hD : va_D A (wk q cB cI tl lv lb u_8.1 tp ll (pn id 202 (pvh lv i0 id (lfh tp tl) (i + 1))) u_8.2.1 u_8.2.2.1 u_8.2.2.2) := hD
        refine lv_iload_n hx hb dX1_proves_100 rfl (lv_at hl 5 rfl) ?_
        refine kcs_i (As := [.int (nI (wdl lv i))]) (rest := []) ⟨hx, hb, hml, hown, hts⟩ (c_widthAbove l D A q cB cI (wk q cB cI tl lv lb u_8.1 tp ll (pn id 202 (pvh lv i0 id (lfh tp tl) (i + 1))) u_8.2.1 u_8.2.2.1 u_8.2.2.2) (wdl lv i) (by omega)) (cwS 1 hts gX1_proves_X1_widthAbove rfl rfl rfl (by decide +kernel) ⟨Nat.le_of_ble_eq_true rfl, Nat.le_of_ble_eq_true rfl⟩) hK hP hD hS hZ rfl hl.1 rfl (Nat.le_of_ble_eq_true rfl) ⟨Nat.zero_le _, Nat.zero_le _⟩ dX1_proves_101 (fun r_9 _ H locs hw hP hD hS => ?_)
        have hw : r_9 = (nI (((wdl lv i) + 1) / 2)) := hw
        subst hw
        have hP : va_P D vwCl (wk q cB cI tl lv lb u_8.1 tp ll (pn id 202 (pvh lv i0 id (lfh tp tl) (i + 1))) u_8.2.1 u_8.2.2.1 u_8.2.2.2) H := hP
        have hD : va_D A (wk q cB cI tl lv lb u_8.1 tp ll (pn id 202 (pvh lv i0 id (lfh tp tl) (i + 1))) u_8.2.1 u_8.2.2.1 u_8.2.2.2) := hD
        refine lv_istore_n (lv' := [(2, .int (nI (((wdl lv i) + 1) / 2))), (6, .int ((0 : Int32))), (5, .int (nI (lsv i + xo (i0 / 2 ^ i)))), (4, .int (nI (i0 / 2 ^ i))), (0, .ref (q 0)), (1, .int (nI i0)), (3, .int (nI i))]) hx hb dX1_proves_104 rfl hl (by decide) rfl (fun ls hl => ?_)
        refine lv_iinc (v := (nI (i + 1))) (lv' := [(3, .int (nI (i + 1))), (2, .int (nI (((wdl lv i) + 1) / 2))), (6, .int ((0 : Int32))), (5, .int (nI (lsv i + xo (i0 / 2 ^ i)))), (4, .int (nI (i0 / 2 ^ i))), (0, .ref (q 0)), (1, .int (nI i0))]) hx hb dX1_proves_105 hl (k := 6) rfl (kn_inc _ _ 1 rfl) (by decide) rfl (fun ls hl => ?_)
        refine lv_goto (tgt := 24) hx hb dX1_proves_108 (by decide) ?_
        exact ih hlt _ _ _ ⟨u_8, hP, hD, hS, (lv_sub hl [5, 6, 1, 0] rfl)⟩
      · have c_57 : (i0 / 2 ^ i % 2) = 1 := kn_eq c_57 (by omega) (by omega)
        refine lv_iconst (v := ((1 : Int32))) hx hb dX1_proves_60 (by decide) ?_
        refine lv_goto (tgt := 65) hx hb dX1_proves_61 (by decide) ?_
        refine lv_istore (lv' := [(6, .int ((1 : Int32))), (5, .int (nI (lsv i + xo (i0 / 2 ^ i)))), (4, .int (nI (i0 / 2 ^ i))), (0, .ref (q 0)), (1, .int (nI i0)), (2, .int (nI (wdl lv i))), (3, .int (nI i))]) hx hb dX1_proves_65 hl (by decide) rfl (fun ls hl => ?_)
        refine lv_aload_n hx hb dX1_proves_67 rfl (lv_at hl 3 rfl) ?_
        refine lv_iload hx hb dX1_proves_68 (lv_at hl 0 rfl) ?_
        refine lv_if_eq (tgt := 78) hx hb dX1_proves_70 (by decide) (fun c_70 => absurd c_70 (by decide)) (fun c_70 => ?_)
        refine lv_iload hx hb dX1_proves_73 (lv_at hl 1 rfl) ?_
        refine lv_goto (tgt := 81) hx hb dX1_proves_75 (by decide) ?_
        refine lv_iload hx hb dX1_proves_81 (lv_at hl 0 rfl) ?_
        refine lv_if_eq (tgt := 92) hx hb dX1_proves_83 (by decide) (fun c_83 => absurd c_83 (by decide)) (fun c_83 => ?_)
        refine lv_sipush (v := (nI (202))) hx hb dX1_proves_86 (by decide) ?_
        refine lv_goto (tgt := 94) hx hb dX1_proves_89 (by decide) ?_
        refine lv_sipush (v := (nI (202))) hx hb dX1_proves_94 (by decide) ?_
        refine kc_v (As := [.int (nI (lsv i + xo (i0 / 2 ^ i))), .int (nI 202), .int (nI 202)]) (rest := []) ⟨hx, hb, hml, hown, hts⟩ (c_join l D A q cB cI tl lv lb u.1 tp ll (pn id 202 (pvh lv i0 id (lfh tp tl) i)) u.2.1 u.2.2.1 u.2.2.2 (lsv i + xo (i0 / 2 ^ i)) 202 202 (by omega) (by omega) (by decide)) (cwV 3 hts gX1_proves_X1_join rfl rfl rfl (by decide +kernel) ⟨Nat.le_of_ble_eq_true rfl, Nat.le_of_ble_eq_true rfl⟩) (va_recv hK hP (ci := 1) (q0 := 0) rfl rfl) hK hP hD hS hZ rfl hl.1 rfl (Nat.le_of_ble_eq_true rfl) ⟨Nat.zero_le _, Nat.zero_le _⟩ dX1_proves_97 (fun u_10 H locs _ hP hD hS => ?_)
        have hP : va_P D vwCl (wk q cB cI tl lv lb u_10.1 tp ll (pn (pn id 202 (pvh lv i0 id (lfh tp tl) i)) 202 (ndh (nd (pn id 202 (pvh lv i0 id (lfh tp tl) i)) (lsv i + xo (i0 / 2 ^ i))) (nd (pn id 202 (pvh lv i0 id (lfh tp tl) i)) 202))) u_10.2.1 u_10.2.2.1 u_10.2.2.2) H := hP
        have hD : va_D A (wk q cB cI tl lv lb u_10.1 tp ll (pn (pn id 202 (pvh lv i0 id (lfh tp tl) i)) 202 (ndh (nd (pn id 202 (pvh lv i0 id (lfh tp tl) i)) (lsv i + xo (i0 / 2 ^ i))) (nd (pn id 202 (pvh lv i0 id (lfh tp tl) i)) 202))) u_10.2.1 u_10.2.2.1 u_10.2.2.2) := hD
        first | rw [pv_o c_41 hft c_57] at hP hD | rw [pv_e c_41 hft c_57] at hP hD
        have hP : va_P D vwCl (wk q cB cI tl lv lb u_10.1 tp ll (pn id 202 (pvh lv i0 id (lfh tp tl) (i + 1))) u_10.2.1 u_10.2.2.1 u_10.2.2.2) H := hP
        have hD : va_D A (wk q cB cI tl lv lb u_10.1 tp ll (pn id 202 (pvh lv i0 id (lfh tp tl) (i + 1))) u_10.2.1 u_10.2.2.1 u_10.2.2.2) := hD
        refine lv_iload_n hx hb dX1_proves_100 rfl (lv_at hl 5 rfl) ?_
        refine kcs_i (As := [.int (nI (wdl lv i))]) (rest := []) ⟨hx, hb, hml, hown, hts⟩ (c_widthAbove l D A q cB cI (wk q cB cI tl lv lb u_10.1 tp ll (pn id 202 (pvh lv i0 id (lfh tp tl) (i + 1))) u_10.2.1 u_10.2.2.1 u_10.2.2.2) (wdl lv i) (by omega)) (cwS 1 hts gX1_proves_X1_widthAbove rfl rfl rfl (by decide +kernel) ⟨Nat.le_of_ble_eq_true rfl, Nat.le_of_ble_eq_true rfl⟩) hK hP hD hS hZ rfl hl.1 rfl (Nat.le_of_ble_eq_true rfl) ⟨Nat.zero_le _, Nat.zero_le _⟩ dX1_proves_101 (fun r_11 _ H locs hw hP hD hS => ?_)
        have hw : r_11 = (nI (((wdl lv i) + 1) / 2)) := hw
        subst hw
        have hP : va_P D vwCl (wk q cB cI tl lv lb u_10.1 tp ll (pn id 202 (pvh lv i0 id (lfh tp tl) (i + 1))) u_10.2.1 u_10.2.2.1 u_10.2.2.2) H := hP
        have hD : va_D A (wk q cB cI tl lv lb u_10.1 tp ll (pn id 202 (pvh lv i0 id (lfh tp tl) (i + 1))) u_10.2.1 u_10.2.2.1 u_10.2.2.2) := hD
        refine lv_istore_n (lv' := [(2, .int (nI (((wdl lv i) + 1) / 2))), (6, .int ((1 : Int32))), (5, .int (nI (lsv i + xo (i0 / 2 ^ i)))), (4, .int (nI (i0 / 2 ^ i))), (0, .ref (q 0)), (1, .int (nI i0)), (3, .int (nI i))]) hx hb dX1_proves_104 rfl hl (by decide) rfl (fun ls hl => ?_)
        refine lv_iinc (v := (nI (i + 1))) (lv' := [(3, .int (nI (i + 1))), (2, .int (nI (((wdl lv i) + 1) / 2))), (6, .int ((1 : Int32))), (5, .int (nI (lsv i + xo (i0 / 2 ^ i)))), (4, .int (nI (i0 / 2 ^ i))), (0, .ref (q 0)), (1, .int (nI i0))]) hx hb dX1_proves_105 hl (k := 6) rfl (kn_inc _ _ 1 rfl) (by decide) rfl (fun ls hl => ?_)
        refine lv_goto (tgt := 24) hx hb dX1_proves_108 (by decide) ?_
        exact ih hlt _ _ _ ⟨u_10, hP, hD, hS, (lv_sub hl [5, 6, 1, 0] rfl)⟩

set_option maxHeartbeats 4000000 in
set_option maxRecDepth 100000 in
theorem c_count_0 (l : Launch) (D : va_G) (A : Nat → Prop) (q : Nat → Nat) (cB cI : ClassId) (tl lv lb ln : Nat) (tp : Nat → Int32) (ll : Nat → Nat) (id ms sc st : Nat → Int32) : Ki (S := Unit) l yX1_count wsX1_count { frames := 2, cells := 0, slots := 0, locals := 42 } D vwCl [(cB, .byte), (cI, .int)] A (zk q) [.ref (q 0), .int ((0 : Int32))] (wk q cB cI tl lv lb ln tp ll id ms sc st) (fun r _ => r = (nI (tl))) (fun _ => (wk q cB cI tl lv lb ln tp ll id ms sc st)) := by
  refine Met.ofW (cc := cX1_count) (maxL := 2) (ret := (some .int)) (by decide) rfl ?_
  intro p e s m args below meth c s₁ B hml hv
  obtain ⟨rfl, hP, hK, hD, hZ⟩ := hv
  have hx := B.exec
  have hb := B.bytes
  have hr := B.returns
  have hts := atoms_spec (ws := wsX1_count) B.pre
  have hown : s.vm.findClass RX1 = some m.cls := findClass_of_methodNamed B.named
  have hlocks := B.notSynchronized
  have hS : va_S A s.heap s.heap [] := va_S.rf
  have hin_1 : ∀ w ∈ u_ws RX1 TX1 7, w ∈ wsX1_count := by decide +kernel
  have lk_27 := hts (.fieldLink RX1 27 "RootDesk" "tapeLength" "I") (by decide +kernel)
  have hl := lv_entry ([.ref (q 0), .int ((0 : Int32))]) (n := 2) (Nat.le_of_ble_eq_true rfl)
  rw [lg_entry_eq]
  generalize (lg_sl ([.ref (q 0), .int ((0 : Int32))]) ++ List.replicate (2 - (lg_sl ([.ref (q 0), .int ((0 : Int32))])).length) Slot.unset).toArray = ls at hl ⊢
  have hl : lv_has ls 2 [(0, .ref (q 0)), (1, .int ((0 : Int32)))] := hl
  refine lv_iload_n hx hb dX1_count_0 rfl (lv_at hl 1 rfl) ?_
  refine lv_tableIn (tgt := 32) hx hb dX1_count_1 (by decide) (by decide) rfl (by decide) ?_
  refine lv_aload_n hx hb dX1_count_32 rfl (lv_at hl 0 rfl) ?_
  refine va_get (D := D) (ci := 1) (v := .int (nI tl)) (C := RX1) (T := TX1) (N := 7) hx hb hts hin_1 hown hK hP 0 rfl rfl 1 (by decide) lk_27 (fun _ h9 => h9) rfl dX1_count_33 ?_
  exact kr_i (()) hx hb hr hlocks hK hP hD hS (rfl) dX1_count_36

set_option maxHeartbeats 4000000 in
set_option maxRecDepth 100000 in
theorem c_count_1 (l : Launch) (D : va_G) (A : Nat → Prop) (q : Nat → Nat) (cB cI : ClassId) (tl lv lb ln : Nat) (tp : Nat → Int32) (ll : Nat → Nat) (id ms sc st : Nat → Int32) : Ki (S := Unit) l yX1_count wsX1_count { frames := 2, cells := 0, slots := 0, locals := 42 } D vwCl [(cB, .byte), (cI, .int)] A (zk q) [.ref (q 0), .int ((1 : Int32))] (wk q cB cI tl lv lb ln tp ll id ms sc st) (fun r _ => r = (nI (lv))) (fun _ => (wk q cB cI tl lv lb ln tp ll id ms sc st)) := by
  refine Met.ofW (cc := cX1_count) (maxL := 2) (ret := (some .int)) (by decide) rfl ?_
  intro p e s m args below meth c s₁ B hml hv
  obtain ⟨rfl, hP, hK, hD, hZ⟩ := hv
  have hx := B.exec
  have hb := B.bytes
  have hr := B.returns
  have hts := atoms_spec (ws := wsX1_count) B.pre
  have hown : s.vm.findClass RX1 = some m.cls := findClass_of_methodNamed B.named
  have hlocks := B.notSynchronized
  have hS : va_S A s.heap s.heap [] := va_S.rf
  have hin_1 : ∀ w ∈ u_ws RX1 TX1 7, w ∈ wsX1_count := by decide +kernel
  have lk_31 := hts (.fieldLink RX1 31 "RootDesk" "leaves" "I") (by decide +kernel)
  have hl := lv_entry ([.ref (q 0), .int ((1 : Int32))]) (n := 2) (Nat.le_of_ble_eq_true rfl)
  rw [lg_entry_eq]
  generalize (lg_sl ([.ref (q 0), .int ((1 : Int32))]) ++ List.replicate (2 - (lg_sl ([.ref (q 0), .int ((1 : Int32))])).length) Slot.unset).toArray = ls at hl ⊢
  have hl : lv_has ls 2 [(0, .ref (q 0)), (1, .int ((1 : Int32)))] := hl
  refine lv_iload_n hx hb dX1_count_0 rfl (lv_at hl 1 rfl) ?_
  refine lv_tableIn (tgt := 37) hx hb dX1_count_1 (by decide) (by decide) rfl (by decide) ?_
  refine lv_aload_n hx hb dX1_count_37 rfl (lv_at hl 0 rfl) ?_
  refine va_get (D := D) (ci := 1) (v := .int (nI lv)) (C := RX1) (T := TX1) (N := 7) hx hb hts hin_1 hown hK hP 0 rfl rfl 3 (by decide) lk_31 (fun _ h9 => h9) rfl dX1_count_38 ?_
  exact kr_i (()) hx hb hr hlocks hK hP hD hS (rfl) dX1_count_41

set_option maxHeartbeats 4000000 in
set_option maxRecDepth 100000 in
theorem c_count_2 (l : Launch) (D : va_G) (A : Nat → Prop) (q : Nat → Nat) (cB cI : ClassId) (tl lv lb ln : Nat) (tp : Nat → Int32) (ll : Nat → Nat) (id ms sc st : Nat → Int32) (h1 : lv ≤ 100) : Ki (S := Unit) l yX1_count wsX1_count { frames := 2, cells := 0, slots := 0, locals := 42 } D vwCl [(cB, .byte), (cI, .int)] A (zk q) [.ref (q 0), .int ((2 : Int32))] (wk q cB cI tl lv lb ln tp ll id ms sc st) (fun r _ => r = (nI (if lv < 1 then 0 else rl lv + 1))) (fun _ => (wk q cB cI tl lv lb ln tp ll id ms sc st)) := by
  refine Met.ofW (cc := cX1_count) (maxL := 2) (ret := (some .int)) (by decide) rfl ?_
  intro p e s m args below meth c s₁ B hml hv
  obtain ⟨rfl, hP, hK, hD, hZ⟩ := hv
  have hx := B.exec
  have hb := B.bytes
  have hr := B.returns
  have hts := atoms_spec (ws := wsX1_count) B.pre
  have hown : s.vm.findClass RX1 = some m.cls := findClass_of_methodNamed B.named
  have hlocks := B.notSynchronized
  have hS : va_S A s.heap s.heap [] := va_S.rf
  have hin_1 : ∀ w ∈ u_ws RX1 TX1 7, w ∈ wsX1_count := by decide +kernel
  have lk_31 := hts (.fieldLink RX1 31 "RootDesk" "leaves" "I") (by decide +kernel)
  have hl := lv_entry ([.ref (q 0), .int ((2 : Int32))]) (n := 2) (Nat.le_of_ble_eq_true rfl)
  rw [lg_entry_eq]
  generalize (lg_sl ([.ref (q 0), .int ((2 : Int32))]) ++ List.replicate (2 - (lg_sl ([.ref (q 0), .int ((2 : Int32))])).length) Slot.unset).toArray = ls at hl ⊢
  have hl : lv_has ls 2 [(0, .ref (q 0)), (1, .int ((2 : Int32)))] := hl
  refine lv_iload_n hx hb dX1_count_0 rfl (lv_at hl 1 rfl) ?_
  refine lv_tableIn (tgt := 42) hx hb dX1_count_1 (by decide) (by decide) rfl (by decide) ?_
  refine lv_aload_n hx hb dX1_count_42 rfl (lv_at hl 0 rfl) ?_
  refine va_get (D := D) (ci := 1) (v := .int (nI lv)) (C := RX1) (T := TX1) (N := 7) hx hb hts hin_1 hown hK hP 0 rfl rfl 3 (by decide) lk_31 (fun _ h9 => h9) rfl dX1_count_43 ?_
  refine lv_iconst (v := (nI (1))) hx hb dX1_count_46 (by decide) ?_
  refine lv_icmp_ge (tgt := 54) hx hb dX1_count_47 (by decide) (fun c_47 => ?_) (fun c_47 => ?_)
  · have c_47 : 1 ≤ lv := kn_le c_47 (by omega) (by omega)
    refine lv_aload_n hx hb dX1_count_54 rfl (lv_at hl 0 rfl) ?_
    refine kc_i (As := []) (rest := []) ⟨hx, hb, hml, hown, hts⟩ (c_rootLevel l D A q cB cI tl lv lb ln tp ll id ms sc st (by omega)) (cwV 0 hts gX1_count_X1_rootLevel rfl rfl rfl (by decide +kernel) ⟨Nat.le_of_ble_eq_true rfl, Nat.le_of_ble_eq_true rfl⟩) (va_recv hK hP (ci := 1) (q0 := 0) rfl rfl) hK hP hD hS hZ rfl hl.1 rfl (Nat.le_of_ble_eq_true rfl) ⟨Nat.zero_le _, Nat.zero_le _⟩ dX1_count_55 (fun r_1 _ H locs hw hP hD hS => ?_)
    have hw : r_1 = (nI (rl lv)) := hw
    subst hw
    have hP : va_P D vwCl (wk q cB cI tl lv lb ln tp ll id ms sc st) H := hP
    have hD : va_D A (wk q cB cI tl lv lb ln tp ll id ms sc st) := hD
    refine lv_iconst (v := (nI (1))) hx hb dX1_count_58 (by decide) ?_
    refine lv_iadd hx hb dX1_count_59 ?_
    refine kp_i (nI_add _ _) ?_
    exact kr_i (()) hx hb hr hlocks hK hP hD hS (by first | rw [if_pos c_47] | rw [if_neg (by omega)]) dX1_count_60
  · have c_47 : lv < 1 := kn_nle c_47 (by omega) (by omega)
    refine lv_iconst (v := (nI (0))) hx hb dX1_count_50 (by decide) ?_
    refine lv_goto (tgt := 60) hx hb dX1_count_51 (by decide) ?_
    exact kr_i (()) hx hb hr hlocks hK hP hD hS (by first | rw [if_pos c_47] | rw [if_neg (by omega)]) dX1_count_60

set_option maxHeartbeats 4000000 in
set_option maxRecDepth 100000 in
theorem c_count_3 (l : Launch) (D : va_G) (A : Nat → Prop) (q : Nat → Nat) (cB cI : ClassId) (tl lv lb ln : Nat) (tp : Nat → Int32) (ll : Nat → Nat) (id ms sc st : Nat → Int32) : Ki (S := Unit) l yX1_count wsX1_count { frames := 2, cells := 0, slots := 0, locals := 42 } D vwCl [(cB, .byte), (cI, .int)] A (zk q) [.ref (q 0), .int ((3 : Int32))] (wk q cB cI tl lv lb ln tp ll id ms sc st) (fun r _ => r = (nI (lb))) (fun _ => (wk q cB cI tl lv lb ln tp ll id ms sc st)) := by
  refine Met.ofW (cc := cX1_count) (maxL := 2) (ret := (some .int)) (by decide) rfl ?_
  intro p e s m args below meth c s₁ B hml hv
  obtain ⟨rfl, hP, hK, hD, hZ⟩ := hv
  have hx := B.exec
  have hb := B.bytes
  have hr := B.returns
  have hts := atoms_spec (ws := wsX1_count) B.pre
  have hown : s.vm.findClass RX1 = some m.cls := findClass_of_methodNamed B.named
  have hlocks := B.notSynchronized
  have hS : va_S A s.heap s.heap [] := va_S.rf
  have hin_1 : ∀ w ∈ u_ws RX1 TX1 7, w ∈ wsX1_count := by decide +kernel
  have lk_34 := hts (.fieldLink RX1 34 "RootDesk" "leafBytes" "I") (by decide +kernel)
  have hl := lv_entry ([.ref (q 0), .int ((3 : Int32))]) (n := 2) (Nat.le_of_ble_eq_true rfl)
  rw [lg_entry_eq]
  generalize (lg_sl ([.ref (q 0), .int ((3 : Int32))]) ++ List.replicate (2 - (lg_sl ([.ref (q 0), .int ((3 : Int32))])).length) Slot.unset).toArray = ls at hl ⊢
  have hl : lv_has ls 2 [(0, .ref (q 0)), (1, .int ((3 : Int32)))] := hl
  refine lv_iload_n hx hb dX1_count_0 rfl (lv_at hl 1 rfl) ?_
  refine lv_tableIn (tgt := 61) hx hb dX1_count_1 (by decide) (by decide) rfl (by decide) ?_
  refine lv_aload_n hx hb dX1_count_61 rfl (lv_at hl 0 rfl) ?_
  refine va_get (D := D) (ci := 1) (v := .int (nI lb)) (C := RX1) (T := TX1) (N := 7) hx hb hts hin_1 hown hK hP 0 rfl rfl 4 (by decide) lk_34 (fun _ h9 => h9) rfl dX1_count_62 ?_
  exact kr_i (()) hx hb hr hlocks hK hP hD hS (rfl) dX1_count_65

set_option maxHeartbeats 4000000 in
set_option maxRecDepth 100000 in
theorem c_count_n (l : Launch) (D : va_G) (A : Nat → Prop) (q : Nat → Nat) (cB cI : ClassId) (tl lv lb ln : Nat) (tp : Nat → Int32) (ll : Nat → Nat) (id ms sc st : Nat → Int32) (x : Int32) (h1 : x.toInt < 0 ∨ 3 < x.toInt) : Ki (S := Unit) l yX1_count wsX1_count { frames := 2, cells := 0, slots := 0, locals := 42 } D vwCl [(cB, .byte), (cI, .int)] A (zk q) [.ref (q 0), .int x] (wk q cB cI tl lv lb ln tp ll id ms sc st) (fun r _ => r = ((-1 : Int32))) (fun _ => (wk q cB cI tl lv lb ln tp ll id ms sc st)) := by
  refine Met.ofW (cc := cX1_count) (maxL := 2) (ret := (some .int)) (by decide) rfl ?_
  intro p e s m args below meth c s₁ B hml hv
  obtain ⟨rfl, hP, hK, hD, hZ⟩ := hv
  have hx := B.exec
  have hb := B.bytes
  have hr := B.returns
  have hts := atoms_spec (ws := wsX1_count) B.pre
  have hown : s.vm.findClass RX1 = some m.cls := findClass_of_methodNamed B.named
  have hlocks := B.notSynchronized
  have hS : va_S A s.heap s.heap [] := va_S.rf
  have hl := lv_entry ([.ref (q 0), .int x]) (n := 2) (Nat.le_of_ble_eq_true rfl)
  rw [lg_entry_eq]
  generalize (lg_sl ([.ref (q 0), .int x]) ++ List.replicate (2 - (lg_sl ([.ref (q 0), .int x])).length) Slot.unset).toArray = ls at hl ⊢
  have hl : lv_has ls 2 [(0, .ref (q 0)), (1, .int x)] := hl
  refine lv_iload_n hx hb dX1_count_0 rfl (lv_at hl 1 rfl) ?_
  refine lv_tableOut (tgt := 66) hx hb dX1_count_1 h1 (by decide) ?_
  refine lv_iconst (v := ((-1 : Int32))) hx hb dX1_count_66 (by decide) ?_
  exact kr_i (()) hx hb hr hlocks hK hP hD hS (rfl) dX1_count_67
