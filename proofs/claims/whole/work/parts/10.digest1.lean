set_option maxHeartbeats 4000000 in
set_option maxRecDepth 100000 in
/-- turn: to the right -/
theorem c_D_turn (l : Launch) (D : va_G) (A : Nat → Prop) (q : Nat → Nat) (cB cI : ClassId) (ws : va_W) (w : Int32) (n : Int32) : Ki (S := Unit) l yX0_turn wsX0_turn { frames := 0, cells := 0, slots := 0, locals := 0 } D vwCl [(cB, .byte), (cI, .int)] A (zk q) [.int w, .int n] ws (fun r _ => r = (tn (w) (n))) (fun _ => ws) := by
  refine Met.ofW (cc := cX0_turn) (maxL := 2) (ret := (some .int)) (by decide) rfl ?_
  intro p e s m args below meth c s₁ B hml hv
  obtain ⟨rfl, hP, hK, hD, hZ⟩ := hv
  have hx := B.exec
  have hb := B.bytes
  have hr := B.returns
  have hts := atoms_spec (ws := wsX0_turn) B.pre
  have hown : s.vm.findClass RX0 = some m.cls := findClass_of_methodNamed B.named
  have hlocks := B.notSynchronized
  have hS : va_S A s.heap s.heap [] := va_S.rf
  have hl := lv_entry ([.int w, .int n]) (n := 2) (Nat.le_of_ble_eq_true rfl)
  rw [lg_entry_eq]
  generalize (lg_sl ([.int w, .int n]) ++ List.replicate (2 - (lg_sl ([.int w, .int n])).length) Slot.unset).toArray = ls at hl ⊢
  have hl : lv_has ls 2 [(0, .int w), (1, .int n)] := hl
  refine lv_iload_n hx hb dX0_turn_0 rfl (lv_at hl 0 rfl) ?_
  refine lv_iload_n hx hb dX0_turn_1 rfl (lv_at hl 1 rfl) ?_
  refine lv_iushr hx hb dX0_turn_2 rfl ?_
  refine lv_iload_n hx hb dX0_turn_3 rfl (lv_at hl 0 rfl) ?_
  refine lv_bipush (v := ((32 : Int32))) hx hb dX0_turn_4 (by decide) ?_
  refine lv_iload_n hx hb dX0_turn_6 rfl (lv_at hl 1 rfl) ?_
  refine lv_isub hx hb dX0_turn_7 ?_
  refine lv_ishl hx hb dX0_turn_8 ?_
  refine lv_ior hx hb dX0_turn_9 ?_
  exact kr_i (()) hx hb hr hlocks hK hP hD hS (rfl) dX0_turn_10

set_option maxHeartbeats 4000000 in
set_option maxRecDepth 100000 in
/-- begin: nothing taken -/
theorem c_D_begin (l : Launch) (D : va_G) (A : Nat → Prop) (q : Nat → Nat) (cB cI : ClassId) (tl lv lb ln : Nat) (tp : Nat → Int32) (ll : Nat → Nat) (id ms sc st : Nat → Int32) : Kv (S := Unit) l yX0_begin wsX0_begin { frames := 0, cells := 0, slots := 0, locals := 0 } D vwCl [(cB, .byte), (cI, .int)] A (zk q) [.ref (q 4)] (wk q cB cI tl lv lb ln tp ll id ms sc st) (fun _ => True) (fun _ => (wk q cB cI tl lv lb 0 tp ll id ms sc st)) := by
  refine Met.ofW (cc := cX0_begin) (maxL := 1) (ret := none) (by decide) rfl ?_
  intro p e s m args below meth c s₁ B hml hv
  obtain ⟨rfl, hP, hK, hD, hZ⟩ := hv
  have hx := B.exec
  have hb := B.bytes
  have hr := B.returns
  have hts := atoms_spec (ws := wsX0_begin) B.pre
  have hown : s.vm.findClass RX0 = some m.cls := findClass_of_methodNamed B.named
  have hlocks := B.notSynchronized
  have hS : va_S A s.heap s.heap [] := va_S.rf
  have hin_0 : ∀ w ∈ u_ws RX0 TX0 4, w ∈ wsX0_begin := by decide +kernel
  have lk_22 := hts (.fieldLink RX0 22 "RootDesk$Digest" "length" "I") (by decide +kernel)
  have hl := lv_entry ([.ref (q 4)]) (n := 1) (Nat.le_of_ble_eq_true rfl)
  rw [lg_entry_eq]
  generalize (lg_sl ([.ref (q 4)]) ++ List.replicate (1 - (lg_sl ([.ref (q 4)])).length) Slot.unset).toArray = ls at hl ⊢
  have hl : lv_has ls 1 [(0, .ref (q 4))] := hl
  refine lv_aload_n hx hb dX0_begin_0 rfl (lv_at hl 0 rfl) ?_
  refine lv_iconst (v := (nI (0))) hx hb dX0_begin_1 (by decide) ?_
  refine va_put (D := D) (ci := 0) (v := .int (nI 0)) (ty := .int) (C := RX0) (T := TX0) (N := 4) hx hb hts hin_0 tyX0 tyX0_ok nmX0 hown hK hP hD hS 4 rfl rfl 3 (by decide) lk_22 (fun _ h9 => h9) rfl (by decide +kernel) rfl rfl (Nat.le_of_ble_eq_true rfl) dX0_begin_2 (fun H locs hP hD hS => ?_)
  have hP : va_P D vwCl (wk q cB cI tl lv lb 0 tp ll id ms sc st) H := hP
  have hD : va_D A (wk q cB cI tl lv lb 0 tp ll id ms sc st) := hD
  exact kr_v (()) hx hb hr hlocks hK hP hD hS (trivial) dX0_begin_5

set_option maxHeartbeats 4000000 in
set_option maxRecDepth 100000 in
/-- takeByte: one byte more -/
theorem c_D_takeByte (l : Launch) (D : va_G) (A : Nat → Prop) (q : Nat → Nat) (cB cI : ClassId) (tl lv lb ln : Nat) (tp : Nat → Int32) (ll : Nat → Nat) (id ms sc st : Nat → Int32) (b : Int32) (h1 : ln < 192) : Kv (S := Unit) l yX0_takeByte wsX0_takeByte { frames := 0, cells := 0, slots := 0, locals := 0 } D vwCl [(cB, .byte), (cI, .int)] A (zk q) [.ref (q 4), .int b] (wk q cB cI tl lv lb ln tp ll id ms sc st) (fun _ => True) (fun _ => (wk q cB cI tl lv lb (ln + 1) tp ll id (upd ms ln (((b)).toInt8.toInt32)) sc st)) := by
  refine Met.ofW (cc := cX0_takeByte) (maxL := 2) (ret := none) (by decide) rfl ?_
  intro p e s m args below meth c s₁ B hml hv
  obtain ⟨rfl, hP, hK, hD, hZ⟩ := hv
  have hx := B.exec
  have hb := B.bytes
  have hr := B.returns
  have hts := atoms_spec (ws := wsX0_takeByte) B.pre
  have hown : s.vm.findClass RX0 = some m.cls := findClass_of_methodNamed B.named
  have hlocks := B.notSynchronized
  have hS : va_S A s.heap s.heap [] := va_S.rf
  have hin_0 : ∀ w ∈ u_ws RX0 TX0 4, w ∈ wsX0_takeByte := by decide +kernel
  have lk_11 := hts (.fieldLink RX0 11 "RootDesk$Digest" "message" "[B") (by decide +kernel)
  have lk_22 := hts (.fieldLink RX0 22 "RootDesk$Digest" "length" "I") (by decide +kernel)
  have hl := lv_entry ([.ref (q 4), .int b]) (n := 2) (Nat.le_of_ble_eq_true rfl)
  rw [lg_entry_eq]
  generalize (lg_sl ([.ref (q 4), .int b]) ++ List.replicate (2 - (lg_sl ([.ref (q 4), .int b])).length) Slot.unset).toArray = ls at hl ⊢
  have hl : lv_has ls 2 [(0, .ref (q 4)), (1, .int b)] := hl
  refine lv_aload_n hx hb dX0_takeByte_0 rfl (lv_at hl 0 rfl) ?_
  refine va_get (D := D) (ci := 0) (v := .int (nI ln)) (C := RX0) (T := TX0) (N := 4) hx hb hts hin_0 hown hK hP 4 rfl rfl 3 (by decide) lk_22 (fun _ h9 => h9) rfl dX0_takeByte_1 ?_
  refine lv_sipush (v := (nI (192))) hx hb dX0_takeByte_4 (by decide) ?_
  refine lv_icmp_ge (tgt := 31) hx hb dX0_takeByte_7 (by decide) (fun c_7 => absurd (kn_le c_7 (by omega) (by omega)) (by omega)) (fun c_7 => ?_)
  have c_7 : ln < 192 := kn_nle c_7 (by omega) (by omega)
  refine lv_aload_n hx hb dX0_takeByte_10 rfl (lv_at hl 0 rfl) ?_
  refine va_get (D := D) (ci := 0) (v := .ref (q 5)) (C := RX0) (T := TX0) (N := 4) hx hb hts hin_0 hown hK hP 4 rfl rfl 0 (by decide) lk_11 (fun _ h9 => h9) rfl dX0_takeByte_11 ?_
  refine lv_aload_n hx hb dX0_takeByte_14 rfl (lv_at hl 0 rfl) ?_
  refine va_get (D := D) (ci := 0) (v := .int (nI ln)) (C := RX0) (T := TX0) (N := 4) hx hb hts hin_0 hown hK hP 4 rfl rfl 3 (by decide) lk_22 (fun _ h9 => h9) rfl dX0_takeByte_15 ?_
  refine lv_iload_n hx hb dX0_takeByte_18 rfl (lv_at hl 1 rfl) ?_
  refine lv_i2b hx hb dX0_takeByte_19 rfl ?_
  refine kb_bast hx hb hK hP hD hS 5 0 rfl rfl (ln) (rfl) (by omega) (by decide) (pk_vb _) dX0_takeByte_20 (fun H locs hP hD hS => ?_)
  have hP : va_P D vwCl (wk q cB cI tl lv lb ln tp ll id (upd ms (ln) ((((b)).toInt8.toInt32))) sc st) H := hP
  have hD : va_D A (wk q cB cI tl lv lb ln tp ll id (upd ms (ln) ((((b)).toInt8.toInt32))) sc st) := hD
  refine lv_aload_n hx hb dX0_takeByte_21 rfl (lv_at hl 0 rfl) ?_
  refine lv_dup hx hb dX0_takeByte_22 rfl ?_
  refine va_get (D := D) (ci := 0) (v := .int (nI ln)) (C := RX0) (T := TX0) (N := 4) hx hb hts hin_0 hown hK hP 4 rfl rfl 3 (by decide) lk_22 (fun _ h9 => h9) rfl dX0_takeByte_23 ?_
  refine lv_iconst (v := (nI (1))) hx hb dX0_takeByte_26 (by decide) ?_
  refine lv_iadd hx hb dX0_takeByte_27 ?_
  refine kp_i (nI_add _ _) ?_
  refine va_put (D := D) (ci := 0) (v := .int (nI (ln + 1))) (ty := .int) (C := RX0) (T := TX0) (N := 4) hx hb hts hin_0 tyX0 tyX0_ok nmX0 hown hK hP hD hS 4 rfl rfl 3 (by decide) lk_22 (fun _ h9 => h9) rfl (by decide +kernel) rfl rfl (Nat.le_of_ble_eq_true rfl) dX0_takeByte_28 (fun H locs hP hD hS => ?_)
  have hP : va_P D vwCl (wk q cB cI tl lv lb (ln + 1) tp ll id (upd ms (ln) ((((b)).toInt8.toInt32))) sc st) H := hP
  have hD : va_D A (wk q cB cI tl lv lb (ln + 1) tp ll id (upd ms (ln) ((((b)).toInt8.toInt32))) sc st) := hD
  exact kr_v (()) hx hb hr hlocks hK hP hD hS (trivial) dX0_takeByte_31

set_option maxHeartbeats 4000000 in
set_option maxRecDepth 100000 in
/-- takeWord: four bytes -/
theorem c_D_takeWord (l : Launch) (D : va_G) (A : Nat → Prop) (q : Nat → Nat) (cB cI : ClassId) (tl lv lb ln : Nat) (tp : Nat → Int32) (ll : Nat → Nat) (id ms sc st : Nat → Int32) (w : Int32) (h1 : ln + 4 ≤ 192) : Kv (S := Unit) l yX0_takeWord wsX0_takeWord { frames := 1, cells := 0, slots := 0, locals := 21 } D vwCl [(cB, .byte), (cI, .int)] A (zk q) [.ref (q 4), .int w] (wk q cB cI tl lv lb ln tp ll id ms sc st) (fun _ => True) (fun _ => (wk q cB cI tl lv lb (ln + 4) tp ll id (upd (upd (upd (upd ms (ln) (wb (w) 0)) (ln + 1) (wb (w) 1)) (ln + 2) (wb (w) 2)) (ln + 3) (wb (w) 3)) sc st)) := by
  refine Met.ofW (cc := cX0_takeWord) (maxL := 2) (ret := none) (by decide) rfl ?_
  intro p e s m args below meth c s₁ B hml hv
  obtain ⟨rfl, hP, hK, hD, hZ⟩ := hv
  have hx := B.exec
  have hb := B.bytes
  have hr := B.returns
  have hts := atoms_spec (ws := wsX0_takeWord) B.pre
  have hown : s.vm.findClass RX0 = some m.cls := findClass_of_methodNamed B.named
  have hlocks := B.notSynchronized
  have hS : va_S A s.heap s.heap [] := va_S.rf
  have hl := lv_entry ([.ref (q 4), .int w]) (n := 2) (Nat.le_of_ble_eq_true rfl)
  rw [lg_entry_eq]
  generalize (lg_sl ([.ref (q 4), .int w]) ++ List.replicate (2 - (lg_sl ([.ref (q 4), .int w])).length) Slot.unset).toArray = ls at hl ⊢
  have hl : lv_has ls 2 [(0, .ref (q 4)), (1, .int w)] := hl
  refine lv_aload_n hx hb dX0_takeWord_0 rfl (lv_at hl 0 rfl) ?_
  refine lv_iload_n hx hb dX0_takeWord_1 rfl (lv_at hl 1 rfl) ?_
  refine lv_bipush (v := ((24 : Int32))) hx hb dX0_takeWord_2 (by decide) ?_
  refine lv_iushr hx hb dX0_takeWord_4 rfl ?_
  refine kc_v (As := [.int ((((w)).toUInt32 >>> ((((24 : Int32))).toUInt32 &&& Int32.toUInt32 31)).toInt32)]) (rest := []) ⟨hx, hb, hml, hown, hts⟩ (c_D_takeByte l D A q cB cI tl lv lb ln tp ll id ms sc st (((((w)).toUInt32 >>> ((((24 : Int32))).toUInt32 &&& Int32.toUInt32 31)).toInt32)) (by omega)) (cwV 1 hts gX0_takeWord_X0_takeByte rfl rfl rfl (by decide +kernel) ⟨Nat.le_of_ble_eq_true rfl, Nat.le_of_ble_eq_true rfl⟩) (va_recv hK hP (ci := 0) (q0 := 4) rfl rfl) hK hP hD hS hZ rfl hl.1 rfl (Nat.le_of_ble_eq_true rfl) ⟨Nat.zero_le _, Nat.zero_le _⟩ dX0_takeWord_5 (fun _ H locs _ hP hD hS => ?_)
  have hP : va_P D vwCl (wk q cB cI tl lv lb (ln + 1) tp ll id (upd ms ln ((((((w)).toUInt32 >>> ((((24 : Int32))).toUInt32 &&& Int32.toUInt32 31)).toInt32)).toInt8.toInt32)) sc st) H := hP
  have hD : va_D A (wk q cB cI tl lv lb (ln + 1) tp ll id (upd ms ln ((((((w)).toUInt32 >>> ((((24 : Int32))).toUInt32 &&& Int32.toUInt32 31)).toInt32)).toInt8.toInt32)) sc st) := hD
  refine lv_aload_n hx hb dX0_takeWord_8 rfl (lv_at hl 0 rfl) ?_
  refine lv_iload_n hx hb dX0_takeWord_9 rfl (lv_at hl 1 rfl) ?_
  refine lv_bipush (v := ((16 : Int32))) hx hb dX0_takeWord_10 (by decide) ?_
  refine lv_iushr hx hb dX0_takeWord_12 rfl ?_
  refine kc_v (As := [.int ((((w)).toUInt32 >>> ((((16 : Int32))).toUInt32 &&& Int32.toUInt32 31)).toInt32)]) (rest := []) ⟨hx, hb, hml, hown, hts⟩ (c_D_takeByte l D A q cB cI tl lv lb (ln + 1) tp ll id (upd ms ln ((((((w)).toUInt32 >>> ((((24 : Int32))).toUInt32 &&& Int32.toUInt32 31)).toInt32)).toInt8.toInt32)) sc st (((((w)).toUInt32 >>> ((((16 : Int32))).toUInt32 &&& Int32.toUInt32 31)).toInt32)) (by omega)) (cwV 1 hts gX0_takeWord_X0_takeByte rfl rfl rfl (by decide +kernel) ⟨Nat.le_of_ble_eq_true rfl, Nat.le_of_ble_eq_true rfl⟩) (va_recv hK hP (ci := 0) (q0 := 4) rfl rfl) hK hP hD hS hZ rfl hl.1 rfl (Nat.le_of_ble_eq_true rfl) ⟨Nat.zero_le _, Nat.zero_le _⟩ dX0_takeWord_13 (fun _ H locs _ hP hD hS => ?_)
  have hP : va_P D vwCl (wk q cB cI tl lv lb ((ln + 1) + 1) tp ll id (upd (upd ms ln ((((((w)).toUInt32 >>> ((((24 : Int32))).toUInt32 &&& Int32.toUInt32 31)).toInt32)).toInt8.toInt32)) (ln + 1) ((((((w)).toUInt32 >>> ((((16 : Int32))).toUInt32 &&& Int32.toUInt32 31)).toInt32)).toInt8.toInt32)) sc st) H := hP
  have hD : va_D A (wk q cB cI tl lv lb ((ln + 1) + 1) tp ll id (upd (upd ms ln ((((((w)).toUInt32 >>> ((((24 : Int32))).toUInt32 &&& Int32.toUInt32 31)).toInt32)).toInt8.toInt32)) (ln + 1) ((((((w)).toUInt32 >>> ((((16 : Int32))).toUInt32 &&& Int32.toUInt32 31)).toInt32)).toInt8.toInt32)) sc st) := hD
  refine lv_aload_n hx hb dX0_takeWord_16 rfl (lv_at hl 0 rfl) ?_
  refine lv_iload_n hx hb dX0_takeWord_17 rfl (lv_at hl 1 rfl) ?_
  refine lv_bipush (v := ((8 : Int32))) hx hb dX0_takeWord_18 (by decide) ?_
  refine lv_iushr hx hb dX0_takeWord_20 rfl ?_
  refine kc_v (As := [.int ((((w)).toUInt32 >>> ((((8 : Int32))).toUInt32 &&& Int32.toUInt32 31)).toInt32)]) (rest := []) ⟨hx, hb, hml, hown, hts⟩ (c_D_takeByte l D A q cB cI tl lv lb ((ln + 1) + 1) tp ll id (upd (upd ms ln ((((((w)).toUInt32 >>> ((((24 : Int32))).toUInt32 &&& Int32.toUInt32 31)).toInt32)).toInt8.toInt32)) (ln + 1) ((((((w)).toUInt32 >>> ((((16 : Int32))).toUInt32 &&& Int32.toUInt32 31)).toInt32)).toInt8.toInt32)) sc st (((((w)).toUInt32 >>> ((((8 : Int32))).toUInt32 &&& Int32.toUInt32 31)).toInt32)) (by omega)) (cwV 1 hts gX0_takeWord_X0_takeByte rfl rfl rfl (by decide +kernel) ⟨Nat.le_of_ble_eq_true rfl, Nat.le_of_ble_eq_true rfl⟩) (va_recv hK hP (ci := 0) (q0 := 4) rfl rfl) hK hP hD hS hZ rfl hl.1 rfl (Nat.le_of_ble_eq_true rfl) ⟨Nat.zero_le _, Nat.zero_le _⟩ dX0_takeWord_21 (fun _ H locs _ hP hD hS => ?_)
  have hP : va_P D vwCl (wk q cB cI tl lv lb (((ln + 1) + 1) + 1) tp ll id (upd (upd (upd ms ln ((((((w)).toUInt32 >>> ((((24 : Int32))).toUInt32 &&& Int32.toUInt32 31)).toInt32)).toInt8.toInt32)) (ln + 1) ((((((w)).toUInt32 >>> ((((16 : Int32))).toUInt32 &&& Int32.toUInt32 31)).toInt32)).toInt8.toInt32)) ((ln + 1) + 1) ((((((w)).toUInt32 >>> ((((8 : Int32))).toUInt32 &&& Int32.toUInt32 31)).toInt32)).toInt8.toInt32)) sc st) H := hP
  have hD : va_D A (wk q cB cI tl lv lb (((ln + 1) + 1) + 1) tp ll id (upd (upd (upd ms ln ((((((w)).toUInt32 >>> ((((24 : Int32))).toUInt32 &&& Int32.toUInt32 31)).toInt32)).toInt8.toInt32)) (ln + 1) ((((((w)).toUInt32 >>> ((((16 : Int32))).toUInt32 &&& Int32.toUInt32 31)).toInt32)).toInt8.toInt32)) ((ln + 1) + 1) ((((((w)).toUInt32 >>> ((((8 : Int32))).toUInt32 &&& Int32.toUInt32 31)).toInt32)).toInt8.toInt32)) sc st) := hD
  refine lv_aload_n hx hb dX0_takeWord_24 rfl (lv_at hl 0 rfl) ?_
  refine lv_iload_n hx hb dX0_takeWord_25 rfl (lv_at hl 1 rfl) ?_
  refine kc_v (As := [.int w]) (rest := []) ⟨hx, hb, hml, hown, hts⟩ (c_D_takeByte l D A q cB cI tl lv lb (((ln + 1) + 1) + 1) tp ll id (upd (upd (upd ms ln ((((((w)).toUInt32 >>> ((((24 : Int32))).toUInt32 &&& Int32.toUInt32 31)).toInt32)).toInt8.toInt32)) (ln + 1) ((((((w)).toUInt32 >>> ((((16 : Int32))).toUInt32 &&& Int32.toUInt32 31)).toInt32)).toInt8.toInt32)) ((ln + 1) + 1) ((((((w)).toUInt32 >>> ((((8 : Int32))).toUInt32 &&& Int32.toUInt32 31)).toInt32)).toInt8.toInt32)) sc st ((w)) (by omega)) (cwV 1 hts gX0_takeWord_X0_takeByte rfl rfl rfl (by decide +kernel) ⟨Nat.le_of_ble_eq_true rfl, Nat.le_of_ble_eq_true rfl⟩) (va_recv hK hP (ci := 0) (q0 := 4) rfl rfl) hK hP hD hS hZ rfl hl.1 rfl (Nat.le_of_ble_eq_true rfl) ⟨Nat.zero_le _, Nat.zero_le _⟩ dX0_takeWord_26 (fun _ H locs _ hP hD hS => ?_)
  have hP : va_P D vwCl (wk q cB cI tl lv lb ((((ln + 1) + 1) + 1) + 1) tp ll id (upd (upd (upd (upd ms ln ((((((w)).toUInt32 >>> ((((24 : Int32))).toUInt32 &&& Int32.toUInt32 31)).toInt32)).toInt8.toInt32)) (ln + 1) ((((((w)).toUInt32 >>> ((((16 : Int32))).toUInt32 &&& Int32.toUInt32 31)).toInt32)).toInt8.toInt32)) ((ln + 1) + 1) ((((((w)).toUInt32 >>> ((((8 : Int32))).toUInt32 &&& Int32.toUInt32 31)).toInt32)).toInt8.toInt32)) (((ln + 1) + 1) + 1) (((w)).toInt8.toInt32)) sc st) H := hP
  have hD : va_D A (wk q cB cI tl lv lb ((((ln + 1) + 1) + 1) + 1) tp ll id (upd (upd (upd (upd ms ln ((((((w)).toUInt32 >>> ((((24 : Int32))).toUInt32 &&& Int32.toUInt32 31)).toInt32)).toInt8.toInt32)) (ln + 1) ((((((w)).toUInt32 >>> ((((16 : Int32))).toUInt32 &&& Int32.toUInt32 31)).toInt32)).toInt8.toInt32)) ((ln + 1) + 1) ((((((w)).toUInt32 >>> ((((8 : Int32))).toUInt32 &&& Int32.toUInt32 31)).toInt32)).toInt8.toInt32)) (((ln + 1) + 1) + 1) (((w)).toInt8.toInt32)) sc st) := hD
  exact kr_v (()) hx hb hr hlocks hK hP hD hS (trivial) dX0_takeWord_29

set_option maxHeartbeats 4000000 in
set_option maxRecDepth 100000 in
/-- takeBytes: the first n bytes of the tape -/
theorem c_D_takeBytes (l : Launch) (D : va_G) (A : Nat → Prop) (q : Nat → Nat) (cB cI : ClassId) (tl lv lb ln : Nat) (tp : Nat → Int32) (ll : Nat → Nat) (id ms sc st : Nat → Int32) (n : Nat) (h1 : n ≤ 150) (h2 : ln + n ≤ 192) : Kv (S := Unit) l yX0_takeBytes wsX0_takeBytes { frames := 1, cells := 0, slots := 0, locals := 21 } D vwCl [(cB, .byte), (cI, .int)] A (zk q) [.ref (q 4), .ref (q 1), .int (nI n)] (wk q cB cI tl lv lb ln tp ll id ms sc st) (fun _ => True) (fun _ => (wk q cB cI tl lv lb (ln + n) tp ll id (cat ms ln (fun j => (tp j).toInt8.toInt32) n) sc st)) := by
  refine Met.ofW (cc := cX0_takeBytes) (maxL := 4) (ret := none) (by decide) rfl ?_
  intro p e s m args below meth c s₁ B hml hv
  obtain ⟨rfl, hP, hK, hD, hZ⟩ := hv
  have hx := B.exec
  have hb := B.bytes
  have hr := B.returns
  have hts := atoms_spec (ws := wsX0_takeBytes) B.pre
  have hown : s.vm.findClass RX0 = some m.cls := findClass_of_methodNamed B.named
  have hlocks := B.notSynchronized
  have hS : va_S A s.heap s.heap [] := va_S.rf
  have hl := lv_entry ([.ref (q 4), .ref (q 1), .int (nI n)]) (n := 4) (Nat.le_of_ble_eq_true rfl)
  rw [lg_entry_eq]
  generalize (lg_sl ([.ref (q 4), .ref (q 1), .int (nI n)]) ++ List.replicate (4 - (lg_sl ([.ref (q 4), .ref (q 1), .int (nI n)])).length) Slot.unset).toArray = ls at hl ⊢
  have hl : lv_has ls 4 [(0, .ref (q 4)), (1, .ref (q 1)), (2, .int (nI n))] := hl
  rw [← cat_0 ms ln (fun j => (tp j).toInt8.toInt32)] at hP hD
  refine lv_iconst (v := (nI (0))) hx hb dX0_takeBytes_0 (by decide) ?_
  refine lv_istore_n (lv' := [(3, .int (nI 0)), (0, .ref (q 4)), (1, .ref (q 1)), (2, .int (nI n))]) hx hb dX0_takeBytes_1 rfl hl (by decide) rfl (fun ls hl => ?_)
  refine kp_lp (hd := 2) (nn := n) (fun (i : Nat) (H : Heap) (locs : List Loc) (ls : Array Slot) => va_P D vwCl (wk q cB cI tl lv lb (ln + i) tp ll id (cat ms ln (fun j => (tp j).toInt8.toInt32) i) sc st) H ∧ va_D A (wk q cB cI tl lv lb (ln + i) tp ll id (cat ms ln (fun j => (tp j).toInt8.toInt32) i) sc st) ∧ va_S A s.heap H locs ∧ lv_has ls 4 [(0, .ref (q 4)), (1, .ref (q 1)), (2, .int (nI n)), (3, .int (nI i))]) ?_ 0 (by omega) _ _ _ ⟨hP, hD, hS, (lv_sub hl [1, 2, 3, 0] rfl)⟩
  intro i hiN H locs ls hI ih
  obtain ⟨hP, hD, hS, hl⟩ := hI
  refine lv_iload_n hx hb dX0_takeBytes_2 rfl (lv_at hl 3 rfl) ?_
  refine lv_iload_n hx hb dX0_takeBytes_3 rfl (lv_at hl 2 rfl) ?_
  refine lv_icmp_ge (tgt := 26) hx hb dX0_takeBytes_4 (by decide) (fun c_4 => ?_) (fun c_4 => ?_)
  · have c_4 : n ≤ i := kn_le c_4 (by omega) (by omega)
    have e9 : n = i := by omega
    subst e9
    exact kr_v (()) hx hb hr hlocks hK hP hD hS (trivial) dX0_takeBytes_26
  · have c_4 : i < n := kn_nle c_4 (by omega) (by omega)
    have hlt : i < n := c_4
    refine lv_iload_n hx hb dX0_takeBytes_7 rfl (lv_at hl 3 rfl) ?_
    refine lv_aload_n hx hb dX0_takeBytes_8 rfl (lv_at hl 1 rfl) ?_
    refine va_alen (v := nI 150) hx hb hK hP 1 0 rfl rfl rfl dX0_takeBytes_9 ?_
    refine lv_icmp_ge (tgt := 26) hx hb dX0_takeBytes_10 (by decide) (fun c_10 => absurd (kn_le c_10 (by omega) (by omega)) (by omega)) (fun c_10 => ?_)
    have c_10 : i < 150 := kn_nle c_10 (by omega) (by omega)
    refine lv_aload_n hx hb dX0_takeBytes_13 rfl (lv_at hl 0 rfl) ?_
    refine lv_aload_n hx hb dX0_takeBytes_14 rfl (lv_at hl 1 rfl) ?_
    refine lv_iload_n hx hb dX0_takeBytes_15 rfl (lv_at hl 3 rfl) ?_
    refine kb_bald hx hb hK hP 1 0 rfl rfl (i) (rfl) (by omega) (by decide) dX0_takeBytes_16 ?_
    refine kc_v (As := [.int (tp (i))]) (rest := []) ⟨hx, hb, hml, hown, hts⟩ (c_D_takeByte l D A q cB cI tl lv lb (ln + i) tp ll id (cat ms ln (fun j => (tp j).toInt8.toInt32) i) sc st ((tp (i))) (by omega)) (cwV 1 hts gX0_takeBytes_X0_takeByte rfl rfl rfl (by decide +kernel) ⟨Nat.le_of_ble_eq_true rfl, Nat.le_of_ble_eq_true rfl⟩) (va_recv hK hP (ci := 0) (q0 := 4) rfl rfl) hK hP hD hS hZ rfl hl.1 rfl (Nat.le_of_ble_eq_true rfl) ⟨Nat.zero_le _, Nat.zero_le _⟩ dX0_takeBytes_17 (fun _ H locs _ hP hD hS => ?_)
    have hP : va_P D vwCl (wk q cB cI tl lv lb ((ln + i) + 1) tp ll id (upd (cat ms ln (fun j => (tp j).toInt8.toInt32) i) (ln + i) (((tp (i))).toInt8.toInt32)) sc st) H := hP
    have hD : va_D A (wk q cB cI tl lv lb ((ln + i) + 1) tp ll id (upd (cat ms ln (fun j => (tp j).toInt8.toInt32) i) (ln + i) (((tp (i))).toInt8.toInt32)) sc st) := hD
    rw [cat_s _ _ _ _ rfl] at hP hD
    have hP : va_P D vwCl (wk q cB cI tl lv lb ((ln + i) + 1) tp ll id (cat ms ln (fun j => (tp j).toInt8.toInt32) (i + 1)) sc st) H := hP
    have hD : va_D A (wk q cB cI tl lv lb ((ln + i) + 1) tp ll id (cat ms ln (fun j => (tp j).toInt8.toInt32) (i + 1)) sc st) := hD
    refine lv_iinc (v := (nI (i + 1))) (lv' := [(3, .int (nI (i + 1))), (0, .ref (q 4)), (1, .ref (q 1)), (2, .int (nI n))]) hx hb dX0_takeBytes_20 hl (k := 3) rfl (kn_inc _ _ 1 rfl) (by decide) rfl (fun ls hl => ?_)
    refine lv_goto (tgt := 2) hx hb dX0_takeBytes_23 (by decide) ?_
    exact ih hlt _ _ _ ⟨hP, hD, hS, (lv_sub hl [1, 2, 3, 0] rfl)⟩

set_option maxHeartbeats 4000000 in
set_option maxRecDepth 100000 in
/-- takeId: the 32 bytes of the id at a -/
theorem c_D_takeId (l : Launch) (D : va_G) (A : Nat → Prop) (q : Nat → Nat) (cB cI : ClassId) (tl lv lb ln : Nat) (tp : Nat → Int32) (ll : Nat → Nat) (id ms sc st : Nat → Int32) (a : Nat) (h1 : a + 8 ≤ 1624) (h2 : ln + 32 ≤ 192) : Kv (S := Unit) l yX0_takeId wsX0_takeId { frames := 2, cells := 0, slots := 0, locals := 42 } D vwCl [(cB, .byte), (cI, .int)] A (zk q) [.ref (q 4), .ref (q 3), .int (nI a)] (wk q cB cI tl lv lb ln tp ll id ms sc st) (fun _ => True) (fun _ => (wk q cB cI tl lv lb (ln + 32) tp ll id (cat ms ln (fun j => wb (id (a + j / 4)) (j % 4)) 32) sc st)) := by
  refine Met.ofW (cc := cX0_takeId) (maxL := 4) (ret := none) (by decide) rfl ?_
  intro p e s m args below meth c s₁ B hml hv
  obtain ⟨rfl, hP, hK, hD, hZ⟩ := hv
  have hx := B.exec
  have hb := B.bytes
  have hr := B.returns
  have hts := atoms_spec (ws := wsX0_takeId) B.pre
  have hown : s.vm.findClass RX0 = some m.cls := findClass_of_methodNamed B.named
  have hlocks := B.notSynchronized
  have hS : va_S A s.heap s.heap [] := va_S.rf
  have hl := lv_entry ([.ref (q 4), .ref (q 3), .int (nI a)]) (n := 4) (Nat.le_of_ble_eq_true rfl)
  rw [lg_entry_eq]
  generalize (lg_sl ([.ref (q 4), .ref (q 3), .int (nI a)]) ++ List.replicate (4 - (lg_sl ([.ref (q 4), .ref (q 3), .int (nI a)])).length) Slot.unset).toArray = ls at hl ⊢
  have hl : lv_has ls 4 [(0, .ref (q 4)), (1, .ref (q 3)), (2, .int (nI a))] := hl
  rw [← cat_0 ms ln (fun j => wb (id (a + j / 4)) (j % 4))] at hP hD
  refine lv_iload_n hx hb dX0_takeId_0 rfl (lv_at hl 2 rfl) ?_
  refine lv_if_lt (tgt := 13) hx hb dX0_takeId_1 (by decide) (fun c_1 => absurd c_1 (nI_pos (by omega))) (fun c_1 => ?_)
  refine lv_iload_n hx hb dX0_takeId_4 rfl (lv_at hl 2 rfl) ?_
  refine lv_bipush (v := (nI (8))) hx hb dX0_takeId_5 (by decide) ?_
  refine lv_iadd hx hb dX0_takeId_7 ?_
  refine kp_i (nI_add _ _) ?_
  refine lv_aload_n hx hb dX0_takeId_8 rfl (lv_at hl 1 rfl) ?_
  refine va_alen (v := nI 1624) hx hb hK hP 3 1 rfl rfl rfl dX0_takeId_9 ?_
  refine lv_icmp_le (tgt := 14) hx hb dX0_takeId_10 (by decide) (fun c_10 => ?_) (fun c_10 => absurd (kn_nle c_10 (by omega) (by omega)) (by omega))
  have c_10 : (a + 8) ≤ 1624 := kn_le c_10 (by omega) (by omega)
  refine lv_iconst (v := (nI (0))) hx hb dX0_takeId_14 (by decide) ?_
  refine lv_istore_n (lv' := [(3, .int (nI 0)), (0, .ref (q 4)), (1, .ref (q 3)), (2, .int (nI a))]) hx hb dX0_takeId_15 rfl hl (by decide) rfl (fun ls hl => ?_)
  refine kp_lp (hd := 16) (nn := 8) (fun (i : Nat) (H : Heap) (locs : List Loc) (ls : Array Slot) => va_P D vwCl (wk q cB cI tl lv lb (ln + 4 * i) tp ll id (cat ms ln (fun j => wb (id (a + j / 4)) (j % 4)) (4 * i)) sc st) H ∧ va_D A (wk q cB cI tl lv lb (ln + 4 * i) tp ll id (cat ms ln (fun j => wb (id (a + j / 4)) (j % 4)) (4 * i)) sc st) ∧ va_S A s.heap H locs ∧ lv_has ls 4 [(0, .ref (q 4)), (1, .ref (q 3)), (2, .int (nI a)), (3, .int (nI i))]) ?_ 0 (by omega) _ _ _ ⟨hP, hD, hS, (lv_sub hl [1, 2, 3, 0] rfl)⟩
  intro i hiN H locs ls hI ih
  obtain ⟨hP, hD, hS, hl⟩ := hI
  refine lv_iload_n hx hb dX0_takeId_16 rfl (lv_at hl 3 rfl) ?_
  refine lv_bipush (v := (nI (8))) hx hb dX0_takeId_17 (by decide) ?_
  refine lv_icmp_ge (tgt := 37) hx hb dX0_takeId_19 (by decide) (fun c_19 => ?_) (fun c_19 => ?_)
  · have c_19 : 8 ≤ i := kn_le c_19 (by omega) (by omega)
    have e9 : 8 = i := by omega
    subst e9
    exact kr_v (()) hx hb hr hlocks hK hP hD hS (trivial) dX0_takeId_37
  · have c_19 : i < 8 := kn_nle c_19 (by omega) (by omega)
    have hlt : i < 8 := c_19
    refine lv_aload_n hx hb dX0_takeId_22 rfl (lv_at hl 0 rfl) ?_
    refine lv_aload_n hx hb dX0_takeId_23 rfl (lv_at hl 1 rfl) ?_
    refine lv_iload_n hx hb dX0_takeId_24 rfl (lv_at hl 2 rfl) ?_
    refine lv_iload_n hx hb dX0_takeId_25 rfl (lv_at hl 3 rfl) ?_
    refine lv_iadd hx hb dX0_takeId_26 ?_
    refine kp_i (nI_add _ _) ?_
    refine kb_iald hx hb hK hP 3 1 rfl rfl (a + i) (rfl) (by omega) (by decide) dX0_takeId_27 ?_
    refine kc_v (As := [.int (id (a + i))]) (rest := []) ⟨hx, hb, hml, hown, hts⟩ (c_D_takeWord l D A q cB cI tl lv lb (ln + 4 * i) tp ll id (cat ms ln (fun j => wb (id (a + j / 4)) (j % 4)) (4 * i)) sc st ((id (a + i))) (by omega)) (cwV 1 hts gX0_takeId_X0_takeWord rfl rfl rfl (by decide +kernel) ⟨Nat.le_of_ble_eq_true rfl, Nat.le_of_ble_eq_true rfl⟩) (va_recv hK hP (ci := 0) (q0 := 4) rfl rfl) hK hP hD hS hZ rfl hl.1 rfl (Nat.le_of_ble_eq_true rfl) ⟨Nat.zero_le _, Nat.zero_le _⟩ dX0_takeId_28 (fun _ H locs _ hP hD hS => ?_)
    have hP : va_P D vwCl (wk q cB cI tl lv lb ((ln + 4 * i) + 4) tp ll id (upd (upd (upd (upd (cat ms ln (fun j => wb (id (a + j / 4)) (j % 4)) (4 * i)) (ln + 4 * i) (wb (id (a + i)) 0)) ((ln + 4 * i) + 1) (wb (id (a + i)) 1)) ((ln + 4 * i) + 2) (wb (id (a + i)) 2)) ((ln + 4 * i) + 3) (wb (id (a + i)) 3)) sc st) H := hP
    have hD : va_D A (wk q cB cI tl lv lb ((ln + 4 * i) + 4) tp ll id (upd (upd (upd (upd (cat ms ln (fun j => wb (id (a + j / 4)) (j % 4)) (4 * i)) (ln + 4 * i) (wb (id (a + i)) 0)) ((ln + 4 * i) + 1) (wb (id (a + i)) 1)) ((ln + 4 * i) + 2) (wb (id (a + i)) 2)) ((ln + 4 * i) + 3) (wb (id (a + i)) 3)) sc st) := hD
    rw [cat_w ms ln i (f := (fun j => wb (id (a + j / 4)) (j % 4))) (w := id (a + i)) (by rw [ct_d0, ct_m0]) (by rw [ct_d1, ct_m1]) (by rw [ct_d2, ct_m2]) (by rw [ct_d3, ct_m3])] at hP hD
    have hP : va_P D vwCl (wk q cB cI tl lv lb ((ln + 4 * i) + 4) tp ll id (cat ms ln (fun j => wb (id (a + j / 4)) (j % 4)) (4 * (i + 1))) sc st) H := hP
    have hD : va_D A (wk q cB cI tl lv lb ((ln + 4 * i) + 4) tp ll id (cat ms ln (fun j => wb (id (a + j / 4)) (j % 4)) (4 * (i + 1))) sc st) := hD
    refine lv_iinc (v := (nI (i + 1))) (lv' := [(3, .int (nI (i + 1))), (0, .ref (q 4)), (1, .ref (q 3)), (2, .int (nI a))]) hx hb dX0_takeId_31 hl (k := 3) rfl (kn_inc _ _ 1 rfl) (by decide) rfl (fun ls hl => ?_)
    refine lv_goto (tgt := 16) hx hb dX0_takeId_34 (by decide) ?_
    exact ih hlt _ _ _ ⟨hP, hD, hS, (lv_sub hl [1, 2, 3, 0] rfl)⟩

set_option maxHeartbeats 4000000 in
set_option maxRecDepth 100000 in
/-- pad: the padding comes behind -/
theorem c_D_pad (l : Launch) (D : va_G) (A : Nat → Prop) (q : Nat → Nat) (cB cI : ClassId) (tl lv lb ln : Nat) (tp : Nat → Int32) (ll : Nat → Nat) (id ms sc st : Nat → Int32) (h1 : ln + pl ln ≤ 192) : Kv (S := Unit) l yX0_pad wsX0_pad { frames := 1, cells := 0, slots := 0, locals := 21 } D vwCl [(cB, .byte), (cI, .int)] A (zk q) [.ref (q 4)] (wk q cB cI tl lv lb ln tp ll id ms sc st) (fun _ => True) (fun _ => (wk q cB cI tl lv lb (ln + pl ln) tp ll id (cat ms ln (pd ln) (pl ln)) sc st)) := by
  refine Met.ofW (cc := cX0_pad) (maxL := 4) (ret := none) (by decide) rfl ?_
  intro p e s m args below meth c s₁ B hml hv
  obtain ⟨rfl, hP, hK, hD, hZ⟩ := hv
  have hx := B.exec
  have hb := B.bytes
  have hr := B.returns
  have hts := atoms_spec (ws := wsX0_pad) B.pre
  have hown : s.vm.findClass RX0 = some m.cls := findClass_of_methodNamed B.named
  have hlocks := B.notSynchronized
  have hS : va_S A s.heap s.heap [] := va_S.rf
  have hin_0 : ∀ w ∈ u_ws RX0 TX0 4, w ∈ wsX0_pad := by decide +kernel
  have lk_22 := hts (.fieldLink RX0 22 "RootDesk$Digest" "length" "I") (by decide +kernel)
  have hl := lv_entry ([.ref (q 4)]) (n := 4) (Nat.le_of_ble_eq_true rfl)
  rw [lg_entry_eq]
  generalize (lg_sl ([.ref (q 4)]) ++ List.replicate (4 - (lg_sl ([.ref (q 4)])).length) Slot.unset).toArray = ls at hl ⊢
  have hl : lv_has ls 4 [(0, .ref (q 4))] := hl
  have hpl : pl ln = pz ln + 9 := rfl
  refine lv_ldc2 (v := 8) hx hb hown (hts (.constantLong RX0 45 (8)) (by decide +kernel)) dX0_pad_0 ?_
  refine lv_aload_n hx hb dX0_pad_3 rfl (lv_at hl 0 rfl) ?_
  refine va_get (D := D) (ci := 0) (v := .int (nI ln)) (C := RX0) (T := TX0) (N := 4) hx hb hts hin_0 hown hK hP 4 rfl rfl 3 (by decide) lk_22 (fun _ h9 => h9) rfl dX0_pad_4 ?_
  refine lv_i2l hx hb dX0_pad_7 rfl ?_
  refine lv_lmul hx hb dX0_pad_8 ?_
  refine lv_lstore_n (lv' := [(1, .long (((8 : Int64)) * (((nI (ln))).toInt64))), (0, .ref (q 4))]) hx hb dX0_pad_9 rfl hl (by decide) rfl (fun ls hl => ?_)
  refine lv_aload_n hx hb dX0_pad_10 rfl (lv_at hl 1 rfl) ?_
  refine lv_sipush (v := ((128 : Int32))) hx hb dX0_pad_11 (by decide) ?_
  refine kc_v (As := [.int ((128 : Int32))]) (rest := []) ⟨hx, hb, hml, hown, hts⟩ (c_D_takeByte l D A q cB cI tl lv lb ln tp ll id ms sc st (((128 : Int32))) (by omega)) (cwV 1 hts gX0_pad_X0_takeByte rfl rfl rfl (by decide +kernel) ⟨Nat.le_of_ble_eq_true rfl, Nat.le_of_ble_eq_true rfl⟩) (va_recv hK hP (ci := 0) (q0 := 4) rfl rfl) hK hP hD hS hZ rfl hl.1 rfl (Nat.le_of_ble_eq_true rfl) ⟨Nat.zero_le _, Nat.zero_le _⟩ dX0_pad_14 (fun _ H locs _ hP hD hS => ?_)
  have hP : va_P D vwCl (wk q cB cI tl lv lb (ln + 1) tp ll id (upd ms ln ((((128 : Int32))).toInt8.toInt32)) sc st) H := hP
  have hD : va_D A (wk q cB cI tl lv lb (ln + 1) tp ll id (upd ms ln ((((128 : Int32))).toInt8.toInt32)) sc st) := hD
  rw [cat_1 (x := (128 : Int32).toInt8.toInt32) (f := pd ln) rfl] at hP hD
  have hP : va_P D vwCl (wk q cB cI tl lv lb (ln + 1) tp ll id (cat ms ln (pd ln) 1) sc st) H := hP
  have hD : va_D A (wk q cB cI tl lv lb (ln + 1) tp ll id (cat ms ln (pd ln) 1) sc st) := hD
  refine lv_iconst (v := (nI (0))) hx hb dX0_pad_17 (by decide) ?_
  refine lv_istore_n (lv' := [(3, .int (nI 0)), (1, .long (((8 : Int64)) * (((nI (ln))).toInt64))), (0, .ref (q 4))]) hx hb dX0_pad_18 rfl hl (by decide) rfl (fun ls hl => ?_)
  refine kp_lp (hd := 19) (nn := pz ln) (fun (i : Nat) (H : Heap) (locs : List Loc) (ls : Array Slot) => va_P D vwCl (wk q cB cI tl lv lb (ln + 1 + i) tp ll id (cat ms ln (pd ln) (1 + i)) sc st) H ∧ va_D A (wk q cB cI tl lv lb (ln + 1 + i) tp ll id (cat ms ln (pd ln) (1 + i)) sc st) ∧ va_S A s.heap H locs ∧ lv_has ls 4 [(0, .ref (q 4)), (1, .long ((8 : Int64) * (nI (ln)).toInt64)), (3, .int (nI i))]) ?_ 0 (by omega) _ _ _ ⟨hP, hD, hS, (lv_sub hl [2, 1, 0] rfl)⟩
  intro i hiN H locs ls hI ih
  obtain ⟨hP, hD, hS, hl⟩ := hI
  refine lv_iload_n hx hb dX0_pad_19 rfl (lv_at hl 2 rfl) ?_
  refine lv_bipush (v := (nI (64))) hx hb dX0_pad_20 (by decide) ?_
  refine lv_icmp_ge (tgt := 48) hx hb dX0_pad_22 (by decide) (fun c_22 => absurd (kn_le c_22 (by omega) (by omega)) (by have := pz_lt ln; omega)) (fun c_22 => ?_)
  have c_22 : i < 64 := kn_nle c_22 (by omega) (by omega)
  refine lv_aload_n hx hb dX0_pad_25 rfl (lv_at hl 0 rfl) ?_
  refine va_get (D := D) (ci := 0) (v := .int (nI (ln + 1 + i))) (C := RX0) (T := TX0) (N := 4) hx hb hts hin_0 hown hK hP 4 rfl rfl 3 (by decide) lk_22 (fun _ h9 => h9) rfl dX0_pad_26 ?_
  refine lv_bipush (v := (nI (64))) hx hb dX0_pad_29 (by decide) ?_
  refine lv_irem hx hb dX0_pad_31 (by decide) ?_
  refine kp_i (y := (nI ((ln + 1 + i) % 64))) (pk_rem (by omega) (by decide) (by decide)) ?_
  refine lv_bipush (v := (nI (56))) hx hb dX0_pad_32 (by decide) ?_
  refine lv_icmp_eq (tgt := 48) hx hb dX0_pad_34 (by decide) (fun c_34 => ?_) (fun c_34 => ?_)
  · have c_34 : ((ln + 1 + i) % 64) = 56 := kn_eq c_34 (by omega) (by omega)
    have e9 : pz ln = i := (pz_at hiN c_34).symm
    subst e9
    refine lv_bipush (v := (sf 0)) hx hb dX0_pad_48 (by decide) ?_
    refine lv_istore_n (lv' := [(3, .int (sf 0)), (0, .ref (q 4)), (1, .long ((8 : Int64) * (nI (ln)).toInt64))]) hx hb dX0_pad_50 rfl hl (by decide) rfl (fun ls hl => ?_)
    refine kp_lp (hd := 51) (nn := 8) (fun (i : Nat) (H : Heap) (locs : List Loc) (ls : Array Slot) => va_P D vwCl (wk q cB cI tl lv lb (ln + 1 + pz ln + i) tp ll id (cat ms ln (pd ln) (1 + pz ln + i)) sc st) H ∧ va_D A (wk q cB cI tl lv lb (ln + 1 + pz ln + i) tp ll id (cat ms ln (pd ln) (1 + pz ln + i)) sc st) ∧ va_S A s.heap H locs ∧ lv_has ls 4 [(0, .ref (q 4)), (1, .long ((8 : Int64) * (nI (ln)).toInt64)), (3, .int (sf i))]) ?_ 0 (by omega) _ _ _ ⟨hP, hD, hS, (lv_sub hl [1, 2, 0] rfl)⟩
    intro i hiN H locs ls hI ih
    obtain ⟨hP, hD, hS, hl⟩ := hI
    refine lv_iload_n hx hb dX0_pad_51 rfl (lv_at hl 2 rfl) ?_
    refine lv_if_lt (tgt := 69) hx hb dX0_pad_52 (by decide) (fun c_52 => ?_) (fun c_52 => ?_)
    · have e9 : 8 = i := (sf_lt hiN c_52).symm
      subst e9
      rw [show ln + 1 + pz ln + 8 = ln + pl ln by unfold pl; omega, show 1 + pz ln + 8 = pl ln by unfold pl; omega] at hP hD
      exact kr_v (()) hx hb hr hlocks hK hP hD hS (trivial) dX0_pad_69
    · have hlt : i < 8 := sf_nlt hiN c_52
      refine lv_aload_n hx hb dX0_pad_55 rfl (lv_at hl 0 rfl) ?_
      refine lv_lload_n hx hb dX0_pad_56 rfl (lv_at hl 1 rfl) ?_
      refine lv_iload_n hx hb dX0_pad_57 rfl (lv_at hl 2 rfl) ?_
      refine lv_lushr hx hb dX0_pad_58 rfl ?_
      refine lv_l2i hx hb dX0_pad_59 rfl ?_
      refine kc_v (As := [.int (((((((8 : Int64) * (nI (ln)).toInt64)).toUInt64 >>> (((sf i)).toInt64.toUInt64 &&& Int64.toUInt64 63)).toInt64)).toInt32)]) (rest := []) ⟨hx, hb, hml, hown, hts⟩ (c_D_takeByte l D A q cB cI tl lv lb (ln + 1 + pz ln + i) tp ll id (cat ms ln (pd ln) (1 + pz ln + i)) sc st ((((((((8 : Int64) * (nI (ln)).toInt64)).toUInt64 >>> (((sf i)).toInt64.toUInt64 &&& Int64.toUInt64 63)).toInt64)).toInt32)) (by omega)) (cwV 1 hts gX0_pad_X0_takeByte rfl rfl rfl (by decide +kernel) ⟨Nat.le_of_ble_eq_true rfl, Nat.le_of_ble_eq_true rfl⟩) (va_recv hK hP (ci := 0) (q0 := 4) rfl rfl) hK hP hD hS hZ rfl hl.1 rfl (Nat.le_of_ble_eq_true rfl) ⟨Nat.zero_le _, Nat.zero_le _⟩ dX0_pad_60 (fun _ H locs _ hP hD hS => ?_)
      have hP : va_P D vwCl (wk q cB cI tl lv lb ((ln + 1 + pz ln + i) + 1) tp ll id (upd (cat ms ln (pd ln) (1 + pz ln + i)) (ln + 1 + pz ln + i) (((((((((8 : Int64) * (nI (ln)).toInt64)).toUInt64 >>> (((sf i)).toInt64.toUInt64 &&& Int64.toUInt64 63)).toInt64)).toInt32)).toInt8.toInt32)) sc st) H := hP
      have hD : va_D A (wk q cB cI tl lv lb ((ln + 1 + pz ln + i) + 1) tp ll id (upd (cat ms ln (pd ln) (1 + pz ln + i)) (ln + 1 + pz ln + i) (((((((((8 : Int64) * (nI (ln)).toInt64)).toUInt64 >>> (((sf i)).toInt64.toUInt64 &&& Int64.toUInt64 63)).toInt64)).toInt32)).toInt8.toInt32)) sc st) := hD
      rw [cat_s2 (m := ln + 1 + pz ln + i) (by omega) (pd_b ln hlt)] at hP hD
      have hP : va_P D vwCl (wk q cB cI tl lv lb ((ln + 1 + pz ln + i) + 1) tp ll id (cat ms ln (pd ln) (1 + pz ln + i + 1)) sc st) H := hP
      have hD : va_D A (wk q cB cI tl lv lb ((ln + 1 + pz ln + i) + 1) tp ll id (cat ms ln (pd ln) (1 + pz ln + i + 1)) sc st) := hD
      refine lv_iinc (v := (sf (i + 1))) (lv' := [(3, .int (sf (i + 1))), (0, .ref (q 4)), (1, .long ((8 : Int64) * (nI (ln)).toInt64))]) hx hb dX0_pad_63 hl (k := 2) rfl (sf_s hlt) (by decide) rfl (fun ls hl => ?_)
      refine lv_goto (tgt := 51) hx hb dX0_pad_66 (by decide) ?_
      exact ih hlt _ _ _ ⟨hP, hD, hS, (lv_sub hl [1, 2, 0] rfl)⟩
  · have c_34 : ((ln + 1 + i) % 64) ≠ 56 := kn_ne c_34 (by omega) (by omega)
    have hlt : i < pz ln := pz_nat hiN c_34
    refine lv_aload_n hx hb dX0_pad_37 rfl (lv_at hl 0 rfl) ?_
    refine lv_iconst (v := ((0 : Int32))) hx hb dX0_pad_38 (by decide) ?_
    refine kc_v (As := [.int ((0 : Int32))]) (rest := []) ⟨hx, hb, hml, hown, hts⟩ (c_D_takeByte l D A q cB cI tl lv lb (ln + 1 + i) tp ll id (cat ms ln (pd ln) (1 + i)) sc st (((0 : Int32))) (by omega)) (cwV 1 hts gX0_pad_X0_takeByte rfl rfl rfl (by decide +kernel) ⟨Nat.le_of_ble_eq_true rfl, Nat.le_of_ble_eq_true rfl⟩) (va_recv hK hP (ci := 0) (q0 := 4) rfl rfl) hK hP hD hS hZ rfl hl.1 rfl (Nat.le_of_ble_eq_true rfl) ⟨Nat.zero_le _, Nat.zero_le _⟩ dX0_pad_39 (fun _ H locs _ hP hD hS => ?_)
    have hP : va_P D vwCl (wk q cB cI tl lv lb ((ln + 1 + i) + 1) tp ll id (upd (cat ms ln (pd ln) (1 + i)) (ln + 1 + i) ((((0 : Int32))).toInt8.toInt32)) sc st) H := hP
    have hD : va_D A (wk q cB cI tl lv lb ((ln + 1 + i) + 1) tp ll id (upd (cat ms ln (pd ln) (1 + i)) (ln + 1 + i) ((((0 : Int32))).toInt8.toInt32)) sc st) := hD
    rw [cat_s2 (m := ln + 1 + i) (by omega) (pd_0 hlt)] at hP hD
    have hP : va_P D vwCl (wk q cB cI tl lv lb ((ln + 1 + i) + 1) tp ll id (cat ms ln (pd ln) (1 + i + 1)) sc st) H := hP
    have hD : va_D A (wk q cB cI tl lv lb ((ln + 1 + i) + 1) tp ll id (cat ms ln (pd ln) (1 + i + 1)) sc st) := hD
    refine lv_iinc (v := (nI (i + 1))) (lv' := [(3, .int (nI (i + 1))), (0, .ref (q 4)), (1, .long ((8 : Int64) * (nI (ln)).toInt64))]) hx hb dX0_pad_42 hl (k := 2) rfl (kn_inc _ _ 1 rfl) (by decide) rfl (fun ls hl => ?_)
    refine lv_goto (tgt := 19) hx hb dX0_pad_45 (by decide) ?_
    exact ih hlt _ _ _ ⟨hP, hD, hS, (lv_sub hl [1, 2, 0] rfl)⟩
